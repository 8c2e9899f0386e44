/-! the constructors: what stands when the law's loop begins -/
def ckI (v : Value) : Bool := match v with
  | .int _ => true
  | _ => false
def ckR (v : Value) (c : Nat) : Bool := match v with
  | .ref x => x == c
  | _ => false
def ckC (c : Nat) (x : aC) : Bool := match x with
  | .inl (t, n, .inl _) => kd c == 6 + t && decide (t < 2) && n == ln c
  | .inl (t, n, .inr g) => kd c == 6 + t && decide (2 ≤ t) && decide (t < 4) && n == ln c && (List.range n).all (fun i => match g i with
    | some y => y == rf c i
    | none => false)
  | .inr (ci, fs) => kd c == ci && decide (ci < 6) && fs.length == cNn ci && (List.range (cNn ci)).all (fun s => match fs[s]? with
    | some v => if fI ci s = true then ckI v else ckR v (rf c s)
    | none => false)
def vI (v : Value) : Int32 := match v with
  | .int x => x
  | _ => 0
def mem0 (A : aH) : Mem := fun c s => match A[c]? with
  | some (.inl (_, _, .inl f)) => f s
  | some (.inr (_, fs)) => (match fs[s]? with
    | some v => vI v
    | none => 0)
  | _ => 0
def ckL (ls : List Value) : Bool := match ls with
  | [.ref a, .ref b, .ref c, .int x] => a == SC && b == 0 && c == 86 && decide (x = iI 0)
  | _ => false
/-- the places that the first state speaks of, with what stands there -/
def ckV : List (Nat × Nat × Int) := [(3, 0, 4), (5, 0, 0), (5, 1, 0), (5, 2, 0), (5, 3, 0), (5, 4, 0), (5, 5, 0), (3, 4, 0), (7, 1, 0), (9, 1, 0), (11, 1, 0), (13, 1, 0), (15, 1, 0), (17, 1, 0), (19, 1, 0), (21, 1, 0), (23, 1, 0), (1, 1, 0), (42, 5, 0), (64, 5, 0), (26, 4, 0), (26, 5, 0), (30, 1, 0), (86, 0, 4), (86, 1, 0), (86, 4, 0), (86, 7, 0), (102, 0, 0), (102, 1, 0)]
def ckA (A : aH) : Bool := A.length == 103 && (List.range 103).all (fun c => match A[c]? with
    | some x => ckC c x
    | none => false) && ckV.all (fun q => decide (mem0 A q.1 q.2.1 = iI q.2.2)) && (List.range 1750).all (fun w => decide (mem0 A 27 w = iI 0))
def st18 : Option (List Value × List Value × aH) := pre o1n 18 20 1000 150 0 (c_ent 150 [.ref SC]) [] []
def ck18 : Bool := match st18 with
  | some (ls, st, A) => ckL ls && st.isEmpty && ckA A
  | none => false
theorem ck18_ok : ck18 = true := by decide +kernel
theorem ckL_spec {ls : List Value} (h : ckL ls = true) : ls = [.ref SC, .ref 0, .ref 86, .int (iI 0)] := by
  unfold ckL at h
  split at h
  · simp only [Bool.and_eq_true, beq_iff_eq, decide_eq_true_eq] at h
    obtain ⟨⟨⟨rfl, rfl⟩, rfl⟩, rfl⟩ := h
    rfl
  · cases h
theorem ckR_spec {v : Value} {c : Nat} (h : ckR v c = true) : v = .ref c := by
  unfold ckR at h
  split at h
  · rw [beq_iff_eq] at h
    rw [h]
  · cases h
theorem ckC_spec {A : aH} {c : Nat} {x : aC} (hx : A[c]? = some x) (h : ckC c x = true) : EncC c x (mem0 A) := by
  unfold ckC at h
  unfold EncC
  split at h
  · rename_i t n f
    simp only [Bool.and_eq_true, beq_iff_eq, decide_eq_true_eq] at h
    refine ⟨h.1.1, h.1.2, h.2, fun i hi => ?_⟩
    unfold mem0
    rw [hx]
  · rename_i t n g
    simp only [Bool.and_eq_true, beq_iff_eq, decide_eq_true_eq, List.all_eq_true] at h
    refine ⟨h.1.1.1.1, h.1.1.1.2, h.1.1.2, h.1.2, fun i hi => ?_⟩
    have := h.2 i (List.mem_range.mpr hi)
    split at this
    · rename_i y hy
      rw [beq_iff_eq] at this
      rw [hy, this]
    · cases this
  · rename_i ci fs
    simp only [Bool.and_eq_true, beq_iff_eq, decide_eq_true_eq, List.all_eq_true] at h
    refine ⟨h.1.1.1, h.1.1.2, h.1.2, fun s hs => ?_⟩
    have := h.2 s (List.mem_range.mpr hs)
    split at this
    · rename_i v hv
      rw [hv]
      by_cases c1 : fI ci s = true
      · rw [if_pos c1] at this ⊢
        have e : mem0 A c s = vI v := by
          unfold mem0
          rw [hx]
          dsimp only
          rw [hv]
        rw [e]
        unfold ckI at this
        split at this
        · rfl
        · cases this
      · rw [if_neg c1] at this ⊢
        rw [ckR_spec this]
    · cases this
theorem ini_ex : ∃ A, st18 = some ([.ref SC, .ref 0, .ref 86, .int (iI 0)], [], A) ∧ Enc A (mem0 A) ∧ (∀ q ∈ ckV, mem0 A q.1 q.2.1 = iI q.2.2) ∧ ∀ w, w < 1750 → mem0 A 27 w = iI 0 := by
  have h := ck18_ok
  unfold ck18 at h
  split at h
  · rename_i ls st A hst
    rw [Bool.and_eq_true, Bool.and_eq_true] at h
    obtain ⟨⟨h1, h2⟩, h3⟩ := h
    have e1 := ckL_spec h1
    have e2 : st = [] := List.isEmpty_iff.mp h2
    unfold ckA at h3
    rw [Bool.and_eq_true, Bool.and_eq_true, Bool.and_eq_true, List.all_eq_true, List.all_eq_true, List.all_eq_true, beq_iff_eq] at h3
    obtain ⟨⟨⟨g1, g2⟩, g3⟩, g4⟩ := h3
    refine ⟨A, by rw [hst, e1, e2], ⟨g1, fun c hc => ?_⟩, fun q hq => of_decide_eq_true (g3 q hq), fun w hw => of_decide_eq_true (g4 w (List.mem_range.mpr hw))⟩
    have := g2 c (List.mem_range.mpr hc)
    split at this
    · rename_i x hx
      exact ⟨x, hx, ckC_spec hx this⟩
    · cases this
  · cases h
def sg0 : Sg := ((3, noMen, []), [], fun _ => none)
theorem ini_state {μ : Mem} (h : ∀ q ∈ ckV, μ q.1 q.2.1 = iI q.2.2) (h27 : ∀ w, w < 1750 → μ 27 w = iI 0) : CS μ sg0 ∧ SlP μ ∧ MS μ sg0 := by
  have g : ∀ c s v, (c, s, v) ∈ ckV → μ c s = iI v := fun c s v hm => h (c, s, v) hm
  have rw0 : ∀ r, μ r 1 = iI 0 → Rw μ r [] := fun r hr => ⟨Nat.zero_le _, hr, fun i hi => absurd hi (Nat.not_lt_zero i)⟩
  refine ⟨⟨⟨by show 1 ≤ (3 : Int) ∧ (3 : Int) ≤ 3; omega, g 3 0 4 (by decide), fun m hm => ?_, fun m l hm hl => (by cases hl), fun m hm => ⟨[], rw0 _ ?_⟩, Nat.zero_le _, g 3 4 0 (by decide), fun i hi => absurd hi (Nat.not_lt_zero i), fun i hi => ⟨[], rw0 _ ?_⟩⟩, rw0 1 (g 1 1 0 (by decide)), ⟨Nat.zero_le _, fun c hc => (by cases hc)⟩, fun n hn => ?_⟩, ⟨0, [], ⟨g 26 4 0 (by decide), g 26 5 0 (by decide), Nat.zero_le _, fun i hi => absurd hi (Nat.not_lt_zero i), fun x hx => (by cases hx), fun w k hw hk => ?_⟩, Or.inl ⟨rfl, rfl⟩, [], rw0 30 (g 30 1 0 (by decide))⟩, ⟨g 86 0 4 (by decide), g 86 1 0 (by decide), g 86 4 0 (by decide), fun m l hm hl => (by cases hl), fun s hs => absurd hs (Nat.not_lt_zero s)⟩, g 86 7 0 (by decide), fun k hk => absurd hk (Nat.not_lt_zero k), fun n hn => ?_⟩
  · show μ 5 m = iI 0
    rcases (show m = 0 ∨ m = 1 ∨ m = 2 ∨ m = 3 ∨ m = 4 ∨ m = 5 by omega) with e | e | e | e | e | e <;> subst e <;> exact g _ _ _ (by decide)
  · rcases (show m = 0 ∨ m = 1 ∨ m = 2 ∨ m = 3 ∨ m = 4 ∨ m = 5 by omega) with e | e | e | e | e | e <;> subst e <;> exact g _ _ _ (by decide)
  · rcases (show i = 0 ∨ i = 1 ∨ i = 2 by omega) with e | e | e <;> subst e <;> exact g _ _ _ (by decide)
  · show μ (42 + 22 * n) 5 = iI 0
    rcases (show n = 0 ∨ n = 1 by omega) with e | e <;> subst e <;> exact g _ _ _ (by decide)
  · rw [h27 w hw, bt_0]
    exact ⟨fun z => (by cases z), fun ⟨x, hx, _⟩ => (by cases hx)⟩
  · show μ 102 n = iI 0
    rcases (show n = 0 ∨ n = 1 by omega) with e | e <;> subst e <;> exact g _ _ _ (by decide)
def slN (c : Nat) : Nat := if kd c < 6 then cNn (kd c) else ln c
theorem slN_of {c : Nat} {x : aC} {μ : Mem} (h : EncC c x μ) : slC x = slN c := by
  unfold EncC at h
  unfold slC slN
  split at h
  · obtain ⟨h1, h2, h3, -⟩ := h
    rw [if_neg (by omega)]
    exact h3
  · obtain ⟨h1, h2, h3, h4, -⟩ := h
    rw [if_neg (by omega)]
    exact h4
  · obtain ⟨h1, h2, -⟩ := h
    rw [h1, if_pos h2]
theorem slA_of {A : aH} {μ : Mem} (h : Enc A μ) : slA A = ((List.range 103).map slN).sum := by
  unfold slA
  congr 1
  apply List.ext_getElem?
  intro c
  rw [List.getElem?_map, List.getElem?_map]
  rcases Nat.lt_or_ge c 103 with hc | hc
  · obtain ⟨x, hx, hE⟩ := h.2 c hc
    rw [hx, List.getElem?_range hc]
    show some (slC x) = some (slN c)
    rw [slN_of hE]
  · rw [List.getElem?_eq_none (by rw [h.1]; exact hc), List.getElem?_eq_none (by rw [List.length_range]; exact hc)]
    rfl
theorem slN_sum : ((List.range 103).map slN).sum ≤ 7302250 := by decide +kernel
/-- the law, run from its beginning -/
theorem law_run {L : Nat} {xs : Nat → Int32} (hL : L ≤ 320) : ∃ n A', ex (o1 L xs) 20 n 150 0 (c_ent 150 [.ref SC]) [] [] = some (some (.int 1), A') ∧ A'.length ≤ 600000 ∧ slA A' ≤ 7302250 := by
  obtain ⟨A, hst, hE, hv, h27⟩ := ini_ex
  obtain ⟨c0, s0, m0⟩ := ini_state hv h27
  obtain ⟨n, v, μ', hrun, hp⟩ := law_loop (X := (L, xs)) (d := 10) (P := fun v _ => v = some (.int (iI 1))) hL (fun _ => rfl) L 0 (mem0 A) sg0 (by show L < 0 + 5 * L + 5; omega) (Nat.zero_le _) c0 s0 m0
  subst hp
  obtain ⟨A', h1, h2⟩ := ex_sim _ _ _ _ _ _ _ A _ hrun hE
  refine ⟨1000 + n, A', ?_, by rw [h2.1]; decide, by rw [slA_of h2]; exact slN_sum⟩
  have := pre_ex (L := L) (xs := xs) 1000 20 150 0 (c_ent 150 [.ref SC]) [] [] _ _ _ hst n (some (.int (iI 1)), A') (by
    rw [Int.natCast_zero] at h1
    exact h1)
  exact this
