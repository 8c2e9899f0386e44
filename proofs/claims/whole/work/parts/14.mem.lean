/-! after the constructors: the cells' kinds, lengths and references stand; what changes is whole numbers -/
def kdT : List Nat := [4, 2, 6, 0, 8, 7, 8, 2, 6, 2, 6, 2, 6, 2, 6, 2, 6, 2, 6, 2, 6, 2, 6, 2, 6, 9, 3, 6, 6, 6, 2, 6, 1, 6, 7, 6, 6, 2, 6, 2, 6, 6, 0, 8, 7, 8, 2, 6, 2, 6, 2, 6, 2, 6, 2, 6, 2, 6, 2, 6, 2, 6, 2, 6, 0, 8, 7, 8, 2, 6, 2, 6, 2, 6, 2, 6, 2, 6, 2, 6, 2, 6, 2, 6, 2, 6, 5, 6, 6, 6, 6, 6, 6, 6, 6, 6, 6, 6, 6, 6, 6, 6, 7]
def lnT : List Nat := [0, 0, 40, 0, 6, 6, 3, 0, 6, 0, 6, 0, 6, 0, 6, 0, 6, 0, 6, 0, 6, 0, 6, 0, 6, 2, 0, 1750, 1245, 1245, 0, 6, 0, 36, 6, 6, 6, 0, 6, 0, 6, 7, 0, 6, 6, 3, 0, 6, 0, 6, 0, 6, 0, 6, 0, 6, 0, 6, 0, 6, 0, 6, 0, 6, 0, 6, 6, 3, 0, 6, 0, 6, 0, 6, 0, 6, 0, 6, 0, 6, 0, 6, 0, 6, 0, 6, 0, 36, 6, 18, 3, 40, 8, 55987, 55987, 8, 4, 16, 49, 6, 36, 140, 2]
def rfT : List (List Nat) := [[1, 3, 25, 26, 32, 37, 39, 41], [2, 0], [], [0, 4, 5, 6, 0, 0], [7, 9, 11, 13, 15, 17], [], [19, 21, 23], [8, 0], [], [10, 0], [], [12, 0], [], [14, 0], [], [16, 0], [], [18, 0], [], [20, 0], [], [22, 0], [], [24, 0], [], [42, 64], [27, 28, 29, 30, 0, 0], [], [], [], [31, 0], [], [33, 34, 35, 36, 0, 0], [], [], [], [], [38, 0], [], [40, 0], [], [], [0, 43, 44, 45, 0, 0], [46, 48, 50, 52, 54, 56], [], [58, 60, 62], [47, 0], [], [49, 0], [], [51, 0], [], [53, 0], [], [55, 0], [], [57, 0], [], [59, 0], [], [61, 0], [], [63, 0], [], [0, 65, 66, 67, 0, 0], [68, 70, 72, 74, 76, 78], [], [80, 82, 84], [69, 0], [], [71, 0], [], [73, 0], [], [75, 0], [], [77, 0], [], [79, 0], [], [81, 0], [], [83, 0], [], [85, 0], [], [0, 0, 87, 88, 0, 89, 90, 0, 91, 92, 0, 93, 94, 0, 95, 0, 96, 97, 98, 0, 0, 99, 100, 101, 102], [], [], [], [], [], [], [], [], [], [], [], [], [], [], [], []]
def kd (c : Nat) : Nat := kdT.getD c 100
def ln (c : Nat) : Nat := lnT.getD c 0
def rf (c s : Nat) : Nat := (rfT.getD c []).getD s 0
def fI (ci s : Nat) : Bool := match cTy ci s with
  | .int => true
  | .boolean => true
  | _ => false
abbrev Mem : Type := Nat → Nat → Int32
def u2 (μ : Mem) (c s : Nat) (x : Int32) : Mem := fun c' s' => if c' = c ∧ s' = s then x else μ c' s'
def g2 (μ : Mem) (c ci s : Nat) : Option Value := if kd c = ci ∧ ci < 6 ∧ s < cNn ci then some (if fI ci s = true then .int (μ c s) else .ref (rf c s)) else none
def f2 (μ : Mem) (c ci s : Nat) (v : Value) : Option Mem := match v with
  | .int x => if kd c = ci ∧ ci < 6 ∧ s < cNn ci ∧ f_ok (cTy ci s) (.int x) = true then some (u2 μ c s x) else none
  | _ => none
def l2 (L : Nat) (xs : Nat → Int32) (μ : Mem) (c t : Nat) (j : Int32) : Option Value := if c = SC then (if t = 0 ∧ ¬ (j < 0 ∨ L ≤ j.toNatClampNeg) then some (.int (xs j.toNatClampNeg)) else none)
  else if t < 2 then (if kd c = 6 + t ∧ ¬ (j < 0 ∨ ln c ≤ j.toNatClampNeg) then some (.int (μ c j.toNatClampNeg)) else none)
  else (if t = 2 ∧ (kd c = 8 ∨ kd c = 9) ∧ ¬ (j < 0 ∨ ln c ≤ j.toNatClampNeg) then some (.ref (rf c j.toNatClampNeg)) else none)
def s2 (μ : Mem) (c t : Nat) (j : Int32) (v : Value) : Option Mem := match v with
  | .int x => if kd c = 6 + t ∧ t < 2 ∧ (t = 1 → x = 0 ∨ x = 1) ∧ ¬ (j < 0 ∨ ln c ≤ j.toNatClampNeg) then some (u2 μ c j.toNatClampNeg x) else none
  | _ => none
def n2 (L : Nat) (_ : Mem) (c : Nat) : Option Int32 := if c = SC then some (nI L) else if 6 ≤ kd c ∧ kd c < 10 then some (nI (ln c)) else none
def o2 (L : Nat) (xs : Nat → Int32) : hO Mem := (g2, f2, l2 L xs, s2, n2 L, fun _ _ => none, fun _ _ _ => none)
def EncC (c : Nat) (x : aC) (μ : Mem) : Prop := match x with
  | .inl (t, n, .inl f) => kd c = 6 + t ∧ t < 2 ∧ n = ln c ∧ ∀ i, i < n → f i = μ c i
  | .inl (t, n, .inr g) => kd c = 6 + t ∧ 2 ≤ t ∧ t < 4 ∧ n = ln c ∧ ∀ i, i < n → g i = some (rf c i)
  | .inr (ci, fs) => kd c = ci ∧ ci < 6 ∧ fs.length = cNn ci ∧ ∀ s, s < cNn ci → fs[s]? = some (if fI ci s = true then .int (μ c s) else .ref (rf c s))
def Enc (A : aH) (μ : Mem) : Prop := A.length = 103 ∧ ∀ c, c < 103 → ∃ x, A[c]? = some x ∧ EncC c x μ
theorem kd_lt {c : Nat} (h : kd c < 100) : c < 103 := by
  rcases Nat.lt_or_ge c 103 with h1 | h1
  · exact h1
  · exfalso
    have h2 : kd c = 100 := by
      unfold kd
      rw [List.getD_eq_getElem?_getD, List.getElem?_eq_none (by exact h1)]
      rfl
    omega
theorem lt_SC {c : Nat} (h : c < 103) : ¬ c = SC := by
  unfold SC
  omega
theorem EncC.other {c : Nat} {x : aC} {μ μ' : Mem} (h : EncC c x μ) (hs : ∀ s, μ' c s = μ c s) : EncC c x μ' := by
  have h2 : μ' c = μ c := funext hs
  unfold EncC at h ⊢
  rw [h2]
  exact h
theorem Enc.set {A : aH} {μ : Mem} {c s : Nat} {v : Int32} {x : aC} (h : Enc A μ) (hc : c < 103) (hx : EncC c x (u2 μ c s v)) : Enc (A.set c x) (u2 μ c s v) := by
  refine ⟨by rw [List.length_set]; exact h.1, fun c' hc' => ?_⟩
  by_cases he : c = c'
  · subst he
    exact ⟨x, by rw [List.getElem?_set_self (by rw [h.1]; exact hc)], hx⟩
  · obtain ⟨y, h1, h2⟩ := h.2 c' hc'
    exact ⟨y, by rw [List.getElem?_set_ne he]; exact h1, h2.other (fun s' => by unfold u2; rw [if_neg (fun z => he z.1.symm)])⟩
theorem g_sim {A : aH} {μ : Mem} {c ci s : Nat} {v : Value} (hE : Enc A μ) (h : g2 μ c ci s = some v) : g1 A c ci s = some v := by
  unfold g2 at h
  split at h
  · rename_i h1
    obtain ⟨h1, h2, h3⟩ := h1
    cases h
    have hc := kd_lt (show kd c < 100 by omega)
    obtain ⟨x, hx, hC⟩ := hE.2 c hc
    unfold g1
    rw [hx]
    unfold EncC at hC
    split at hC
    · omega
    · omega
    · rename_i ci' fs
      obtain ⟨h4, h5, h6, h7⟩ := hC
      have h8 : ci' = ci := h4.symm.trans h1
      subst h8
      dsimp only
      rw [if_pos ⟨rfl, lt_SC hc⟩]
      exact h7 s h3
  · cases h
theorem f_sim {A : aH} {μ μ' : Mem} {c ci s : Nat} {v : Value} (hE : Enc A μ) (h : f2 μ c ci s v = some μ') : ∃ A', f1 A c ci s v = some A' ∧ Enc A' μ' := by
  unfold f2 at h
  split at h
  · rename_i x0
    split at h
    · rename_i h1
      obtain ⟨h1, h2, h3, hok⟩ := h1
      cases h
      have hc := kd_lt (show kd c < 100 by omega)
      obtain ⟨x, hx, hC⟩ := hE.2 c hc
      unfold f1
      rw [hx]
      unfold EncC at hC
      split at hC
      · omega
      · omega
      · rename_i ci' fs
        obtain ⟨h4, h5, h6, h7⟩ := hC
        have h8 : ci' = ci := h4.symm.trans h1
        subst h8
        dsimp only
        rw [if_pos ⟨rfl, lt_SC hc, by omega, hok⟩]
        refine ⟨_, rfl, hE.set hc ⟨h4, h5, by rw [List.length_set]; exact h6, fun s' hs' => ?_⟩⟩
        have hfI : fI ci' s = true := by
          unfold fI
          unfold f_ok at hok
          split at hok <;> simp_all
        by_cases he : s = s'
        · subst he
          rw [List.getElem?_set_self (by omega), if_pos hfI]
          unfold u2
          rw [if_pos ⟨rfl, rfl⟩]
        · rw [List.getElem?_set_ne he, h7 s' hs']
          have hu : u2 μ c s x0 c s' = μ c s' := by
            unfold u2
            rw [if_neg (fun z => he z.2.symm)]
          rw [hu]
    · cases h
  · cases h
theorem l_sim {A : aH} {μ : Mem} {L c t : Nat} {xs : Nat → Int32} {j : Int32} {v : Value} (hE : Enc A μ) (h : l2 L xs μ c t j = some v) : l1 L xs A c t j = some v := by
  unfold l2 at h
  unfold l1
  by_cases hSC : c = SC
  · rw [if_pos hSC] at h ⊢
    exact h
  · rw [if_neg hSC] at h ⊢
    split at h
    · rename_i ht
      split at h
      · rename_i h1
        obtain ⟨h1, h2⟩ := h1
        cases h
        have hc := kd_lt (show kd c < 100 by omega)
        obtain ⟨x, hx, hC⟩ := hE.2 c hc
        rw [hx]
        unfold EncC at hC
        split at hC
        · rename_i t' n f
          obtain ⟨h3, h4, h5, h6⟩ := hC
          have h7 : t' = t := by omega
          subst h7
          dsimp only
          subst h5
          rw [if_pos ⟨rfl, ht, h2⟩, h6 _ (Nat.not_le.mp fun q => h2 (Or.inr q))]
        · omega
        · omega
      · cases h
    · split at h
      · rename_i ht h1
        obtain ⟨rfl, h1, h2⟩ := h1
        cases h
        have hc := kd_lt (show kd c < 100 by omega)
        obtain ⟨x, hx, hC⟩ := hE.2 c hc
        rw [hx]
        unfold EncC at hC
        split at hC
        · omega
        · rename_i t' n f
          obtain ⟨h3, h4, h5, h6, h7⟩ := hC
          dsimp only
          subst h6
          rw [if_pos ⟨rfl, h4, h5, h2⟩, h7 _ (Nat.not_le.mp fun q => h2 (Or.inr q))]
          rfl
        · omega
      · cases h
theorem s_sim {A : aH} {μ μ' : Mem} {c t : Nat} {j : Int32} {v : Value} (hE : Enc A μ) (h : s2 μ c t j v = some μ') : ∃ A', s1 A c t j v = some A' ∧ Enc A' μ' := by
  unfold s2 at h
  split at h
  · rename_i x0
    split at h
    · rename_i h1
      obtain ⟨h1, ht, hb, h2⟩ := h1
      cases h
      have hc := kd_lt (show kd c < 100 by omega)
      obtain ⟨x, hx, hC⟩ := hE.2 c hc
      unfold s1
      rw [hx]
      unfold EncC at hC
      split at hC
      · rename_i t' n f
        obtain ⟨h3, h4, h5, h6⟩ := hC
        have h7 : t' = t := by omega
        subst h7
        dsimp only
        subst h5
        rw [if_pos ⟨rfl, lt_SC hc, ht, hb, h2⟩]
        refine ⟨_, rfl, hE.set hc ⟨h3, h4, rfl, fun i hi => ?_⟩⟩
        unfold u2 upd
        by_cases he : i = j.toNatClampNeg
        · rw [if_pos he, if_pos ⟨rfl, he⟩]
        · rw [if_neg he, if_neg (fun z => he z.2), h6 i hi]
      · omega
      · omega
    · cases h
  · cases h
theorem n_sim {A : aH} {μ : Mem} {L c : Nat} {v : Int32} (hE : Enc A μ) (h : n2 L μ c = some v) : n1 L A c = some v := by
  unfold n2 at h
  unfold n1
  by_cases hSC : c = SC
  · rw [if_pos hSC] at h ⊢
    exact h
  · rw [if_neg hSC] at h ⊢
    split at h
    · rename_i h1
      cases h
      have hc := kd_lt (show kd c < 100 by omega)
      obtain ⟨x, hx, hC⟩ := hE.2 c hc
      rw [hx]
      unfold EncC at hC
      split at hC
      · rename_i t' n f
        obtain ⟨h3, h4, h5, h6⟩ := hC
        dsimp only
        rw [if_pos (by omega), h5]
      · rename_i t' n f
        obtain ⟨h3, h4, h5, h6, h7⟩ := hC
        dsimp only
        rw [if_pos (by omega), h6]
      · omega
    · cases h
theorem h_sim {A : aH} {μ : Mem} {L k len : Nat} {xs : Nat → Int32} {i : Instr} {st : List Value} {q : List Value × Mem} (hE : Enc A μ) (h : hstep (o2 L xs) k i len st μ = some q) : ∃ A', hstep (o1 L xs) k i len st A = some (q.1, A') ∧ Enc A' q.2 := by
  unfold hstep o2 at h
  unfold hstep o1
  dsimp only at h
  dsimp only
  split at h <;> try (cases h; done)
  · split at h <;> try (cases h; done)
    try dsimp only
    split at h <;> try (cases h; done)
    rename_i hl
    obtain ⟨e, he, h⟩ := opt_bind_inv h
    obtain ⟨v, hv, rfl⟩ := opt_map_inv h
    rw [if_pos hl, he, Option.bind_some, g_sim hE hv]
    exact ⟨A, rfl, hE⟩
  · split at h <;> try (cases h; done)
    try dsimp only
    split at h <;> try (cases h; done)
    rename_i hl
    obtain ⟨e, he, h⟩ := opt_bind_inv h
    split at h <;> try (cases h; done)
    rename_i hl2
    obtain ⟨v, hv, rfl⟩ := opt_map_inv h
    obtain ⟨A', h1, h2⟩ := f_sim hE hv
    rw [if_pos hl, he, Option.bind_some, if_pos hl2, h1]
    exact ⟨A', rfl, h2⟩
  · split at h <;> try (cases h; done)
    try dsimp only
    split at h <;> try (cases h; done)
    rename_i hl
    obtain ⟨v, hv, rfl⟩ := opt_map_inv h
    rw [if_pos hl, l_sim hE hv]
    exact ⟨A, rfl, hE⟩
  · split at h <;> try (cases h; done)
    try dsimp only
    split at h <;> try (cases h; done)
    rename_i hl
    obtain ⟨v, hv, rfl⟩ := opt_map_inv h
    rw [if_pos hl, l_sim hE hv]
    exact ⟨A, rfl, hE⟩
  · split at h <;> try (cases h; done)
    try dsimp only
    split at h <;> try (cases h; done)
    rename_i hl
    obtain ⟨v, hv, rfl⟩ := opt_map_inv h
    rw [if_pos hl, l_sim hE hv]
    exact ⟨A, rfl, hE⟩
  · split at h <;> try (cases h; done)
    try dsimp only
    split at h <;> try (cases h; done)
    rename_i hl
    obtain ⟨v, hv, rfl⟩ := opt_map_inv h
    obtain ⟨A', h1, h2⟩ := s_sim hE hv
    rw [if_pos hl, h1]
    exact ⟨A', rfl, h2⟩
  · split at h <;> try (cases h; done)
    try dsimp only
    split at h <;> try (cases h; done)
    rename_i hl
    obtain ⟨v, hv, rfl⟩ := opt_map_inv h
    obtain ⟨A', h1, h2⟩ := s_sim hE hv
    rw [if_pos hl, h1]
    exact ⟨A', rfl, h2⟩
  · split at h <;> try (cases h; done)
    split at h <;> cases h
  · split at h <;> try (cases h; done)
    try dsimp only
    split at h <;> try (cases h; done)
    rename_i hl
    obtain ⟨v, hv, rfl⟩ := opt_map_inv h
    rw [if_pos hl, n_sim hE hv]
    exact ⟨A, rfl, hE⟩
  · split at h <;> try (cases h; done)
    obtain ⟨e, he, h⟩ := opt_bind_inv h
    cases h
  · split at h <;> try (cases h; done)
    split at h
    · cases h
    · split at h <;> cases h
  · split at h <;> try (cases h; done)
    split at h <;> try (cases h; done)
    obtain ⟨e, he, h⟩ := opt_bind_inv h
    split at h
    · cases h
    · split at h <;> cases h
/-- the other steps are no steps over cells -/
def isX (i : Instr) : Bool := match i with
  | .invokevirtual _ => true
  | .invokestatic _ => true
  | .invokespecial _ => true
  | .ireturn => true
  | .areturn => true
  | .return_ => true
  | _ => false
theorem h_x {Hp : Type} {o : hO Hp} {k len : Nat} {i : Instr} {st : List Value} {A : Hp} (h : isX i = true) : hstep o k i len st A = none := by
  cases i <;> first | rfl | (cases h)
theorem j_x {o d len : Nat} {i : Instr} {st s : List Value} (h : jstep o d i len st = some s) : isX i = true := by
  unfold jstep at h
  split at h
  · cases h
  · split at h <;> first | rfl | (cases h)
theorem c_x {i : Instr} {q : Nat × Nat} (h : c_kind i = some q) : isX i = true := by
  unfold c_kind at h
  split at h <;> first | rfl | (cases h)
theorem r_x {k len : Nat} {i : Instr} {st : List Value} {v : Option Value} (h : rstep k i len st = some v) : isX i = true ∧ c_kind i = none := by
  unfold rstep at h
  split at h <;> first | exact ⟨rfl, rfl⟩ | (cases h)
theorem c_sim {A : aH} {μ : Mem} {L k len : Nat} {xs : Nat → Int32} {i : Instr} {st : List Value} {q : Nat × List Value × List Value} (hE : Enc A μ) (h : cstep (o2 L xs) k i len st μ = some q) : cstep (o1 L xs) k i len st A = some q := by
  unfold cstep at h ⊢
  obtain ⟨z, hz, h⟩ := opt_bind_inv h
  obtain ⟨e, he, h⟩ := opt_bind_inv h
  rw [hz, Option.bind_some, he, Option.bind_some]
  split at h
  · rename_i hc
    obtain ⟨a1, a2, a3, a4, a5, a6⟩ := hc
    have a7 : c_rec (o1 L xs) e.1 (st.take (c_n e.1)).reverse A = true := by
      unfold c_rec at a6 ⊢
      split at a6
      · rename_i hf
        rw [if_pos hf]
      · rename_i hf
        rw [if_neg hf]
        split at a6
        · rename_i cc r heq
          cases hg : (o2 L xs).1 μ cc (mO e.1) 0 with
          | none => rw [hg] at a6; cases a6
          | some v =>
            have := g_sim hE hg
            try dsimp only
            rw [show (o1 L xs).1 A cc (mO e.1) 0 = some v from this]
            rfl
        · cases a6
    rw [if_pos ⟨a1, a2, a3, a4, a5, a7⟩]
    exact h
  · cases h
theorem ex_sim {L : Nat} {xs : Nat → Int32} : ∀ (n d k pc : Nat) (ls st : List Value) (μ : Mem) (A : aH) (z : Option Value × Mem), ex (o2 L xs) d n k pc ls st μ = some z → Enc A μ → ∃ A', ex (o1 L xs) d n k pc ls st A = some (z.1, A') ∧ Enc A' z.2 := by
  intro n
  induction n with
  | zero => intro d k pc ls st μ A z h; cases h
  | succ n ih =>
    intro d k pc ls st μ A z h hE
    unfold ex at h ⊢
    split at h
    · cases h
    · rename_i il hd
      try dsimp only
      split at h
      · rename_i q hq
        exact ih _ _ _ _ _ _ _ _ h hE
      · rename_i hq
        try dsimp only
        split at h
        · rename_i q hq2
          obtain ⟨A1, h1, h2⟩ := h_sim hE hq2
          simp only [h1]
          exact ih _ _ _ _ _ _ _ _ h h2
        · split at h
          · rename_i s hq3
            simp only [h_x (j_x hq3), hq3]
            exact ih _ _ _ _ _ _ _ _ h hE
          · rename_i hj
            split at h
            · rename_i d' q hq4
              split at h
              · rename_i z1 hz1
                have hck : ∃ x, c_kind il.1 = some x := by
                  have hq5 := hq4
                  unfold cstep at hq5
                  obtain ⟨x, hx, -⟩ := opt_bind_inv hq5
                  exact ⟨x, hx⟩
                obtain ⟨x, hx⟩ := hck
                obtain ⟨A1, h1, h2⟩ := ih _ _ _ _ _ _ A _ hz1 hE
                obtain ⟨A2, h3, h4⟩ := ih _ _ _ _ _ _ A1 _ h h2
                refine ⟨A2, ?_, h4⟩
                simp only [h_x (c_x hx), hj, c_sim hE hq4, h1]
                exact h3
              · cases h
            · obtain ⟨v, hv, rfl⟩ := opt_map_inv h
              obtain ⟨hx, hck⟩ := r_x hv
              refine ⟨A, ?_, hE⟩
              have hcn : cstep (o1 L xs) k il.1 il.2 st A = none := by
                unfold cstep
                rw [hck]
                rfl
              simp only [h_x hx, hj, hcn, hv]
              rfl
