/-! a spread is the component, with least walks -/
theorem Spr.mem {R : List Int → List Int → Prop} {l m : List Int} {Q : Qu} (h : Spr R l Q) : inQ Q m = true ↔ ∃ k, wk R k l m := by
  rw [inQ_ex]
  constructor
  · rintro ⟨y, hy, rfl⟩
    obtain ⟨k, -, hk⟩ := h.2.1 y hy
    exact ⟨k, hk⟩
  · rintro ⟨k, hk⟩
    obtain ⟨y, hy, hy2, -⟩ := h.2.2 k m hk
    exact ⟨y, hy, hy2⟩
theorem stF_no {m : List Int} : ∀ (Q : Qu), ¬ inQ Q m = true → stF m Q = -6
  | [], _ => rfl
  | x :: Q, h => by
    rw [inQ_ex] at h
    rw [stF, if_neg (fun z => h ⟨x, List.mem_cons_self, z⟩)]
    refine stF_no Q (fun z => h ?_)
    obtain ⟨y, hy, hy2⟩ := inQ_ex.mp z
    exact ⟨y, List.mem_cons_of_mem _ hy, hy2⟩
theorem stF_in : ∀ (Q : Qu) (x : List Int × Int), ndQ Q → x ∈ Q → stF x.1 Q = x.2
  | [], x, _, h => by cases h
  | y :: Q, x, hn, h => by
    have hn2 : (y.1 :: Q.map Prod.fst).Nodup := hn
    rw [List.nodup_cons] at hn2
    rw [stF]
    rcases List.mem_cons.mp h with h | h
    · rw [h, if_pos rfl]
    · rw [if_neg (fun z => hn2.1 (by rw [z]; exact List.mem_map.mpr ⟨x, h, rfl⟩))]
      exact stF_in Q x hn2.2 h
theorem Spr.st {R : List Int → List Int → Prop} {l m : List Int} {Q : Qu} (h : Spr R l Q) : (∃ k : Nat, stF m Q = k ∧ wk R k l m ∧ ∀ j, wk R j l m → k ≤ j) ∨ (stF m Q = -6 ∧ ∀ j, ¬ wk R j l m) := by
  by_cases c : inQ Q m = true
  · obtain ⟨y, hy, rfl⟩ := inQ_ex.mp c
    obtain ⟨k, e1, e2⟩ := h.2.1 y hy
    have e3 := stF_in Q y h.1 hy
    refine Or.inl ⟨k, by rw [e3, e1], e2, fun j hj => ?_⟩
    obtain ⟨z, hz, hz2, hz3⟩ := h.2.2 j _ hj
    have e4 := stF_in Q z h.1 hz
    rw [hz2, e3] at e4
    omega
  · refine Or.inr ⟨stF_no Q c, fun j hj => c ?_⟩
    exact h.mem.mpr ⟨j, hj⟩
/-- two spreads of rows that lie in one component hold the same rows -/
theorem Spr.two {R : List Int → List Int → Prop} {C : List Int → Prop} (hR : ∀ a b, C a → R a b → C b) (hs : ∀ a b, C a → R a b → R b a) {a b : List Int} (ha : C a) {Q T : Qu} (h : Spr R a Q) (h2 : Spr R b T) (hab : inQ Q b = true) : inQ Q = inQ T ∧ Q.length = T.length := by
  obtain ⟨k, hk⟩ := h.mem.mp hab
  have hb := wk_in hR ha k b hk
  have hk2 := wk_sym hR hs ha k b hk
  have e : ∀ m, inQ Q m = true ↔ inQ T m = true := by
    intro m
    rw [h.mem, h2.mem]
    constructor
    · rintro ⟨j, hj⟩
      exact ⟨k + j, wk_tr hk2 j m hj⟩
    · rintro ⟨j, hj⟩
      exact ⟨k + j, wk_tr hk j m hj⟩
  refine ⟨funext fun m => ?_, ?_⟩
  · exact Bool.eq_iff_iff.mpr (e m)
  · have s1 : (Q.map Prod.fst) ⊆ (T.map Prod.fst) := fun m hm => inQ_mem.mp ((e m).mp (inQ_mem.mpr hm))
    have s2 : (T.map Prod.fst) ⊆ (Q.map Prod.fst) := fun m hm => inQ_mem.mp ((e m).mpr (inQ_mem.mpr hm))
    have h3 := h.1.length_le_of_subset s1
    have h4 := h2.1.length_le_of_subset s2
    rw [List.length_map, List.length_map] at h3 h4
    omega
theorem sprQ_spr {L : Int} {l : List Int} (hL : 1 ≤ L ∧ L ≤ 3) (ol : rowOK L l) : allQ (Kn L l) (sprQ L l) ∧ Spr (Sl L) l (sprQ L l) := by
  unfold sprQ
  rw [bfs_N]
  exact bfsN_spr (Kn_few hL ol) (fun a b ha hab => Kn_sl hL ha hab) (fun a b ha => slAll_iff hL ha.1) (Kn_rf ol)
theorem GP.two {L : Int} {l : List Int} {Q : Qu} (hL : 1 ≤ L ∧ L ≤ 3) (ol : rowOK L l) (h : GP L l Q) : inQ Q = inQ (sprQ L l) ∧ Q.length = (sprQ L l).length := by
  obtain ⟨⟨l0, o0, rfl⟩, hi⟩ := h
  exact Spr.two (C := rowOK L) (fun a b ha hab => hab.OK ha) (fun a b ha hab => hab.sym ha) o0 (sprQ_spr hL o0).2 (sprQ_spr hL ol).2 hi
theorem wk_comm {L : Int} {a b : List Int} (oa : rowOK L a) (ob : rowOK L b) (k : Nat) : wk (Sl L) k a b ↔ wk (Sl L) k b a :=
  ⟨wk_sym (C := rowOK L) (fun a b ha hab => hab.OK ha) (fun a b ha hab => hab.sym ha) oa k b, wk_sym (C := rowOK L) (fun a b ha hab => hab.OK ha) (fun a b ha hab => hab.sym ha) ob k a⟩
theorem st_comm {L : Int} {a b : List Int} (hL : 1 ≤ L ∧ L ≤ 3) (oa : rowOK L a) (ob : rowOK L b) : stF b (sprQ L a) = stF a (sprQ L b) := by
  have ha := (sprQ_spr hL oa).2.st (m := b)
  have hb := (sprQ_spr hL ob).2.st (m := a)
  have e := wk_comm oa ob
  rcases ha with ⟨k, h1, h2, h3⟩ | ⟨h1, h2⟩ <;> rcases hb with ⟨j, g1, g2, g3⟩ | ⟨g1, g2⟩
  · have := h3 j ((e j).mpr g2)
    have := g3 k ((e k).mp h2)
    omega
  · exact absurd ((e k).mp h2) (g2 k)
  · exact absurd ((e j).mpr g2) (h2 j)
  · rw [h1, g1]
theorem LeastP.u {L : Int} {Q T : Qu} {r s : List Int} (hL : 1 ≤ L ∧ L ≤ 3) (ho : allQ (rowOK L) Q) (hT : allQ (rowOK L) T) (e : inQ Q = inQ T) (h : LeastP L Q r) (h2 : LeastP L T s) : r = s := by
  obtain ⟨⟨x, hx, rfl⟩, hl⟩ := h
  obtain ⟨⟨y, hy, rfl⟩, hl2⟩ := h2
  have i1 : inQ T x.1 = true := by rw [← e]; exact inQ_ex.mpr ⟨x, hx, rfl⟩
  have i2 : inQ Q y.1 = true := by rw [e]; exact inQ_ex.mpr ⟨y, hy, rfl⟩
  obtain ⟨x2, hx2, ex⟩ := inQ_ex.mp i1
  obtain ⟨y2, hy2, ey⟩ := inQ_ex.mp i2
  have n1 := hl y2 hy2
  have n2 := hl2 x2 hx2
  rw [ey] at n1
  rw [ex] at n2
  exact numL_inj hL 6 _ _ (ho x hx).1 (ho x hx).2 (hT y hy).2 (by omega)
/-! the answers that ask for a spread -/
def aRows (q : Co) (m : Int) : Int := match manOf q m with
  | none => -1
  | some l => (sprQ q.1 l).length
def aSame (q : Co) (m o : Int) : Int := match manOf q m, manOf q o with
  | some x, some y => stF y (sprQ q.1 x)
  | _, _ => -1
def aWorn (σ : Sg) (m i : Int) : Int := match manOf σ.1 m with
  | none => -1
  | some l => if fltF σ.1.1 σ.2.1 0 0 = -6 then wnF (inQ (sprQ σ.1.1 l)) σ.1.1 (sgn σ.1.1 σ.2.1) i else -5
theorem CS.man {μ : Mem} {σ : Sg} {z : Int} {l : List Int} (h : CS μ σ) (hn : manOf σ.1 z = some l) : rowOK σ.1.1 l := (rowOf_s (X := ((0, fun _ => 0) : Env0)) (d := 0) (P := fun _ _ => True) h.1 hn).2.2.2.1
theorem rowsP_u {μ : Mem} {σ : Sg} {z a : Int} (h : CS μ σ) (hp : rowsP σ.1 z a) : a = aRows σ.1 z := by
  unfold rowsP at hp
  unfold aRows
  cases e : manOf σ.1 z with
  | none =>
    rw [e] at hp
    exact hp
  | some l =>
    rw [e] at hp
    obtain ⟨Q, h1, h2⟩ := hp
    rw [h2, (GP.two h.1.1 (h.man e) h1).2]
theorem sameP_u {μ : Mem} {σ : Sg} {z o a : Int} (h : CS μ σ) (hp : sameP σ.1 z o a) : a = aSame σ.1 z o := by
  unfold sameP at hp
  unfold aSame
  cases e : manOf σ.1 z with
  | none =>
    rw [e] at hp
    exact hp
  | some x =>
    cases e2 : manOf σ.1 o with
    | none =>
      rw [e, e2] at hp
      exact hp
    | some y =>
      rw [e, e2] at hp
      have hp2 : SmP σ.1.1 x y a := hp
      unfold SmP at hp2
      show a = stF y (sprQ σ.1.1 x)
      rw [← st_comm h.1.1 (h.man e) (h.man e2)] at hp2
      rcases hp2 with h | h <;> exact h
theorem wornP_u {μ : Mem} {σ : Sg} {z i a : Int} (h : CS μ σ) (hp : wornP σ z i a) : a = aWorn σ z i := by
  unfold wornP at hp
  unfold aWorn
  cases e : manOf σ.1 z with
  | none =>
    rw [e] at hp
    exact hp
  | some l =>
    rw [e] at hp
    have hp2 : (if fltF σ.1.1 σ.2.1 0 0 = -6 then ∃ Q, GP σ.1.1 l Q ∧ a = wnF (inQ Q) σ.1.1 (sgn σ.1.1 σ.2.1) i else a = -5) := hp
    show a = if fltF σ.1.1 σ.2.1 0 0 = -6 then wnF (inQ (sprQ σ.1.1 l)) σ.1.1 (sgn σ.1.1 σ.2.1) i else -5
    by_cases c : fltF σ.1.1 σ.2.1 0 0 = -6
    · rw [if_pos c] at hp2 ⊢
      obtain ⟨Q, h1, h2⟩ := hp2
      rw [h2, (GP.two h.1.1 (h.man e) h1).1]
    · rw [if_neg c] at hp2 ⊢
      exact hp2
theorem GP.ok {L : Int} {l : List Int} {Q : Qu} (hL : 1 ≤ L ∧ L ≤ 3) (h : GP L l Q) : allQ (rowOK L) Q := by
  obtain ⟨⟨l0, o0, rfl⟩, -⟩ := h
  exact fun x hx => ((sprQ_spr hL o0).1 x hx).1
theorem shortP_u {μ : Mem} {σ : Sg} {z i a b : Int} (h : CS μ σ) (hp : shortP σ.1 z i a) (hq : shortP σ.1 z i b) : a = b := by
  unfold shortP at hp hq
  cases e : manOf σ.1 z with
  | none =>
    rw [e] at hp hq
    have hp2 : a = -1 := hp
    have hq2 : b = -1 := hq
    rw [hp2, hq2]
  | some l =>
    rw [e] at hp hq
    obtain ⟨Q, r, h1, h2, h3⟩ := hp
    obtain ⟨T, s, g1, g2, g3⟩ := hq
    have hL := h.1.1
    have ol := h.man e
    have er := LeastP.u hL (h1.ok hL) (g1.ok hL) (by rw [(h1.two hL ol).1, (g1.two hL ol).1]) h2 g2
    rw [h3, g3, er]
