/-! the model: its state -/
def MCo (a b c : Int32) (kn sz sp ss : Nat → Int32) (q : Co) : Prop :=
  a = iI (q.1 + 1) ∧ b = iI (bN (menB q) 6) ∧ c = iI q.2.2.length ∧
  (∀ m l, m < 6 → q.2.1 m = some l → sz m = iI l.length ∧ ∀ i, i < l.length → kn (6 * m + i) = iI (l.getD i 0)) ∧
  (∀ s, s < q.2.2.length → ss s = iI (q.2.2.getD s []).length ∧ ∀ i, i < (q.2.2.getD s []).length → sp (6 * s + i) = iI ((q.2.2.getD s []).getD i 0))
def MI (μ : Mem) (n : Nat) (o : Option Co) : Prop := match o with
  | none => μ 102 n = iI 0
  | some q => μ 102 n = iI 1 ∧ MCo (μ 101 (70 * n + 63)) (μ 101 (70 * n + 64)) (μ 101 (70 * n + 65)) (fun k => μ 101 (70 * n + k)) (fun k => μ 101 (70 * n + 54 + k)) (fun k => μ 101 (70 * n + 36 + k)) (fun k => μ 101 (70 * n + 60 + k)) q
def MS (μ : Mem) (σ : Sg) : Prop := MCo (μ 86 0) (μ 86 1) (μ 86 4) (μ 87) (μ 88) (μ 89) (μ 90) σ.1 ∧ μ 86 7 = iI σ.2.1.length ∧ (∀ k, k < σ.2.1.length → μ 91 k = iI (σ.2.1.getD k 0)) ∧ ∀ n, n < 2 → MI μ n (σ.2.2 n)
def WFC (q : Co) : Prop := (1 ≤ q.1 ∧ q.1 ≤ 3) ∧ (∀ m l, m < 6 → q.2.1 m = some l → rowOK q.1 l) ∧ q.2.2.length ≤ 3 ∧ ∀ s, s < q.2.2.length → rowOK q.1 (q.2.2.getD s []) ∧ 0 < (q.2.2.getD s []).length
def WF (σ : Sg) : Prop := WFC σ.1 ∧ padOK σ.2.1 ∧ ∀ n q, n < 2 → σ.2.2 n = some q → WFC q
theorem CoP.wf {μ : Mem} {c : Nat} {q : Co} (h : CoP μ c q) : WFC q := by
  obtain ⟨h1, h2, h3, h4, h5, h6, h7, h8, h9⟩ := h
  exact ⟨h1, fun m l hm hl => (h4 m l hm hl).2, h6, fun s hs => (h8 s hs).2⟩
theorem CS.wf {μ : Mem} {σ : Sg} (h : CS μ σ) : WF σ := by
  obtain ⟨h1, h2, h3, h4⟩ := h
  refine ⟨h1.wf, h3, fun n q hn hq => ?_⟩
  have := h4 n hn
  rw [hq] at this
  exact CoP.wf this.2
def keepM (μ μ' : Mem) : Prop := ∀ c, c < 86 → μ' c = μ c
def MPost (μ : Mem) (σ' : Sg) (a : Int) (v : Option Value) (μ' : Mem) : Prop := v = some (.int (iI a)) ∧ MS μ' σ' ∧ keepM μ μ'
theorem keepM.rf {μ : Mem} : keepM μ μ := fun _ _ => rfl
theorem keepM.tr {a b c : Mem} (h : keepM a b) (h2 : keepM b c) : keepM a c := fun x hx => by rw [h2 x hx, h x hx]
/-- only what the model forgets is changed -/
def keepR (μ μ' : Mem) : Prop := (∀ c, ¬ c = 86 → c < 92 ∨ 100 < c → μ' c = μ c) ∧ ∀ s, s < 10 → μ' 86 s = μ 86 s
theorem keepR.rf {μ : Mem} : keepR μ μ := ⟨fun _ _ _ => rfl, fun _ _ => rfl⟩
theorem keepR.tr {a b c : Mem} (h : keepR a b) (h2 : keepR b c) : keepR a c := ⟨fun x hx hy => by rw [h2.1 x hx hy, h.1 x hx hy], fun s hs => by rw [h2.2 s hs, h.2 s hs]⟩
theorem keepR.m {a b : Mem} (h : keepR a b) : keepM a b := fun c hc => h.1 c (by omega) (by omega)
theorem keepR.c {μ : Mem} {c s : Nat} {x : Int32} (h : 92 ≤ c ∧ c ≤ 100) : keepR μ (u2 μ c s x) := ⟨fun k hk hk2 => u2_cell (by omega), fun k hk => u2_c (by omega)⟩
theorem keepR.s {μ : Mem} {s : Nat} {x : Int32} (h : 10 ≤ s) : keepR μ (u2 μ 86 s x) := ⟨fun k hk hk2 => u2_cell hk, fun k hk => u2_n (by omega)⟩
theorem MI.fr {μ μ' : Mem} {n : Nat} {o : Option Co} (h : MI μ n o) (h1 : μ' 101 = μ 101) (h2 : μ' 102 n = μ 102 n) : MI μ' n o := by
  unfold MI at h ⊢
  cases o with
  | none =>
    dsimp only at h ⊢
    rw [h2]
    exact h
  | some q =>
    dsimp only at h ⊢
    rw [h2, h1]
    exact h
theorem MS.fr {μ μ' : Mem} {σ : Sg} (h : MS μ σ) (hf : keepR μ μ') : MS μ' σ := by
  obtain ⟨h1, h2, h3, h4⟩ := h
  obtain ⟨f1, f2⟩ := hf
  refine ⟨?_, by rw [f2 7 (by omega)]; exact h2, by rw [f1 91 (by omega) (by omega)]; exact h3, fun n hn => (h4 n hn).fr (f1 101 (by omega) (by omega)) (by rw [f1 102 (by omega) (by omega)])⟩
  rw [f2 0 (by omega), f2 1 (by omega), f2 4 (by omega), f1 87 (by omega) (by omega), f1 88 (by omega) (by omega), f1 89 (by omega) (by omega), f1 90 (by omega) (by omega)]
  exact h1
theorem MPost.of {μ μ' : Mem} {σ : Sg} {a : Int} (h : MS μ σ) (hf : keepR μ μ') : MPost μ σ a (some (.int (iI a))) μ' := ⟨rfl, h.fr hf, hf.m⟩
/-! bits of the men -/
def tab6 (b0 b1 b2 b3 b4 b5 : Bool) : Nat → Bool
  | 0 => b0
  | 1 => b1
  | 2 => b2
  | 3 => b3
  | 4 => b4
  | _ => b5
theorem bN_ext {f g : Nat → Bool} : ∀ n, (∀ k, k < n → f k = g k) → bN f n = bN g n
  | 0, _ => rfl
  | n + 1, h => by rw [bN, bN, bN_ext n (fun k hk => h k (by omega)), h n (by omega)]
theorem tab_at (f : Nat → Bool) (k : Nat) (h : k < 6) : tab6 (f 0) (f 1) (f 2) (f 3) (f 4) (f 5) k = f k := by
  have : k = 0 ∨ k = 1 ∨ k = 2 ∨ k = 3 ∨ k = 4 ∨ k = 5 := by omega
  rcases this with rfl | rfl | rfl | rfl | rfl | rfl <;> rfl
theorem has_tab : ∀ b0 b1 b2 b3 b4 b5 : Bool, ∀ m, m < 6 → (nI (bN (tab6 b0 b1 b2 b3 b4 b5) 6) >>> (nI m &&& 31)) &&& nI 1 = nI (if tab6 b0 b1 b2 b3 b4 b5 m = true then 1 else 0) := by decide +kernel
theorem set_tab : ∀ b0 b1 b2 b3 b4 b5 : Bool, ∀ m, m < 6 → (nI (bN (tab6 b0 b1 b2 b3 b4 b5) 6) ||| (nI 1 <<< (nI m &&& 31))) = nI (bN (fun k => if k = m then true else tab6 b0 b1 b2 b3 b4 b5 k) 6) := by decide +kernel
theorem clr_tab : ∀ b0 b1 b2 b3 b4 b5 : Bool, ∀ m, m < 6 → (nI (bN (tab6 b0 b1 b2 b3 b4 b5) 6) &&& ((nI 1 <<< (nI m &&& 31)) ^^^ iI (-1))) = nI (bN (fun k => if k = m then false else tab6 b0 b1 b2 b3 b4 b5 k) 6) := by decide +kernel
theorem bz {c : Prop} [Decidable c] : ((if c then (1 : Int) else 0) = 0) = ¬ c := by
  by_cases h : c
  · rw [if_pos h]
    exact propext ⟨fun z => absurd z (by decide), fun z => absurd h z⟩
  · rw [if_neg h]
    exact propext ⟨fun _ => h, fun _ => rfl⟩
theorem has_b (f : Nat → Bool) {m : Nat} (h : m < 6) : (iI (bN f 6) >>> (iI m &&& 31)) &&& iI 1 = iI (if f m = true then 1 else 0) := by
  have e := has_tab (f 0) (f 1) (f 2) (f 3) (f 4) (f 5) m h
  rw [bN_ext (g := f) 6 (tab_at f), tab_at f m h] at e
  rw [nI_iI, nI_iI, nI_iI, nI_iI] at e
  have e1 : ((1 : Nat) : Int) = 1 := rfl
  rw [e1] at e
  rw [e]
  by_cases c : f m = true
  · rw [if_pos c, if_pos c]; rfl
  · rw [if_neg c, if_neg c]; rfl
theorem set_b (f : Nat → Bool) {m : Nat} (h : m < 6) : (iI (bN f 6) ||| (iI 1 <<< (iI m &&& 31))) = iI (bN (fun k => if k = m then true else f k) 6) := by
  have e := set_tab (f 0) (f 1) (f 2) (f 3) (f 4) (f 5) m h
  rw [bN_ext (g := f) 6 (tab_at f), bN_ext (f := fun k => if k = m then true else tab6 (f 0) (f 1) (f 2) (f 3) (f 4) (f 5) k) (g := fun k => if k = m then true else f k) 6 (fun k hk => by rw [tab_at f k hk])] at e
  rw [nI_iI, nI_iI, nI_iI, nI_iI] at e
  exact e
theorem clr_b (f : Nat → Bool) {m : Nat} (h : m < 6) : (iI (bN f 6) &&& ((iI 1 <<< (iI m &&& 31)) ^^^ iI (-1))) = iI (bN (fun k => if k = m then false else f k) 6) := by
  have e := clr_tab (f 0) (f 1) (f 2) (f 3) (f 4) (f 5) m h
  rw [bN_ext (g := f) 6 (tab_at f), bN_ext (f := fun k => if k = m then false else tab6 (f 0) (f 1) (f 2) (f 3) (f 4) (f 5) k) (g := fun k => if k = m then false else f k) 6 (fun k hk => by rw [tab_at f k hk])] at e
  rw [nI_iI, nI_iI, nI_iI, nI_iI] at e
  exact e
section MB
variable {X : Env0} {d : Nat} {μ : Mem} {P : Option Value → Mem → Prop} {L : Int}
theorem m_in {z a b : Int} (h1 : -2147483648 ≤ z) (h2 : z < 2147483648) (h3 : -2147483648 ≤ a) (h4 : a < 2147483648) (h5 : -2147483648 ≤ b) (h6 : b < 2147483648) : Wp X d 94 0 [.int (iI z), .int (iI a), .int (iI b)] [] μ P = P (some (.int (iI (if a ≤ z ∧ z ≤ b then 1 else 0)))) μ := by
  simp (disch := first | assumption | with_reducible exact kd_0 | with_reducible exact kd_1 | with_reducible exact kd_3 | with_reducible exact kd_25 | with_reducible exact kd_26 | with_reducible exact kd_32 | with_reducible exact kd_30 | with_reducible exact kd_37 | with_reducible exact kd_39 | with_reducible exact kd_41 | with_reducible exact kd_2 | with_reducible exact kd_4 | with_reducible exact kd_5 | with_reducible exact kd_6 | with_reducible exact kd_27 | with_reducible exact kd_28 | with_reducible exact kd_29 | with_reducible exact kd_31 | with_reducible exact kd_33 | with_reducible exact kd_34 | with_reducible exact kd_35 | with_reducible exact kd_36 | with_reducible exact kd_38 | with_reducible exact kd_40 | with_reducible exact kd_86 | with_reducible exact kd_87 | with_reducible exact kd_88 | with_reducible exact kd_89 | with_reducible exact kd_90 | with_reducible exact kd_91 | with_reducible exact kd_92 | with_reducible exact kd_93 | with_reducible exact kd_94 | with_reducible exact kd_95 | with_reducible exact kd_96 | with_reducible exact kd_97 | with_reducible exact kd_98 | with_reducible exact kd_99 | with_reducible exact kd_100 | with_reducible exact kd_101 | with_reducible exact kd_102 | with_reducible exact kq_4 | with_reducible exact kq_6 | with_reducible exact kq_25 | omega) only [wX5_in_0, wX5_in_1, wX5_in_2, wX5_in_5, wX5_in_6, wX5_in_7, wX5_in_10, wX5_in_11, wX5_in_14, wX5_in_15_0, wX5_in_15_1, psh_some, psh_none, i0, iI_lt, iI_le, iI_eq, iI_in, iI_nat, iI_add, iI_sub]
  (repeat' split) <;> first | rfl | (exfalso; omega) | (rw [and_t (by omega)])
theorem m_has {f : Nat → Bool} {m : Nat} (h : m < 6) : Wp X d 95 0 [.int (iI (bN f 6)), .int (iI m)] [] μ P = P (some (.int (iI (if f m = true then 1 else 0)))) μ := by
  by_cases c : f m = true
  · have e := has_b f h
    rw [if_pos c] at e ⊢
    simp (disch := first | assumption | with_reducible exact kd_0 | with_reducible exact kd_1 | with_reducible exact kd_3 | with_reducible exact kd_25 | with_reducible exact kd_26 | with_reducible exact kd_32 | with_reducible exact kd_30 | with_reducible exact kd_37 | with_reducible exact kd_39 | with_reducible exact kd_41 | with_reducible exact kd_2 | with_reducible exact kd_4 | with_reducible exact kd_5 | with_reducible exact kd_6 | with_reducible exact kd_27 | with_reducible exact kd_28 | with_reducible exact kd_29 | with_reducible exact kd_31 | with_reducible exact kd_33 | with_reducible exact kd_34 | with_reducible exact kd_35 | with_reducible exact kd_36 | with_reducible exact kd_38 | with_reducible exact kd_40 | with_reducible exact kd_86 | with_reducible exact kd_87 | with_reducible exact kd_88 | with_reducible exact kd_89 | with_reducible exact kd_90 | with_reducible exact kd_91 | with_reducible exact kd_92 | with_reducible exact kd_93 | with_reducible exact kd_94 | with_reducible exact kd_95 | with_reducible exact kd_96 | with_reducible exact kd_97 | with_reducible exact kd_98 | with_reducible exact kd_99 | with_reducible exact kd_100 | with_reducible exact kd_101 | with_reducible exact kd_102 | with_reducible exact kq_4 | with_reducible exact kq_6 | with_reducible exact kq_25 | omega) only [wX5_has_0, wX5_has_1, wX5_has_2, wX5_has_3, wX5_has_4, wX5_has_5, wX5_has_6, wX5_has_9, wX5_has_10, wX5_has_13, wX5_has_14_0, wX5_has_14_1, psh_some, psh_none, i0, iI_lt, iI_le, iI_eq, iI_in, iI_nat, iI_add, iI_sub, e]
    rw [if_pos (by trivial)]
  · have e := has_b f h
    rw [if_neg c] at e ⊢
    simp (disch := first | assumption | with_reducible exact kd_0 | with_reducible exact kd_1 | with_reducible exact kd_3 | with_reducible exact kd_25 | with_reducible exact kd_26 | with_reducible exact kd_32 | with_reducible exact kd_30 | with_reducible exact kd_37 | with_reducible exact kd_39 | with_reducible exact kd_41 | with_reducible exact kd_2 | with_reducible exact kd_4 | with_reducible exact kd_5 | with_reducible exact kd_6 | with_reducible exact kd_27 | with_reducible exact kd_28 | with_reducible exact kd_29 | with_reducible exact kd_31 | with_reducible exact kd_33 | with_reducible exact kd_34 | with_reducible exact kd_35 | with_reducible exact kd_36 | with_reducible exact kd_38 | with_reducible exact kd_40 | with_reducible exact kd_86 | with_reducible exact kd_87 | with_reducible exact kd_88 | with_reducible exact kd_89 | with_reducible exact kd_90 | with_reducible exact kd_91 | with_reducible exact kd_92 | with_reducible exact kd_93 | with_reducible exact kd_94 | with_reducible exact kd_95 | with_reducible exact kd_96 | with_reducible exact kd_97 | with_reducible exact kd_98 | with_reducible exact kd_99 | with_reducible exact kd_100 | with_reducible exact kd_101 | with_reducible exact kd_102 | with_reducible exact kq_4 | with_reducible exact kq_6 | with_reducible exact kq_25 | omega) only [wX5_has_0, wX5_has_1, wX5_has_2, wX5_has_3, wX5_has_4, wX5_has_5, wX5_has_6, wX5_has_9, wX5_has_10, wX5_has_13, wX5_has_14_0, wX5_has_14_1, psh_some, psh_none, i0, iI_lt, iI_le, iI_eq, iI_in, iI_nat, iI_add, iI_sub, e]
    rw [if_neg (by omega)]
theorem m_kinds (h : μ 86 0 = iI (L + 1)) : Wp X d 96 0 [.ref 86] [] μ P = P (some (.int (iI (2 * L)))) μ := by
  simp (disch := first | assumption | with_reducible exact kd_0 | with_reducible exact kd_1 | with_reducible exact kd_3 | with_reducible exact kd_25 | with_reducible exact kd_26 | with_reducible exact kd_32 | with_reducible exact kd_30 | with_reducible exact kd_37 | with_reducible exact kd_39 | with_reducible exact kd_41 | with_reducible exact kd_2 | with_reducible exact kd_4 | with_reducible exact kd_5 | with_reducible exact kd_6 | with_reducible exact kd_27 | with_reducible exact kd_28 | with_reducible exact kd_29 | with_reducible exact kd_31 | with_reducible exact kd_33 | with_reducible exact kd_34 | with_reducible exact kd_35 | with_reducible exact kd_36 | with_reducible exact kd_38 | with_reducible exact kd_40 | with_reducible exact kd_86 | with_reducible exact kd_87 | with_reducible exact kd_88 | with_reducible exact kd_89 | with_reducible exact kd_90 | with_reducible exact kd_91 | with_reducible exact kd_92 | with_reducible exact kd_93 | with_reducible exact kd_94 | with_reducible exact kd_95 | with_reducible exact kd_96 | with_reducible exact kd_97 | with_reducible exact kd_98 | with_reducible exact kd_99 | with_reducible exact kd_100 | with_reducible exact kd_101 | with_reducible exact kd_102 | with_reducible exact kq_4 | with_reducible exact kq_6 | with_reducible exact kq_25 | omega) only [wX5_kinds_0, wX5_kinds_1, wX5_kinds_2, wX5_kinds_5, wX5_kinds_6, wX5_kinds_7, wX5_kinds_8, psh_some, psh_none, rf_86_2, rf_86_3, rf_86_5, rf_86_6, rf_86_8, rf_86_9, rf_86_11, rf_86_12, rf_86_14, rf_86_16, rf_86_17, rf_86_18, rf_86_21, rf_86_22, rf_86_23, rf_86_24, ln_87, ln_88, ln_89, ln_90, ln_91, ln_92, ln_93, ln_94, ln_95, ln_96, ln_97, ln_98, ln_99, ln_100, ln_101, ln_102, h, iI_mul, iI_sub]
  rw [show 2 * (L + 1) - 2 = 2 * L by omega]
theorem m_letter {s : Int} (h : μ 86 0 = iI (L + 1)) (hL : 1 ≤ L ∧ L ≤ 3) (hs : 0 ≤ s ∧ s < 2 * L) : Wp X d 98 0 [.ref 86, .int (iI s)] [] μ P = P (some (.int (iI (letL L s)))) μ := by
  have e : s % (L + 1 - 1) = letL L s := by
    unfold letL
    rw [show L + 1 - 1 = L by omega]
    by_cases c : s < L
    · rw [if_pos c, Int.emod_eq_of_lt hs.1 c]
    · rw [if_neg c, ← Int.sub_emod_right, Int.emod_eq_of_lt (by omega) (by omega)]
  simp (disch := first | assumption | with_reducible exact kd_0 | with_reducible exact kd_1 | with_reducible exact kd_3 | with_reducible exact kd_25 | with_reducible exact kd_26 | with_reducible exact kd_32 | with_reducible exact kd_30 | with_reducible exact kd_37 | with_reducible exact kd_39 | with_reducible exact kd_41 | with_reducible exact kd_2 | with_reducible exact kd_4 | with_reducible exact kd_5 | with_reducible exact kd_6 | with_reducible exact kd_27 | with_reducible exact kd_28 | with_reducible exact kd_29 | with_reducible exact kd_31 | with_reducible exact kd_33 | with_reducible exact kd_34 | with_reducible exact kd_35 | with_reducible exact kd_36 | with_reducible exact kd_38 | with_reducible exact kd_40 | with_reducible exact kd_86 | with_reducible exact kd_87 | with_reducible exact kd_88 | with_reducible exact kd_89 | with_reducible exact kd_90 | with_reducible exact kd_91 | with_reducible exact kd_92 | with_reducible exact kd_93 | with_reducible exact kd_94 | with_reducible exact kd_95 | with_reducible exact kd_96 | with_reducible exact kd_97 | with_reducible exact kd_98 | with_reducible exact kd_99 | with_reducible exact kd_100 | with_reducible exact kd_101 | with_reducible exact kd_102 | with_reducible exact kq_4 | with_reducible exact kq_6 | with_reducible exact kq_25 | omega) only [wX5_letterOf_0, wX5_letterOf_1, wX5_letterOf_2, wX5_letterOf_5, wX5_letterOf_6, wX5_letterOf_7, wX5_letterOf_8, psh_some, psh_none, rf_86_2, rf_86_3, rf_86_5, rf_86_6, rf_86_8, rf_86_9, rf_86_11, rf_86_12, rf_86_14, rf_86_16, rf_86_17, rf_86_18, rf_86_21, rf_86_22, rf_86_23, rf_86_24, ln_87, ln_88, ln_89, ln_90, ln_91, ln_92, ln_93, ln_94, ln_95, ln_96, ln_97, ln_98, ln_99, ln_100, ln_101, ln_102, h, iI_sub, iI_rem, e, i0, iI_eq]
  rw [and_t (by omega)]
theorem m_small {s : Int} (h : μ 86 0 = iI (L + 1)) (hL : 1 ≤ L ∧ L ≤ 3) (hs : 0 ≤ s ∧ s < 2 * L) : Wp X d 99 0 [.ref 86, .int (iI s)] [] μ P = P (some (.int (iI (if s < L then 1 else 0)))) μ := by
  simp (disch := first | assumption | with_reducible exact kd_0 | with_reducible exact kd_1 | with_reducible exact kd_3 | with_reducible exact kd_25 | with_reducible exact kd_26 | with_reducible exact kd_32 | with_reducible exact kd_30 | with_reducible exact kd_37 | with_reducible exact kd_39 | with_reducible exact kd_41 | with_reducible exact kd_2 | with_reducible exact kd_4 | with_reducible exact kd_5 | with_reducible exact kd_6 | with_reducible exact kd_27 | with_reducible exact kd_28 | with_reducible exact kd_29 | with_reducible exact kd_31 | with_reducible exact kd_33 | with_reducible exact kd_34 | with_reducible exact kd_35 | with_reducible exact kd_36 | with_reducible exact kd_38 | with_reducible exact kd_40 | with_reducible exact kd_86 | with_reducible exact kd_87 | with_reducible exact kd_88 | with_reducible exact kd_89 | with_reducible exact kd_90 | with_reducible exact kd_91 | with_reducible exact kd_92 | with_reducible exact kd_93 | with_reducible exact kd_94 | with_reducible exact kd_95 | with_reducible exact kd_96 | with_reducible exact kd_97 | with_reducible exact kd_98 | with_reducible exact kd_99 | with_reducible exact kd_100 | with_reducible exact kd_101 | with_reducible exact kd_102 | with_reducible exact kq_4 | with_reducible exact kq_6 | with_reducible exact kq_25 | omega) only [wX5_isSmall_0, wX5_isSmall_1, wX5_isSmall_2, wX5_isSmall_5, wX5_isSmall_6, wX5_isSmall_7, wX5_isSmall_10, wX5_isSmall_11, wX5_isSmall_14, wX5_isSmall_15_0, wX5_isSmall_15_1, psh_some, psh_none, rf_86_2, rf_86_3, rf_86_5, rf_86_6, rf_86_8, rf_86_9, rf_86_11, rf_86_12, rf_86_14, rf_86_16, rf_86_17, rf_86_18, rf_86_21, rf_86_22, rf_86_23, rf_86_24, ln_87, ln_88, ln_89, ln_90, ln_91, ln_92, ln_93, ln_94, ln_95, ln_96, ln_97, ln_98, ln_99, ln_100, ln_101, ln_102, h, i0, iI_lt, iI_le, iI_eq, iI_in, iI_nat, iI_add, iI_sub]
  (repeat' split) <;> first | rfl | (exfalso; omega) | (rw [and_t (by omega)])
theorem m_codeOf {s : Int} (h : μ 86 0 = iI (L + 1)) (hL : 1 ≤ L ∧ L ≤ 3) (hs : 0 ≤ s ∧ s < 2 * L) : Wp X (d + 1) 100 0 [.ref 86, .int (iI s)] [] μ P = P (some (.int (iI (codeOf L s)))) μ := by
  simp (disch := first | assumption | with_reducible exact kd_0 | with_reducible exact kd_1 | with_reducible exact kd_3 | with_reducible exact kd_25 | with_reducible exact kd_26 | with_reducible exact kd_32 | with_reducible exact kd_30 | with_reducible exact kd_37 | with_reducible exact kd_39 | with_reducible exact kd_41 | with_reducible exact kd_2 | with_reducible exact kd_4 | with_reducible exact kd_5 | with_reducible exact kd_6 | with_reducible exact kd_27 | with_reducible exact kd_28 | with_reducible exact kd_29 | with_reducible exact kd_31 | with_reducible exact kd_33 | with_reducible exact kd_34 | with_reducible exact kd_35 | with_reducible exact kd_36 | with_reducible exact kd_38 | with_reducible exact kd_40 | with_reducible exact kd_86 | with_reducible exact kd_87 | with_reducible exact kd_88 | with_reducible exact kd_89 | with_reducible exact kd_90 | with_reducible exact kd_91 | with_reducible exact kd_92 | with_reducible exact kd_93 | with_reducible exact kd_94 | with_reducible exact kd_95 | with_reducible exact kd_96 | with_reducible exact kd_97 | with_reducible exact kd_98 | with_reducible exact kd_99 | with_reducible exact kd_100 | with_reducible exact kd_101 | with_reducible exact kd_102 | with_reducible exact kq_4 | with_reducible exact kq_6 | with_reducible exact kq_25 | omega) only [wX5_codeOf_0, wX5_codeOf_1, wX5_codeOf_2, wX5_codeOf_5, wX5_codeOf_8, wX5_codeOf_10, wX5_codeOf_13, wX5_codeOf_15, wX5_codeOf_16, wX5_codeOf_17, wX5_codeOf_20, wX5_codeOf_21, psh_some, psh_none, rf_86_2, rf_86_3, rf_86_5, rf_86_6, rf_86_8, rf_86_9, rf_86_11, rf_86_12, rf_86_14, rf_86_16, rf_86_17, rf_86_18, rf_86_21, rf_86_22, rf_86_23, rf_86_24, ln_87, ln_88, ln_89, ln_90, ln_91, ln_92, ln_93, ln_94, ln_95, ln_96, ln_97, ln_98, ln_99, ln_100, ln_101, ln_102, m_small h hL hs, m_letter h hL hs, i0, iI_lt, iI_le, iI_eq, iI_in, iI_nat, iI_add, iI_sub, bz]
  unfold codeOf letL
  by_cases c : s < L
  · rw [if_neg (fun z => z c), if_pos c, if_neg (by omega), if_pos c]
  · rw [if_pos c, if_neg c, if_neg (by omega), if_neg c, show 65 + (s - L) = 65 + s - L by omega]
def sgO (L c : Int) : Int := if padSign L c < 0 then -6 else padSign L c
theorem m_signOf {c : Int} (h : μ 86 0 = iI (L + 1)) (hL : 1 ≤ L ∧ L ≤ 3) (h1 : -1000 ≤ c) (h2 : c < 1000) : Wp X (d + 1) 101 0 [.ref 86, .int (iI c)] [] μ P = P (some (.int (iI (sgO L c)))) μ := by
  simp (disch := first | assumption | with_reducible exact kd_0 | with_reducible exact kd_1 | with_reducible exact kd_3 | with_reducible exact kd_25 | with_reducible exact kd_26 | with_reducible exact kd_32 | with_reducible exact kd_30 | with_reducible exact kd_37 | with_reducible exact kd_39 | with_reducible exact kd_41 | with_reducible exact kd_2 | with_reducible exact kd_4 | with_reducible exact kd_5 | with_reducible exact kd_6 | with_reducible exact kd_27 | with_reducible exact kd_28 | with_reducible exact kd_29 | with_reducible exact kd_31 | with_reducible exact kd_33 | with_reducible exact kd_34 | with_reducible exact kd_35 | with_reducible exact kd_36 | with_reducible exact kd_38 | with_reducible exact kd_40 | with_reducible exact kd_86 | with_reducible exact kd_87 | with_reducible exact kd_88 | with_reducible exact kd_89 | with_reducible exact kd_90 | with_reducible exact kd_91 | with_reducible exact kd_92 | with_reducible exact kd_93 | with_reducible exact kd_94 | with_reducible exact kd_95 | with_reducible exact kd_96 | with_reducible exact kd_97 | with_reducible exact kd_98 | with_reducible exact kd_99 | with_reducible exact kd_100 | with_reducible exact kd_101 | with_reducible exact kd_102 | with_reducible exact kq_4 | with_reducible exact kq_6 | with_reducible exact kq_25 | omega) only [wX5_signOf_0, wX5_signOf_1, wX5_signOf_3, wX5_signOf_5, wX5_signOf_6, wX5_signOf_9, wX5_signOf_10, wX5_signOf_11, wX5_signOf_12, wX5_signOf_15, wX5_signOf_18, wX5_signOf_19, wX5_signOf_21, wX5_signOf_22, wX5_signOf_25, wX5_signOf_26, wX5_signOf_28, wX5_signOf_30, wX5_signOf_31, wX5_signOf_34, wX5_signOf_35, wX5_signOf_36, wX5_signOf_37, wX5_signOf_40, wX5_signOf_43, wX5_signOf_44, wX5_signOf_46, wX5_signOf_47, wX5_signOf_48, wX5_signOf_51, wX5_signOf_52, wX5_signOf_53, wX5_signOf_54, wX5_signOf_57, wX5_signOf_59, psh_some, psh_none, rf_86_2, rf_86_3, rf_86_5, rf_86_6, rf_86_8, rf_86_9, rf_86_11, rf_86_12, rf_86_14, rf_86_16, rf_86_17, rf_86_18, rf_86_21, rf_86_22, rf_86_23, rf_86_24, ln_87, ln_88, ln_89, ln_90, ln_91, ln_92, ln_93, ln_94, ln_95, ln_96, ln_97, ln_98, ln_99, ln_100, ln_101, ln_102, h, m_in, i0, iI_lt, iI_le, iI_eq, iI_in, iI_nat, iI_add, iI_sub, bz]
  unfold sgO padSign
  by_cases c0 : c = 63
  · rw [if_pos c0, if_pos (by omega), if_pos (by omega), if_pos (by decide)]
  · rw [if_neg c0]
    by_cases c1 : 97 ≤ c ∧ c < 97 + L
    · rw [if_pos c1, if_neg (by omega), if_neg (by omega)]
    · rw [if_neg c1, if_pos (by omega)]
      by_cases c2 : 65 ≤ c ∧ c < 65 + L
      · rw [if_pos c2, if_neg (by omega), if_neg (by omega), show c - 65 + (L + 1) - 1 = c - 65 + L by omega]
      · rw [if_neg c2, if_pos (by omega), if_pos (by decide)]
theorem m_isMan {q : Co} {z : Int} (h : μ 86 1 = iI (bN (menB q) 6)) (h1 : -2147483648 ≤ z) (h2 : z < 2147483648) : Wp X (d + 1) 97 0 [.ref 86, .int (iI z)] [] μ P = P (some (.int (iI (if (manOf q z).isSome = true then 1 else 0)))) μ := by
  by_cases c : 0 ≤ z ∧ z < 6
  · have e : (manOf q z).isSome = menB q z.toNat := by unfold manOf menB; rw [if_pos c]
    rw [e]
    have e2 : z = (z.toNat : Int) := by omega
    rw [e2]
    simp (disch := first | assumption | with_reducible exact kd_0 | with_reducible exact kd_1 | with_reducible exact kd_3 | with_reducible exact kd_25 | with_reducible exact kd_26 | with_reducible exact kd_32 | with_reducible exact kd_30 | with_reducible exact kd_37 | with_reducible exact kd_39 | with_reducible exact kd_41 | with_reducible exact kd_2 | with_reducible exact kd_4 | with_reducible exact kd_5 | with_reducible exact kd_6 | with_reducible exact kd_27 | with_reducible exact kd_28 | with_reducible exact kd_29 | with_reducible exact kd_31 | with_reducible exact kd_33 | with_reducible exact kd_34 | with_reducible exact kd_35 | with_reducible exact kd_36 | with_reducible exact kd_38 | with_reducible exact kd_40 | with_reducible exact kd_86 | with_reducible exact kd_87 | with_reducible exact kd_88 | with_reducible exact kd_89 | with_reducible exact kd_90 | with_reducible exact kd_91 | with_reducible exact kd_92 | with_reducible exact kd_93 | with_reducible exact kd_94 | with_reducible exact kd_95 | with_reducible exact kd_96 | with_reducible exact kd_97 | with_reducible exact kd_98 | with_reducible exact kd_99 | with_reducible exact kd_100 | with_reducible exact kd_101 | with_reducible exact kd_102 | with_reducible exact kq_4 | with_reducible exact kq_6 | with_reducible exact kq_25 | omega) only [wX5_isMan_0, wX5_isMan_1, wX5_isMan_2, wX5_isMan_3, wX5_isMan_6, wX5_isMan_9, wX5_isMan_10, wX5_isMan_13, wX5_isMan_14, wX5_isMan_17, wX5_isMan_20, wX5_isMan_21, wX5_isMan_24, wX5_isMan_25_0, wX5_isMan_25_1, psh_some, psh_none, rf_86_2, rf_86_3, rf_86_5, rf_86_6, rf_86_8, rf_86_9, rf_86_11, rf_86_12, rf_86_14, rf_86_16, rf_86_17, rf_86_18, rf_86_21, rf_86_22, rf_86_23, rf_86_24, ln_87, ln_88, ln_89, ln_90, ln_91, ln_92, ln_93, ln_94, ln_95, ln_96, ln_97, ln_98, ln_99, ln_100, ln_101, ln_102, h, m_in, i0, iI_lt, iI_le, iI_eq, iI_in, iI_nat, iI_add, iI_sub, bz, m_has]
    rw [if_neg (by omega), Int.toNat_natCast]
    by_cases c2 : menB q z.toNat = true
    · rw [if_neg (fun z => z c2), if_pos c2]
    · rw [if_pos c2, if_neg c2]
  · have e : manOf q z = none := if_neg c
    rw [e]
    simp (disch := first | assumption | with_reducible exact kd_0 | with_reducible exact kd_1 | with_reducible exact kd_3 | with_reducible exact kd_25 | with_reducible exact kd_26 | with_reducible exact kd_32 | with_reducible exact kd_30 | with_reducible exact kd_37 | with_reducible exact kd_39 | with_reducible exact kd_41 | with_reducible exact kd_2 | with_reducible exact kd_4 | with_reducible exact kd_5 | with_reducible exact kd_6 | with_reducible exact kd_27 | with_reducible exact kd_28 | with_reducible exact kd_29 | with_reducible exact kd_31 | with_reducible exact kd_33 | with_reducible exact kd_34 | with_reducible exact kd_35 | with_reducible exact kd_36 | with_reducible exact kd_38 | with_reducible exact kd_40 | with_reducible exact kd_86 | with_reducible exact kd_87 | with_reducible exact kd_88 | with_reducible exact kd_89 | with_reducible exact kd_90 | with_reducible exact kd_91 | with_reducible exact kd_92 | with_reducible exact kd_93 | with_reducible exact kd_94 | with_reducible exact kd_95 | with_reducible exact kd_96 | with_reducible exact kd_97 | with_reducible exact kd_98 | with_reducible exact kd_99 | with_reducible exact kd_100 | with_reducible exact kd_101 | with_reducible exact kd_102 | with_reducible exact kq_4 | with_reducible exact kq_6 | with_reducible exact kq_25 | omega) only [wX5_isMan_0, wX5_isMan_1, wX5_isMan_2, wX5_isMan_3, wX5_isMan_6, wX5_isMan_20, wX5_isMan_21, wX5_isMan_24, wX5_isMan_25_0, wX5_isMan_25_1, psh_some, psh_none, rf_86_2, rf_86_3, rf_86_5, rf_86_6, rf_86_8, rf_86_9, rf_86_11, rf_86_12, rf_86_14, rf_86_16, rf_86_17, rf_86_18, rf_86_21, rf_86_22, rf_86_23, rf_86_24, ln_87, ln_88, ln_89, ln_90, ln_91, ln_92, ln_93, ln_94, ln_95, ln_96, ln_97, ln_98, ln_99, ln_100, ln_101, ln_102, h, m_in, i0, iI_lt, iI_le, iI_eq, iI_in, iI_nat, iI_add, iI_sub, bz]
    rw [if_pos (by omega)]
    rfl
end MB
