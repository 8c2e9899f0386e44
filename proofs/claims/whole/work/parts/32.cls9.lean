/-! the class: slips -/
def mnI (x y : Int) : Int := if y < x then y else x
def dl (a b : List Int) : Nat → Nat → Int
  | 0, j => j
  | i + 1, 0 => i + 1
  | i + 1, j + 1 => mnI (dl a b i j + (if a.getD i 0 = b.getD j 0 then 0 else 1)) (mnI (dl a b i (j + 1)) (dl a b (i + 1) j) + 1)
theorem dl_00 {a b : List Int} {j : Nat} : dl a b 0 j = j := by rw [dl]
theorem dl_s0 {a b : List Int} {i : Nat} : dl a b (i + 1) 0 = i + 1 := by rw [dl]
theorem dl_ss {a b : List Int} {i j : Nat} : dl a b (i + 1) (j + 1) = mnI (dl a b i j + (if a.getD i 0 = b.getD j 0 then 0 else 1)) (mnI (dl a b i (j + 1)) (dl a b (i + 1) j) + 1) := by rw [dl]
theorem dl_rg {a b : List Int} : ∀ (n i j : Nat), i + j = n → 0 ≤ dl a b i j ∧ dl a b i j ≤ i + j := by
  intro n
  induction n using Nat.strongRecOn with
  | ind n ih =>
    intro i j hn
    cases i with
    | zero => rw [dl_00]; omega
    | succ i =>
      cases j with
      | zero => rw [dl_s0]; omega
      | succ j =>
        have h1 := ih (i + j) (by omega) i j rfl
        have h2 := ih (i + (j + 1)) (by omega) i (j + 1) rfl
        have h3 := ih (i + 1 + j) (by omega) (i + 1) j rfl
        rw [dl_ss]
        unfold mnI
        (repeat' split) <;> omega
theorem dl_sym {a b : List Int} : ∀ (n i j : Nat), i + j = n → dl a b i j = dl b a j i := by
  intro n
  induction n using Nat.strongRecOn with
  | ind n ih =>
    intro i j hn
    cases i with
    | zero =>
      cases j with
      | zero => rw [dl_00, dl_00]
      | succ j => rw [dl_00, dl_s0]; rfl
    | succ i =>
      cases j with
      | zero => rw [dl_s0, dl_00]; rfl
      | succ j =>
        rw [dl_ss, dl_ss, ih (i + j) (by omega) i j rfl, ih (i + (j + 1)) (by omega) i (j + 1) rfl, ih (i + 1 + j) (by omega) (i + 1) j rfl]
        unfold mnI
        have e : (if a.getD i 0 = b.getD j 0 then (0 : Int) else 1) = (if b.getD j 0 = a.getD i 0 then 0 else 1) := by
          by_cases h : a.getD i 0 = b.getD j 0
          · rw [if_pos h, if_pos h.symm]
          · rw [if_neg h, if_neg (fun z => h z.symm)]
        rw [e]
        (repeat' split) <;> omega
def lev (a b : List Int) : Int := dl a b a.length b.length
theorem lev_sym (a b : List Int) : lev a b = lev b a := dl_sym _ _ _ rfl
theorem sf_inner {X : Env0} {d r t : Nat} {μ : Mem} {P : Option Value → Mem → Prop} {L : Int} {a b : List Int} {i : Nat} (hr : isRw r) (ht : isRw t) (ha : Rw μ r a) (hb : Rw μ t b) (hra : ¬ r = 41 ∧ ¬ r + 1 = 41 ∧ ¬ t = 41 ∧ ¬ t + 1 = 41) (oa : rowOK L a) (ob : rowOK L b) (hL : 1 ≤ L ∧ L ≤ 3) (hi : i < a.length)
    (hk : ∀ μ' v1 v2 v3, (∀ x, x ≤ b.length → μ' 41 x = iI (dl a b (i + 1) x)) → (∀ c, ¬ c = 41 → μ' c = μ c) → Wp X (d + 1) 86 139 [.ref 0, .ref r, .ref t, .int (iI i), v1, v2, v3] [] μ' P) :
    ∀ (k j : Nat) (μ' : Mem) (w : Value), k + j = b.length → (∀ x, x ≤ j → μ' 41 x = iI (dl a b (i + 1) x)) → (∀ x, j < x → x ≤ b.length → μ' 41 x = iI (dl a b i x)) → (∀ c, ¬ c = 41 → μ' c = μ c) →
    Wp X (d + 1) 86 49 [.ref 0, .ref r, .ref t, .int (iI i), .int (iI (dl a b i j)), .int (iI j), w] [] μ' P := by
  have oa1 := oa.1
  have ob1 := ob.1
  intro k
  induction k with
  | zero =>
    intro j μ' w hj h1 h2 hf
    have e1 : μ' t 1 = iI b.length := by rw [hf t hra.2.2.1]; exact hb.2.1
    have e2 := ht.1
    rw [wX4_slipsFrom_49]
    simp (disch := first | assumption | with_reducible exact kd_0 | with_reducible exact kd_1 | with_reducible exact kd_3 | with_reducible exact kd_25 | with_reducible exact kd_26 | with_reducible exact kd_32 | with_reducible exact kd_30 | with_reducible exact kd_37 | with_reducible exact kd_39 | with_reducible exact kd_41 | with_reducible exact kd_2 | with_reducible exact kd_4 | with_reducible exact kd_5 | with_reducible exact kd_6 | with_reducible exact kd_27 | with_reducible exact kd_28 | with_reducible exact kd_29 | with_reducible exact kd_31 | with_reducible exact kd_33 | with_reducible exact kd_34 | with_reducible exact kd_35 | with_reducible exact kd_36 | with_reducible exact kd_38 | with_reducible exact kd_40 | with_reducible exact kd_86 | with_reducible exact kd_87 | with_reducible exact kd_88 | with_reducible exact kd_89 | with_reducible exact kd_90 | with_reducible exact kd_91 | with_reducible exact kd_92 | with_reducible exact kd_93 | with_reducible exact kd_94 | with_reducible exact kd_95 | with_reducible exact kd_96 | with_reducible exact kd_97 | with_reducible exact kd_98 | with_reducible exact kd_99 | with_reducible exact kd_100 | with_reducible exact kd_101 | with_reducible exact kd_102 | with_reducible exact kq_4 | with_reducible exact kq_6 | with_reducible exact kq_25 | omega) only [wX4_slipsFrom_0, wX4_slipsFrom_1, wX4_slipsFrom_2, wX4_slipsFrom_3, wX4_slipsFrom_4, wX4_slipsFrom_7, wX4_slipsFrom_8, wX4_slipsFrom_11, wX4_slipsFrom_12, wX4_slipsFrom_15, wX4_slipsFrom_16, wX4_slipsFrom_17, wX4_slipsFrom_18, wX4_slipsFrom_21, wX4_slipsFrom_24, wX4_slipsFrom_25, wX4_slipsFrom_26, wX4_slipsFrom_27, wX4_slipsFrom_27n, wX4_slipsFrom_28, wX4_slipsFrom_31, wX4_slipsFrom_34, wX4_slipsFrom_35, wX4_slipsFrom_37, wX4_slipsFrom_38, wX4_slipsFrom_41, wX4_slipsFrom_42, wX4_slipsFrom_43, wX4_slipsFrom_44, wX4_slipsFrom_45, wX4_slipsFrom_46, wX4_slipsFrom_47, wX4_slipsFrom_51, wX4_slipsFrom_51n, wX4_slipsFrom_52, wX4_slipsFrom_55, wX4_slipsFrom_58, wX4_slipsFrom_60, wX4_slipsFrom_61, wX4_slipsFrom_62, wX4_slipsFrom_63, wX4_slipsFrom_66, wX4_slipsFrom_67, wX4_slipsFrom_70, wX4_slipsFrom_72, wX4_slipsFrom_72n, wX4_slipsFrom_73, wX4_slipsFrom_74, wX4_slipsFrom_77, wX4_slipsFrom_77n, wX4_slipsFrom_78, wX4_slipsFrom_80, wX4_slipsFrom_83, wX4_slipsFrom_86, wX4_slipsFrom_87, wX4_slipsFrom_90, wX4_slipsFrom_91, wX4_slipsFrom_92, wX4_slipsFrom_94, wX4_slipsFrom_95, wX4_slipsFrom_98, wX4_slipsFrom_100, wX4_slipsFrom_101, wX4_slipsFrom_102, wX4_slipsFrom_103, wX4_slipsFrom_105, wX4_slipsFrom_106, wX4_slipsFrom_109, wX4_slipsFrom_111, wX4_slipsFrom_112, wX4_slipsFrom_113, wX4_slipsFrom_115, wX4_slipsFrom_117, wX4_slipsFrom_118, wX4_slipsFrom_121, wX4_slipsFrom_123, wX4_slipsFrom_124, wX4_slipsFrom_127, wX4_slipsFrom_128, wX4_slipsFrom_129, wX4_slipsFrom_132, wX4_slipsFrom_133, wX4_slipsFrom_136, wX4_slipsFrom_142, wX4_slipsFrom_145, wX4_slipsFrom_145n, wX4_slipsFrom_146, wX4_slipsFrom_149, wX4_slipsFrom_150, wX4_slipsFrom_153, wX4_slipsFrom_154, wX4_slipsFrom_157, wX4_slipsFrom_158, wX4_slipsFrom_161, wX4_slipsFrom_161n, wX4_slipsFrom_162, wX4_slipsFrom_165, wX4_slipsFrom_166, wX4_slipsFrom_169, wX4_slipsFrom_171, psh_some, psh_none, rf_0_0, rf_0_1, rf_0_2, rf_0_3, rf_0_4, rf_0_5, rf_0_6, rf_0_7, rf_1_0, ln_2, rf_3_1, rf_3_2, rf_3_3, ln_4, ln_5, ln_6, rf_25_0, rf_25_1, ln_25, rf_26_0, rf_26_1, rf_26_2, rf_26_3, ln_27, ln_28, ln_29, rf_30_0, ln_31, rf_32_0, rf_32_1, rf_32_2, rf_32_3, ln_33, ln_34, ln_35, ln_36, rf_37_0, ln_38, rf_39_0, ln_40, ln_41, i0, iI_lt, iI_le, iI_eq, iI_in, iI_nat, iI_add, iI_sub, e1]
    rw [if_pos (by omega)]
    have : j = b.length := by omega
    subst this
    exact hk _ _ _ _ h1 hf
  | succ k ih =>
    intro j μ' w hj h1 h2 hf
    have e1 : μ' t 1 = iI b.length := by rw [hf t hra.2.2.1]; exact hb.2.1
    have e2 := ht.1
    have e2r := hr.1
    have ha' : Rw μ' r a := ha.fr (hf r hra.1) (hf _ hra.2.1)
    have hb' : Rw μ' t b := hb.fr (hf t hra.2.2.1) (hf _ hra.2.2.2)
    have e3 := atL_nat hi
    have e4 := atL_nat (show j < b.length by omega)
    have e5 := rowOK_at oa hi
    have e6 := rowOK_at ob (show j < b.length by omega)
    have r1 := dl_rg (a := a) (b := b) _ i j rfl
    have r2 := dl_rg (a := a) (b := b) _ i (j + 1) rfl
    have r3 := dl_rg (a := a) (b := b) _ (i + 1) j rfl
    have m1 : μ' 41 (j + 1) = iI (dl a b i (j + 1)) := h2 (j + 1) (by omega) (by omega)
    have m2 : μ' 41 j = iI (dl a b (i + 1) j) := h1 j (Nat.le_refl j)
    have n1 : ((j : Int) + 1).toNat = j + 1 := by omega
    have hs := dl_ss (a := a) (b := b) (i := i) (j := j)
    generalize hv : dl a b (i + 1) (j + 1) = v at hs
    have p1 : ∀ x, x ≤ j + 1 → u2 μ' 41 (j + 1) (iI v) 41 x = iI (dl a b (i + 1) x) := by
      intro x hx
      by_cases hx2 : x = j + 1
      · rw [hx2, u2_s, hv]
      · rw [u2_n hx2]
        exact h1 x (by omega)
    have p2 : ∀ x, j + 1 < x → x ≤ b.length → u2 μ' 41 (j + 1) (iI v) 41 x = iI (dl a b i x) := by
      intro x h3 h4
      rw [u2_n (by omega)]
      exact h2 x (by omega) h4
    have f := fun w => ih (j + 1) (u2 μ' 41 (j + 1) (iI v)) w (by omega) p1 p2 (fun c hc => by rw [u2_cell hc]; exact hf c hc)
    rw [Int.natCast_add, Int.natCast_one] at f
    rw [wX4_slipsFrom_49]
    unfold mnI at hs
    simp (disch := first | assumption | with_reducible exact kd_0 | with_reducible exact kd_1 | with_reducible exact kd_3 | with_reducible exact kd_25 | with_reducible exact kd_26 | with_reducible exact kd_32 | with_reducible exact kd_30 | with_reducible exact kd_37 | with_reducible exact kd_39 | with_reducible exact kd_41 | with_reducible exact kd_2 | with_reducible exact kd_4 | with_reducible exact kd_5 | with_reducible exact kd_6 | with_reducible exact kd_27 | with_reducible exact kd_28 | with_reducible exact kd_29 | with_reducible exact kd_31 | with_reducible exact kd_33 | with_reducible exact kd_34 | with_reducible exact kd_35 | with_reducible exact kd_36 | with_reducible exact kd_38 | with_reducible exact kd_40 | with_reducible exact kd_86 | with_reducible exact kd_87 | with_reducible exact kd_88 | with_reducible exact kd_89 | with_reducible exact kd_90 | with_reducible exact kd_91 | with_reducible exact kd_92 | with_reducible exact kd_93 | with_reducible exact kd_94 | with_reducible exact kd_95 | with_reducible exact kd_96 | with_reducible exact kd_97 | with_reducible exact kd_98 | with_reducible exact kd_99 | with_reducible exact kd_100 | with_reducible exact kd_101 | with_reducible exact kd_102 | with_reducible exact kq_4 | with_reducible exact kq_6 | with_reducible exact kq_25 | omega) only [wX4_slipsFrom_0, wX4_slipsFrom_1, wX4_slipsFrom_2, wX4_slipsFrom_3, wX4_slipsFrom_4, wX4_slipsFrom_7, wX4_slipsFrom_8, wX4_slipsFrom_11, wX4_slipsFrom_12, wX4_slipsFrom_15, wX4_slipsFrom_16, wX4_slipsFrom_17, wX4_slipsFrom_18, wX4_slipsFrom_21, wX4_slipsFrom_24, wX4_slipsFrom_25, wX4_slipsFrom_26, wX4_slipsFrom_27, wX4_slipsFrom_27n, wX4_slipsFrom_28, wX4_slipsFrom_31, wX4_slipsFrom_34, wX4_slipsFrom_35, wX4_slipsFrom_37, wX4_slipsFrom_38, wX4_slipsFrom_41, wX4_slipsFrom_42, wX4_slipsFrom_43, wX4_slipsFrom_44, wX4_slipsFrom_45, wX4_slipsFrom_46, wX4_slipsFrom_47, wX4_slipsFrom_51, wX4_slipsFrom_51n, wX4_slipsFrom_52, wX4_slipsFrom_55, wX4_slipsFrom_58, wX4_slipsFrom_60, wX4_slipsFrom_61, wX4_slipsFrom_62, wX4_slipsFrom_63, wX4_slipsFrom_66, wX4_slipsFrom_67, wX4_slipsFrom_70, wX4_slipsFrom_72, wX4_slipsFrom_72n, wX4_slipsFrom_73, wX4_slipsFrom_74, wX4_slipsFrom_77, wX4_slipsFrom_77n, wX4_slipsFrom_78, wX4_slipsFrom_80, wX4_slipsFrom_83, wX4_slipsFrom_86, wX4_slipsFrom_87, wX4_slipsFrom_90, wX4_slipsFrom_91, wX4_slipsFrom_92, wX4_slipsFrom_94, wX4_slipsFrom_95, wX4_slipsFrom_98, wX4_slipsFrom_100, wX4_slipsFrom_101, wX4_slipsFrom_102, wX4_slipsFrom_103, wX4_slipsFrom_105, wX4_slipsFrom_106, wX4_slipsFrom_109, wX4_slipsFrom_111, wX4_slipsFrom_112, wX4_slipsFrom_113, wX4_slipsFrom_115, wX4_slipsFrom_117, wX4_slipsFrom_118, wX4_slipsFrom_121, wX4_slipsFrom_123, wX4_slipsFrom_124, wX4_slipsFrom_127, wX4_slipsFrom_128, wX4_slipsFrom_129, wX4_slipsFrom_132, wX4_slipsFrom_133, wX4_slipsFrom_136, wX4_slipsFrom_142, wX4_slipsFrom_145, wX4_slipsFrom_145n, wX4_slipsFrom_146, wX4_slipsFrom_149, wX4_slipsFrom_150, wX4_slipsFrom_153, wX4_slipsFrom_154, wX4_slipsFrom_157, wX4_slipsFrom_158, wX4_slipsFrom_161, wX4_slipsFrom_161n, wX4_slipsFrom_162, wX4_slipsFrom_165, wX4_slipsFrom_166, wX4_slipsFrom_169, wX4_slipsFrom_171, psh_some, psh_none, rf_0_0, rf_0_1, rf_0_2, rf_0_3, rf_0_4, rf_0_5, rf_0_6, rf_0_7, rf_1_0, ln_2, rf_3_1, rf_3_2, rf_3_3, ln_4, ln_5, ln_6, rf_25_0, rf_25_1, ln_25, rf_26_0, rf_26_1, rf_26_2, rf_26_3, ln_27, ln_28, ln_29, rf_30_0, ln_31, rf_32_0, rf_32_1, rf_32_2, rf_32_3, ln_33, ln_34, ln_35, ln_36, rf_37_0, ln_38, rf_39_0, ln_40, ln_41, i0, iI_lt, iI_le, iI_eq, iI_in, iI_nat, iI_add, iI_sub, e1, at_spec hr ha', at_spec ht hb', e3, e4, n1, m1, m2, Int.toNat_natCast]
    rw [if_neg (by omega), if_neg (by omega)]
    by_cases c1 : a.getD i 0 = b.getD j 0
    · rw [if_pos c1] at hs
      simp only [c1, if_true]
      refine ⟨by omega, by omega, by omega, ?_⟩
      by_cases c2 : dl a b (i + 1) j < dl a b i (j + 1)
      · rw [if_pos c2] at hs
        simp only [c2, if_true]
        simp (disch := omega) only [iI_lt, iI_add]
        by_cases c3 : dl a b (i + 1) j + 1 < dl a b i j + 0
        · rw [if_pos c3] at hs
          rw [if_pos c3, ← hs]
          exact f _
        · rw [if_neg c3] at hs
          rw [if_neg c3, ← hs]
          exact f _
      · rw [if_neg c2] at hs
        simp only [c2, if_false]
        simp (disch := omega) only [iI_lt, iI_add]
        by_cases c3 : dl a b i (j + 1) + 1 < dl a b i j + 0
        · rw [if_pos c3] at hs
          rw [if_pos c3, ← hs]
          exact f _
        · rw [if_neg c3] at hs
          rw [if_neg c3, ← hs]
          exact f _
    · rw [if_neg c1] at hs
      simp only [c1, if_false]
      refine ⟨by omega, by omega, by omega, ?_⟩
      by_cases c2 : dl a b (i + 1) j < dl a b i (j + 1)
      · rw [if_pos c2] at hs
        simp only [c2, if_true]
        simp (disch := omega) only [iI_lt, iI_add]
        by_cases c3 : dl a b (i + 1) j + 1 < dl a b i j + 1
        · rw [if_pos c3] at hs
          rw [if_pos c3, ← hs]
          exact f _
        · rw [if_neg c3] at hs
          rw [if_neg c3, ← hs]
          exact f _
      · rw [if_neg c2] at hs
        simp only [c2, if_false]
        simp (disch := omega) only [iI_lt, iI_add]
        by_cases c3 : dl a b i (j + 1) + 1 < dl a b i j + 1
        · rw [if_pos c3] at hs
          rw [if_pos c3, ← hs]
          exact f _
        · rw [if_neg c3] at hs
          rw [if_neg c3, ← hs]
          exact f _
theorem sf_outer {X : Env0} {d r t : Nat} {μ : Mem} {P : Option Value → Mem → Prop} {L : Int} {a b : List Int} (hr : isRw r) (ht : isRw t) (ha : Rw μ r a) (hb : Rw μ t b) (hra : ¬ r = 41 ∧ ¬ r + 1 = 41 ∧ ¬ t = 41 ∧ ¬ t + 1 = 41) (oa : rowOK L a) (ob : rowOK L b) (hL : 1 ≤ L ∧ L ≤ 3)
    (hk : ∀ μ', (∀ c, ¬ c = 41 → μ' c = μ c) → P (some (.int (iI (lev a b)))) μ') :
    ∀ (k i : Nat) (μ' : Mem) (w1 w2 w3 : Value), k + i = a.length → (∀ x, x ≤ b.length → μ' 41 x = iI (dl a b i x)) → (∀ c, ¬ c = 41 → μ' c = μ c) →
    Wp X (d + 1) 86 26 [.ref 0, .ref r, .ref t, .int (iI i), w1, w2, w3] [] μ' P := by
  have oa1 := oa.1
  have ob1 := ob.1
  have e2 := ht.1
  have e2r := hr.1
  intro k
  induction k with
  | zero =>
    intro i μ' w1 w2 w3 hi h1 hf
    have e1 : μ' r 1 = iI a.length := by rw [hf r hra.1]; exact ha.2.1
    have e1t : μ' t 1 = iI b.length := by rw [hf t hra.2.2.1]; exact hb.2.1
    have e3 : i = a.length := by omega
    subst e3
    have e4 := h1 b.length (Nat.le_refl _)
    rw [wX4_slipsFrom_26]
    simp (disch := first | assumption | with_reducible exact kd_0 | with_reducible exact kd_1 | with_reducible exact kd_3 | with_reducible exact kd_25 | with_reducible exact kd_26 | with_reducible exact kd_32 | with_reducible exact kd_30 | with_reducible exact kd_37 | with_reducible exact kd_39 | with_reducible exact kd_41 | with_reducible exact kd_2 | with_reducible exact kd_4 | with_reducible exact kd_5 | with_reducible exact kd_6 | with_reducible exact kd_27 | with_reducible exact kd_28 | with_reducible exact kd_29 | with_reducible exact kd_31 | with_reducible exact kd_33 | with_reducible exact kd_34 | with_reducible exact kd_35 | with_reducible exact kd_36 | with_reducible exact kd_38 | with_reducible exact kd_40 | with_reducible exact kd_86 | with_reducible exact kd_87 | with_reducible exact kd_88 | with_reducible exact kd_89 | with_reducible exact kd_90 | with_reducible exact kd_91 | with_reducible exact kd_92 | with_reducible exact kd_93 | with_reducible exact kd_94 | with_reducible exact kd_95 | with_reducible exact kd_96 | with_reducible exact kd_97 | with_reducible exact kd_98 | with_reducible exact kd_99 | with_reducible exact kd_100 | with_reducible exact kd_101 | with_reducible exact kd_102 | with_reducible exact kq_4 | with_reducible exact kq_6 | with_reducible exact kq_25 | omega) only [wX4_slipsFrom_0, wX4_slipsFrom_1, wX4_slipsFrom_2, wX4_slipsFrom_3, wX4_slipsFrom_4, wX4_slipsFrom_7, wX4_slipsFrom_8, wX4_slipsFrom_11, wX4_slipsFrom_12, wX4_slipsFrom_15, wX4_slipsFrom_16, wX4_slipsFrom_17, wX4_slipsFrom_18, wX4_slipsFrom_21, wX4_slipsFrom_24, wX4_slipsFrom_25, wX4_slipsFrom_27, wX4_slipsFrom_27n, wX4_slipsFrom_28, wX4_slipsFrom_31, wX4_slipsFrom_34, wX4_slipsFrom_35, wX4_slipsFrom_37, wX4_slipsFrom_38, wX4_slipsFrom_41, wX4_slipsFrom_42, wX4_slipsFrom_43, wX4_slipsFrom_44, wX4_slipsFrom_45, wX4_slipsFrom_46, wX4_slipsFrom_47, wX4_slipsFrom_49, wX4_slipsFrom_51, wX4_slipsFrom_51n, wX4_slipsFrom_52, wX4_slipsFrom_55, wX4_slipsFrom_58, wX4_slipsFrom_60, wX4_slipsFrom_61, wX4_slipsFrom_62, wX4_slipsFrom_63, wX4_slipsFrom_66, wX4_slipsFrom_67, wX4_slipsFrom_70, wX4_slipsFrom_72, wX4_slipsFrom_72n, wX4_slipsFrom_73, wX4_slipsFrom_74, wX4_slipsFrom_77, wX4_slipsFrom_77n, wX4_slipsFrom_78, wX4_slipsFrom_80, wX4_slipsFrom_83, wX4_slipsFrom_86, wX4_slipsFrom_87, wX4_slipsFrom_90, wX4_slipsFrom_91, wX4_slipsFrom_92, wX4_slipsFrom_94, wX4_slipsFrom_95, wX4_slipsFrom_98, wX4_slipsFrom_100, wX4_slipsFrom_101, wX4_slipsFrom_102, wX4_slipsFrom_103, wX4_slipsFrom_105, wX4_slipsFrom_106, wX4_slipsFrom_109, wX4_slipsFrom_111, wX4_slipsFrom_112, wX4_slipsFrom_113, wX4_slipsFrom_115, wX4_slipsFrom_117, wX4_slipsFrom_118, wX4_slipsFrom_121, wX4_slipsFrom_123, wX4_slipsFrom_124, wX4_slipsFrom_127, wX4_slipsFrom_128, wX4_slipsFrom_129, wX4_slipsFrom_132, wX4_slipsFrom_133, wX4_slipsFrom_136, wX4_slipsFrom_139, wX4_slipsFrom_142, wX4_slipsFrom_145, wX4_slipsFrom_145n, wX4_slipsFrom_146, wX4_slipsFrom_149, wX4_slipsFrom_150, wX4_slipsFrom_153, wX4_slipsFrom_154, wX4_slipsFrom_157, wX4_slipsFrom_158, wX4_slipsFrom_161, wX4_slipsFrom_161n, wX4_slipsFrom_162, wX4_slipsFrom_165, wX4_slipsFrom_166, wX4_slipsFrom_169, wX4_slipsFrom_171, psh_some, psh_none, rf_0_0, rf_0_1, rf_0_2, rf_0_3, rf_0_4, rf_0_5, rf_0_6, rf_0_7, rf_1_0, ln_2, rf_3_1, rf_3_2, rf_3_3, ln_4, ln_5, ln_6, rf_25_0, rf_25_1, ln_25, rf_26_0, rf_26_1, rf_26_2, rf_26_3, ln_27, ln_28, ln_29, rf_30_0, ln_31, rf_32_0, rf_32_1, rf_32_2, rf_32_3, ln_33, ln_34, ln_35, ln_36, rf_37_0, ln_38, rf_39_0, ln_40, ln_41, i0, iI_lt, iI_le, iI_eq, iI_in, iI_nat, iI_add, iI_sub, e1, e1t, Int.toNat_natCast, e4]
    rw [if_pos (by omega), if_neg (by omega), and_t (by omega)]
    exact hk μ' hf
  | succ k ih =>
    intro i μ' w1 w2 w3 hi h1 hf
    have e1 : μ' r 1 = iI a.length := by rw [hf r hra.1]; exact ha.2.1
    have f := sf_inner (X := X) (d := d) (P := P) (i := i) hr ht ha hb hra oa ob hL (by omega) (fun μ'' v1 v2 v3 g1 g2 => by
      have g := ih (i + 1) μ'' v1 v2 v3 (by omega) g1 g2
      rw [Int.natCast_add, Int.natCast_one] at g
      simp (disch := first | assumption | with_reducible exact kd_0 | with_reducible exact kd_1 | with_reducible exact kd_3 | with_reducible exact kd_25 | with_reducible exact kd_26 | with_reducible exact kd_32 | with_reducible exact kd_30 | with_reducible exact kd_37 | with_reducible exact kd_39 | with_reducible exact kd_41 | with_reducible exact kd_2 | with_reducible exact kd_4 | with_reducible exact kd_5 | with_reducible exact kd_6 | with_reducible exact kd_27 | with_reducible exact kd_28 | with_reducible exact kd_29 | with_reducible exact kd_31 | with_reducible exact kd_33 | with_reducible exact kd_34 | with_reducible exact kd_35 | with_reducible exact kd_36 | with_reducible exact kd_38 | with_reducible exact kd_40 | with_reducible exact kd_86 | with_reducible exact kd_87 | with_reducible exact kd_88 | with_reducible exact kd_89 | with_reducible exact kd_90 | with_reducible exact kd_91 | with_reducible exact kd_92 | with_reducible exact kd_93 | with_reducible exact kd_94 | with_reducible exact kd_95 | with_reducible exact kd_96 | with_reducible exact kd_97 | with_reducible exact kd_98 | with_reducible exact kd_99 | with_reducible exact kd_100 | with_reducible exact kd_101 | with_reducible exact kd_102 | with_reducible exact kq_4 | with_reducible exact kq_6 | with_reducible exact kq_25 | omega) only [wX4_slipsFrom_0, wX4_slipsFrom_1, wX4_slipsFrom_2, wX4_slipsFrom_3, wX4_slipsFrom_4, wX4_slipsFrom_7, wX4_slipsFrom_8, wX4_slipsFrom_11, wX4_slipsFrom_12, wX4_slipsFrom_15, wX4_slipsFrom_16, wX4_slipsFrom_17, wX4_slipsFrom_18, wX4_slipsFrom_21, wX4_slipsFrom_24, wX4_slipsFrom_25, wX4_slipsFrom_27, wX4_slipsFrom_27n, wX4_slipsFrom_28, wX4_slipsFrom_31, wX4_slipsFrom_34, wX4_slipsFrom_35, wX4_slipsFrom_37, wX4_slipsFrom_38, wX4_slipsFrom_41, wX4_slipsFrom_42, wX4_slipsFrom_43, wX4_slipsFrom_44, wX4_slipsFrom_45, wX4_slipsFrom_46, wX4_slipsFrom_47, wX4_slipsFrom_49, wX4_slipsFrom_51, wX4_slipsFrom_51n, wX4_slipsFrom_52, wX4_slipsFrom_55, wX4_slipsFrom_58, wX4_slipsFrom_60, wX4_slipsFrom_61, wX4_slipsFrom_62, wX4_slipsFrom_63, wX4_slipsFrom_66, wX4_slipsFrom_67, wX4_slipsFrom_70, wX4_slipsFrom_72, wX4_slipsFrom_72n, wX4_slipsFrom_73, wX4_slipsFrom_74, wX4_slipsFrom_77, wX4_slipsFrom_77n, wX4_slipsFrom_78, wX4_slipsFrom_80, wX4_slipsFrom_83, wX4_slipsFrom_86, wX4_slipsFrom_87, wX4_slipsFrom_90, wX4_slipsFrom_91, wX4_slipsFrom_92, wX4_slipsFrom_94, wX4_slipsFrom_95, wX4_slipsFrom_98, wX4_slipsFrom_100, wX4_slipsFrom_101, wX4_slipsFrom_102, wX4_slipsFrom_103, wX4_slipsFrom_105, wX4_slipsFrom_106, wX4_slipsFrom_109, wX4_slipsFrom_111, wX4_slipsFrom_112, wX4_slipsFrom_113, wX4_slipsFrom_115, wX4_slipsFrom_117, wX4_slipsFrom_118, wX4_slipsFrom_121, wX4_slipsFrom_123, wX4_slipsFrom_124, wX4_slipsFrom_127, wX4_slipsFrom_128, wX4_slipsFrom_129, wX4_slipsFrom_132, wX4_slipsFrom_133, wX4_slipsFrom_136, wX4_slipsFrom_139, wX4_slipsFrom_142, wX4_slipsFrom_145, wX4_slipsFrom_145n, wX4_slipsFrom_146, wX4_slipsFrom_149, wX4_slipsFrom_150, wX4_slipsFrom_153, wX4_slipsFrom_154, wX4_slipsFrom_157, wX4_slipsFrom_158, wX4_slipsFrom_161, wX4_slipsFrom_161n, wX4_slipsFrom_162, wX4_slipsFrom_165, wX4_slipsFrom_166, wX4_slipsFrom_169, wX4_slipsFrom_171, psh_some, psh_none, i0, iI_lt, iI_le, iI_eq, iI_in, iI_nat, iI_add, iI_sub]
      exact g) b.length 0 (u2 μ' 41 0 (iI (i + 1))) w3 (by omega) (fun x hx => by
        have : x = 0 := by omega
        subst this
        rw [u2_s, dl_s0]) (fun x h3 h4 => by
        rw [u2_n (by omega)]
        exact h1 x h4) (fun c hc => by rw [u2_cell hc]; exact hf c hc)
    have hd0 : dl a b i 0 = i := by
      cases i with
      | zero => rw [dl_00]
      | succ i => rw [dl_s0]; rfl
    rw [hd0, Int.natCast_zero] at f
    rw [wX4_slipsFrom_26]
    simp (disch := first | assumption | with_reducible exact kd_0 | with_reducible exact kd_1 | with_reducible exact kd_3 | with_reducible exact kd_25 | with_reducible exact kd_26 | with_reducible exact kd_32 | with_reducible exact kd_30 | with_reducible exact kd_37 | with_reducible exact kd_39 | with_reducible exact kd_41 | with_reducible exact kd_2 | with_reducible exact kd_4 | with_reducible exact kd_5 | with_reducible exact kd_6 | with_reducible exact kd_27 | with_reducible exact kd_28 | with_reducible exact kd_29 | with_reducible exact kd_31 | with_reducible exact kd_33 | with_reducible exact kd_34 | with_reducible exact kd_35 | with_reducible exact kd_36 | with_reducible exact kd_38 | with_reducible exact kd_40 | with_reducible exact kd_86 | with_reducible exact kd_87 | with_reducible exact kd_88 | with_reducible exact kd_89 | with_reducible exact kd_90 | with_reducible exact kd_91 | with_reducible exact kd_92 | with_reducible exact kd_93 | with_reducible exact kd_94 | with_reducible exact kd_95 | with_reducible exact kd_96 | with_reducible exact kd_97 | with_reducible exact kd_98 | with_reducible exact kd_99 | with_reducible exact kd_100 | with_reducible exact kd_101 | with_reducible exact kd_102 | with_reducible exact kq_4 | with_reducible exact kq_6 | with_reducible exact kq_25 | omega) only [wX4_slipsFrom_0, wX4_slipsFrom_1, wX4_slipsFrom_2, wX4_slipsFrom_3, wX4_slipsFrom_4, wX4_slipsFrom_7, wX4_slipsFrom_8, wX4_slipsFrom_11, wX4_slipsFrom_12, wX4_slipsFrom_15, wX4_slipsFrom_16, wX4_slipsFrom_17, wX4_slipsFrom_18, wX4_slipsFrom_21, wX4_slipsFrom_24, wX4_slipsFrom_25, wX4_slipsFrom_27, wX4_slipsFrom_27n, wX4_slipsFrom_28, wX4_slipsFrom_31, wX4_slipsFrom_34, wX4_slipsFrom_35, wX4_slipsFrom_37, wX4_slipsFrom_38, wX4_slipsFrom_41, wX4_slipsFrom_42, wX4_slipsFrom_43, wX4_slipsFrom_44, wX4_slipsFrom_45, wX4_slipsFrom_46, wX4_slipsFrom_47, wX4_slipsFrom_51, wX4_slipsFrom_51n, wX4_slipsFrom_52, wX4_slipsFrom_55, wX4_slipsFrom_58, wX4_slipsFrom_60, wX4_slipsFrom_61, wX4_slipsFrom_62, wX4_slipsFrom_63, wX4_slipsFrom_66, wX4_slipsFrom_67, wX4_slipsFrom_70, wX4_slipsFrom_72, wX4_slipsFrom_72n, wX4_slipsFrom_73, wX4_slipsFrom_74, wX4_slipsFrom_77, wX4_slipsFrom_77n, wX4_slipsFrom_78, wX4_slipsFrom_80, wX4_slipsFrom_83, wX4_slipsFrom_86, wX4_slipsFrom_87, wX4_slipsFrom_90, wX4_slipsFrom_91, wX4_slipsFrom_92, wX4_slipsFrom_94, wX4_slipsFrom_95, wX4_slipsFrom_98, wX4_slipsFrom_100, wX4_slipsFrom_101, wX4_slipsFrom_102, wX4_slipsFrom_103, wX4_slipsFrom_105, wX4_slipsFrom_106, wX4_slipsFrom_109, wX4_slipsFrom_111, wX4_slipsFrom_112, wX4_slipsFrom_113, wX4_slipsFrom_115, wX4_slipsFrom_117, wX4_slipsFrom_118, wX4_slipsFrom_121, wX4_slipsFrom_123, wX4_slipsFrom_124, wX4_slipsFrom_127, wX4_slipsFrom_128, wX4_slipsFrom_129, wX4_slipsFrom_132, wX4_slipsFrom_133, wX4_slipsFrom_136, wX4_slipsFrom_139, wX4_slipsFrom_142, wX4_slipsFrom_145, wX4_slipsFrom_145n, wX4_slipsFrom_146, wX4_slipsFrom_149, wX4_slipsFrom_150, wX4_slipsFrom_153, wX4_slipsFrom_154, wX4_slipsFrom_157, wX4_slipsFrom_158, wX4_slipsFrom_161, wX4_slipsFrom_161n, wX4_slipsFrom_162, wX4_slipsFrom_165, wX4_slipsFrom_166, wX4_slipsFrom_169, wX4_slipsFrom_171, psh_some, psh_none, rf_0_0, rf_0_1, rf_0_2, rf_0_3, rf_0_4, rf_0_5, rf_0_6, rf_0_7, rf_1_0, ln_2, rf_3_1, rf_3_2, rf_3_3, ln_4, ln_5, ln_6, rf_25_0, rf_25_1, ln_25, rf_26_0, rf_26_1, rf_26_2, rf_26_3, ln_27, ln_28, ln_29, rf_30_0, ln_31, rf_32_0, rf_32_1, rf_32_2, rf_32_3, ln_33, ln_34, ln_35, ln_36, rf_37_0, ln_38, rf_39_0, ln_40, ln_41, i0, iI_lt, iI_le, iI_eq, iI_in, iI_nat, iI_add, iI_sub, e1, Int.reduceToNat]
    rw [if_neg (by omega)]
    exact ⟨by omega, f⟩
theorem sf_init {X : Env0} {d r t : Nat} {μ : Mem} {P : Option Value → Mem → Prop} {w1 w2 w3 : Value} (hk : ∀ μ', (∀ x : Nat, x < 7 → μ' 41 x = iI x) → (∀ c, ¬ c = 41 → μ' c = μ c) → Wp X (d + 1) 86 26 [.ref 0, .ref r, .ref t, .int (iI 0), w1, w2, w3] [] μ' P) :
    ∀ (k i : Nat) (μ' : Mem), k + i = 7 → (∀ x : Nat, x < i → μ' 41 x = iI x) → (∀ c, ¬ c = 41 → μ' c = μ c) → Wp X (d + 1) 86 2 [.ref 0, .ref r, .ref t, .int (iI i), w1, w2, w3] [] μ' P := by
  intro k
  induction k with
  | zero =>
    intro i μ' hi h1 hf
    rw [wX4_slipsFrom_2]
    simp (disch := first | assumption | with_reducible exact kd_0 | with_reducible exact kd_1 | with_reducible exact kd_3 | with_reducible exact kd_25 | with_reducible exact kd_26 | with_reducible exact kd_32 | with_reducible exact kd_30 | with_reducible exact kd_37 | with_reducible exact kd_39 | with_reducible exact kd_41 | with_reducible exact kd_2 | with_reducible exact kd_4 | with_reducible exact kd_5 | with_reducible exact kd_6 | with_reducible exact kd_27 | with_reducible exact kd_28 | with_reducible exact kd_29 | with_reducible exact kd_31 | with_reducible exact kd_33 | with_reducible exact kd_34 | with_reducible exact kd_35 | with_reducible exact kd_36 | with_reducible exact kd_38 | with_reducible exact kd_40 | with_reducible exact kd_86 | with_reducible exact kd_87 | with_reducible exact kd_88 | with_reducible exact kd_89 | with_reducible exact kd_90 | with_reducible exact kd_91 | with_reducible exact kd_92 | with_reducible exact kd_93 | with_reducible exact kd_94 | with_reducible exact kd_95 | with_reducible exact kd_96 | with_reducible exact kd_97 | with_reducible exact kd_98 | with_reducible exact kd_99 | with_reducible exact kd_100 | with_reducible exact kd_101 | with_reducible exact kd_102 | with_reducible exact kq_4 | with_reducible exact kq_6 | with_reducible exact kq_25 | omega) only [wX4_slipsFrom_0, wX4_slipsFrom_1, wX4_slipsFrom_3, wX4_slipsFrom_4, wX4_slipsFrom_7, wX4_slipsFrom_8, wX4_slipsFrom_11, wX4_slipsFrom_12, wX4_slipsFrom_15, wX4_slipsFrom_16, wX4_slipsFrom_17, wX4_slipsFrom_18, wX4_slipsFrom_21, wX4_slipsFrom_24, wX4_slipsFrom_25, wX4_slipsFrom_27, wX4_slipsFrom_27n, wX4_slipsFrom_28, wX4_slipsFrom_31, wX4_slipsFrom_34, wX4_slipsFrom_35, wX4_slipsFrom_37, wX4_slipsFrom_38, wX4_slipsFrom_41, wX4_slipsFrom_42, wX4_slipsFrom_43, wX4_slipsFrom_44, wX4_slipsFrom_45, wX4_slipsFrom_46, wX4_slipsFrom_47, wX4_slipsFrom_49, wX4_slipsFrom_51, wX4_slipsFrom_51n, wX4_slipsFrom_52, wX4_slipsFrom_55, wX4_slipsFrom_58, wX4_slipsFrom_60, wX4_slipsFrom_61, wX4_slipsFrom_62, wX4_slipsFrom_63, wX4_slipsFrom_66, wX4_slipsFrom_67, wX4_slipsFrom_70, wX4_slipsFrom_72, wX4_slipsFrom_72n, wX4_slipsFrom_73, wX4_slipsFrom_74, wX4_slipsFrom_77, wX4_slipsFrom_77n, wX4_slipsFrom_78, wX4_slipsFrom_80, wX4_slipsFrom_83, wX4_slipsFrom_86, wX4_slipsFrom_87, wX4_slipsFrom_90, wX4_slipsFrom_91, wX4_slipsFrom_92, wX4_slipsFrom_94, wX4_slipsFrom_95, wX4_slipsFrom_98, wX4_slipsFrom_100, wX4_slipsFrom_101, wX4_slipsFrom_102, wX4_slipsFrom_103, wX4_slipsFrom_105, wX4_slipsFrom_106, wX4_slipsFrom_109, wX4_slipsFrom_111, wX4_slipsFrom_112, wX4_slipsFrom_113, wX4_slipsFrom_115, wX4_slipsFrom_117, wX4_slipsFrom_118, wX4_slipsFrom_121, wX4_slipsFrom_123, wX4_slipsFrom_124, wX4_slipsFrom_127, wX4_slipsFrom_128, wX4_slipsFrom_129, wX4_slipsFrom_132, wX4_slipsFrom_133, wX4_slipsFrom_136, wX4_slipsFrom_139, wX4_slipsFrom_142, wX4_slipsFrom_145, wX4_slipsFrom_145n, wX4_slipsFrom_146, wX4_slipsFrom_149, wX4_slipsFrom_150, wX4_slipsFrom_153, wX4_slipsFrom_154, wX4_slipsFrom_157, wX4_slipsFrom_158, wX4_slipsFrom_161, wX4_slipsFrom_161n, wX4_slipsFrom_162, wX4_slipsFrom_165, wX4_slipsFrom_166, wX4_slipsFrom_169, wX4_slipsFrom_171, psh_some, psh_none, rf_0_0, rf_0_1, rf_0_2, rf_0_3, rf_0_4, rf_0_5, rf_0_6, rf_0_7, rf_1_0, ln_2, rf_3_1, rf_3_2, rf_3_3, ln_4, ln_5, ln_6, rf_25_0, rf_25_1, ln_25, rf_26_0, rf_26_1, rf_26_2, rf_26_3, ln_27, ln_28, ln_29, rf_30_0, ln_31, rf_32_0, rf_32_1, rf_32_2, rf_32_3, ln_33, ln_34, ln_35, ln_36, rf_37_0, ln_38, rf_39_0, ln_40, ln_41, i0, iI_lt, iI_le, iI_eq, iI_in, iI_nat, iI_add, iI_sub]
    rw [if_pos (by omega)]
    exact hk μ' (fun x hx => h1 x (by omega)) hf
  | succ k ih =>
    intro i μ' hi h1 hf
    have f := ih (i + 1) (u2 μ' 41 i (iI i)) (by omega) (fun x hx => by
      by_cases hx2 : x = i
      · rw [hx2, u2_s]
      · rw [u2_n hx2]
        exact h1 x (by omega)) (fun c hc => by rw [u2_cell hc]; exact hf c hc)
    rw [Int.natCast_add, Int.natCast_one] at f
    rw [wX4_slipsFrom_2]
    simp (disch := first | assumption | with_reducible exact kd_0 | with_reducible exact kd_1 | with_reducible exact kd_3 | with_reducible exact kd_25 | with_reducible exact kd_26 | with_reducible exact kd_32 | with_reducible exact kd_30 | with_reducible exact kd_37 | with_reducible exact kd_39 | with_reducible exact kd_41 | with_reducible exact kd_2 | with_reducible exact kd_4 | with_reducible exact kd_5 | with_reducible exact kd_6 | with_reducible exact kd_27 | with_reducible exact kd_28 | with_reducible exact kd_29 | with_reducible exact kd_31 | with_reducible exact kd_33 | with_reducible exact kd_34 | with_reducible exact kd_35 | with_reducible exact kd_36 | with_reducible exact kd_38 | with_reducible exact kd_40 | with_reducible exact kd_86 | with_reducible exact kd_87 | with_reducible exact kd_88 | with_reducible exact kd_89 | with_reducible exact kd_90 | with_reducible exact kd_91 | with_reducible exact kd_92 | with_reducible exact kd_93 | with_reducible exact kd_94 | with_reducible exact kd_95 | with_reducible exact kd_96 | with_reducible exact kd_97 | with_reducible exact kd_98 | with_reducible exact kd_99 | with_reducible exact kd_100 | with_reducible exact kd_101 | with_reducible exact kd_102 | with_reducible exact kq_4 | with_reducible exact kq_6 | with_reducible exact kq_25 | omega) only [wX4_slipsFrom_0, wX4_slipsFrom_1, wX4_slipsFrom_3, wX4_slipsFrom_4, wX4_slipsFrom_7, wX4_slipsFrom_8, wX4_slipsFrom_11, wX4_slipsFrom_12, wX4_slipsFrom_15, wX4_slipsFrom_16, wX4_slipsFrom_17, wX4_slipsFrom_18, wX4_slipsFrom_21, wX4_slipsFrom_24, wX4_slipsFrom_25, wX4_slipsFrom_27, wX4_slipsFrom_27n, wX4_slipsFrom_28, wX4_slipsFrom_31, wX4_slipsFrom_34, wX4_slipsFrom_35, wX4_slipsFrom_37, wX4_slipsFrom_38, wX4_slipsFrom_41, wX4_slipsFrom_42, wX4_slipsFrom_43, wX4_slipsFrom_44, wX4_slipsFrom_45, wX4_slipsFrom_46, wX4_slipsFrom_47, wX4_slipsFrom_49, wX4_slipsFrom_51, wX4_slipsFrom_51n, wX4_slipsFrom_52, wX4_slipsFrom_55, wX4_slipsFrom_58, wX4_slipsFrom_60, wX4_slipsFrom_61, wX4_slipsFrom_62, wX4_slipsFrom_63, wX4_slipsFrom_66, wX4_slipsFrom_67, wX4_slipsFrom_70, wX4_slipsFrom_72, wX4_slipsFrom_72n, wX4_slipsFrom_73, wX4_slipsFrom_74, wX4_slipsFrom_77, wX4_slipsFrom_77n, wX4_slipsFrom_78, wX4_slipsFrom_80, wX4_slipsFrom_83, wX4_slipsFrom_86, wX4_slipsFrom_87, wX4_slipsFrom_90, wX4_slipsFrom_91, wX4_slipsFrom_92, wX4_slipsFrom_94, wX4_slipsFrom_95, wX4_slipsFrom_98, wX4_slipsFrom_100, wX4_slipsFrom_101, wX4_slipsFrom_102, wX4_slipsFrom_103, wX4_slipsFrom_105, wX4_slipsFrom_106, wX4_slipsFrom_109, wX4_slipsFrom_111, wX4_slipsFrom_112, wX4_slipsFrom_113, wX4_slipsFrom_115, wX4_slipsFrom_117, wX4_slipsFrom_118, wX4_slipsFrom_121, wX4_slipsFrom_123, wX4_slipsFrom_124, wX4_slipsFrom_127, wX4_slipsFrom_128, wX4_slipsFrom_129, wX4_slipsFrom_132, wX4_slipsFrom_133, wX4_slipsFrom_136, wX4_slipsFrom_139, wX4_slipsFrom_142, wX4_slipsFrom_145, wX4_slipsFrom_145n, wX4_slipsFrom_146, wX4_slipsFrom_149, wX4_slipsFrom_150, wX4_slipsFrom_153, wX4_slipsFrom_154, wX4_slipsFrom_157, wX4_slipsFrom_158, wX4_slipsFrom_161, wX4_slipsFrom_161n, wX4_slipsFrom_162, wX4_slipsFrom_165, wX4_slipsFrom_166, wX4_slipsFrom_169, wX4_slipsFrom_171, psh_some, psh_none, rf_0_0, rf_0_1, rf_0_2, rf_0_3, rf_0_4, rf_0_5, rf_0_6, rf_0_7, rf_1_0, ln_2, rf_3_1, rf_3_2, rf_3_3, ln_4, ln_5, ln_6, rf_25_0, rf_25_1, ln_25, rf_26_0, rf_26_1, rf_26_2, rf_26_3, ln_27, ln_28, ln_29, rf_30_0, ln_31, rf_32_0, rf_32_1, rf_32_2, rf_32_3, ln_33, ln_34, ln_35, ln_36, rf_37_0, ln_38, rf_39_0, ln_40, ln_41, i0, iI_lt, iI_le, iI_eq, iI_in, iI_nat, iI_add, iI_sub, Int.toNat_natCast]
    rw [if_neg (by omega)]
    exact ⟨by omega, f⟩
theorem slipsFrom_spec {X : Env0} {d r t : Nat} {μ : Mem} {L : Int} {a b : List Int} (hr : isRw r) (ht : isRw t) (ha : Rw μ r a) (hb : Rw μ t b) (hra : ¬ r = 41 ∧ ¬ r + 1 = 41 ∧ ¬ t = 41 ∧ ¬ t + 1 = 41) (oa : rowOK L a) (ob : rowOK L b) (hL : 1 ≤ L ∧ L ≤ 3) :
    Wp X (d + 1) 86 0 [.ref 0, .ref r, .ref t, .retAddr 0, .retAddr 0, .retAddr 0, .retAddr 0] [] μ (fun v μ' => v = some (.int (iI (lev a b))) ∧ ∀ c, ¬ c = 41 → μ' c = μ c) := by
  have ob1 := ob.1
  have f := sf_init (X := X) (d := d) (μ := μ) (r := r) (t := t) (w1 := .retAddr 0) (w2 := .retAddr 0) (w3 := .retAddr 0) (P := fun v μ' => v = some (.int (iI (lev a b))) ∧ ∀ c, ¬ c = 41 → μ' c = μ c) (fun μ' h1 h2 =>
    sf_outer hr ht ha hb hra oa ob hL (fun μ'' h3 => ⟨rfl, h3⟩) a.length 0 μ' _ _ _ (by omega) (fun x hx => by rw [h1 x (by omega), dl_00]) h2) 7 0 μ (by omega) (fun x hx => absurd hx (Nat.not_lt_zero x)) (fun _ _ => rfl)
  rw [Int.natCast_zero] at f
  simp (disch := first | assumption | with_reducible exact kd_0 | with_reducible exact kd_1 | with_reducible exact kd_3 | with_reducible exact kd_25 | with_reducible exact kd_26 | with_reducible exact kd_32 | with_reducible exact kd_30 | with_reducible exact kd_37 | with_reducible exact kd_39 | with_reducible exact kd_41 | with_reducible exact kd_2 | with_reducible exact kd_4 | with_reducible exact kd_5 | with_reducible exact kd_6 | with_reducible exact kd_27 | with_reducible exact kd_28 | with_reducible exact kd_29 | with_reducible exact kd_31 | with_reducible exact kd_33 | with_reducible exact kd_34 | with_reducible exact kd_35 | with_reducible exact kd_36 | with_reducible exact kd_38 | with_reducible exact kd_40 | with_reducible exact kd_86 | with_reducible exact kd_87 | with_reducible exact kd_88 | with_reducible exact kd_89 | with_reducible exact kd_90 | with_reducible exact kd_91 | with_reducible exact kd_92 | with_reducible exact kd_93 | with_reducible exact kd_94 | with_reducible exact kd_95 | with_reducible exact kd_96 | with_reducible exact kd_97 | with_reducible exact kd_98 | with_reducible exact kd_99 | with_reducible exact kd_100 | with_reducible exact kd_101 | with_reducible exact kd_102 | with_reducible exact kq_4 | with_reducible exact kq_6 | with_reducible exact kq_25 | omega) only [wX4_slipsFrom_0, wX4_slipsFrom_1, wX4_slipsFrom_3, wX4_slipsFrom_4, wX4_slipsFrom_7, wX4_slipsFrom_8, wX4_slipsFrom_11, wX4_slipsFrom_12, wX4_slipsFrom_15, wX4_slipsFrom_16, wX4_slipsFrom_17, wX4_slipsFrom_18, wX4_slipsFrom_21, wX4_slipsFrom_24, wX4_slipsFrom_25, wX4_slipsFrom_26, wX4_slipsFrom_27, wX4_slipsFrom_27n, wX4_slipsFrom_28, wX4_slipsFrom_31, wX4_slipsFrom_34, wX4_slipsFrom_35, wX4_slipsFrom_37, wX4_slipsFrom_38, wX4_slipsFrom_41, wX4_slipsFrom_42, wX4_slipsFrom_43, wX4_slipsFrom_44, wX4_slipsFrom_45, wX4_slipsFrom_46, wX4_slipsFrom_47, wX4_slipsFrom_49, wX4_slipsFrom_51, wX4_slipsFrom_51n, wX4_slipsFrom_52, wX4_slipsFrom_55, wX4_slipsFrom_58, wX4_slipsFrom_60, wX4_slipsFrom_61, wX4_slipsFrom_62, wX4_slipsFrom_63, wX4_slipsFrom_66, wX4_slipsFrom_67, wX4_slipsFrom_70, wX4_slipsFrom_72, wX4_slipsFrom_72n, wX4_slipsFrom_73, wX4_slipsFrom_74, wX4_slipsFrom_77, wX4_slipsFrom_77n, wX4_slipsFrom_78, wX4_slipsFrom_80, wX4_slipsFrom_83, wX4_slipsFrom_86, wX4_slipsFrom_87, wX4_slipsFrom_90, wX4_slipsFrom_91, wX4_slipsFrom_92, wX4_slipsFrom_94, wX4_slipsFrom_95, wX4_slipsFrom_98, wX4_slipsFrom_100, wX4_slipsFrom_101, wX4_slipsFrom_102, wX4_slipsFrom_103, wX4_slipsFrom_105, wX4_slipsFrom_106, wX4_slipsFrom_109, wX4_slipsFrom_111, wX4_slipsFrom_112, wX4_slipsFrom_113, wX4_slipsFrom_115, wX4_slipsFrom_117, wX4_slipsFrom_118, wX4_slipsFrom_121, wX4_slipsFrom_123, wX4_slipsFrom_124, wX4_slipsFrom_127, wX4_slipsFrom_128, wX4_slipsFrom_129, wX4_slipsFrom_132, wX4_slipsFrom_133, wX4_slipsFrom_136, wX4_slipsFrom_139, wX4_slipsFrom_142, wX4_slipsFrom_145, wX4_slipsFrom_145n, wX4_slipsFrom_146, wX4_slipsFrom_149, wX4_slipsFrom_150, wX4_slipsFrom_153, wX4_slipsFrom_154, wX4_slipsFrom_157, wX4_slipsFrom_158, wX4_slipsFrom_161, wX4_slipsFrom_161n, wX4_slipsFrom_162, wX4_slipsFrom_165, wX4_slipsFrom_166, wX4_slipsFrom_169, wX4_slipsFrom_171, psh_some, psh_none]
  exact f
