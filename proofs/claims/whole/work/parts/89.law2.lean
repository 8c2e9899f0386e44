/-! the law: its loop -/
theorem and31 (x : Int32) : ∃ v : Nat, v < 32 ∧ x &&& iI 31 = iI v := by
  refine ⟨x.toBitVec.toNat % 32, Nat.mod_lt _ (by decide), ?_⟩
  apply Int32.toBitVec_inj.1
  rw [Int32.toBitVec_and]
  apply BitVec.eq_of_toNat_eq
  rw [BitVec.toNat_and]
  have e1 : (iI 31).toBitVec.toNat = 2 ^ 5 - 1 := by decide
  rw [e1, Nat.and_two_pow_sub_one_eq_mod]
  have e2 : (iI ((x.toBitVec.toNat % 32 : Nat) : Int)).toBitVec.toNat = x.toBitVec.toNat % 32 := by
    have : ∀ n, n < 32 → (iI ((n : Nat) : Int)).toBitVec.toNat = n := by decide
    exact this _ (Nat.mod_lt _ (by decide))
  rw [e2]
section LB
variable {X : Env0} {d : Nat} {P : Option Value → Mem → Prop}
theorem law_loop (h320 : X.1 ≤ 320) (hP : ∀ μ, P (some (.int (iI 1))) μ) : ∀ (k i : Nat) (μ : Mem) (σ : Sg), X.1 < i + 5 * k + 5 → i ≤ X.1 → CS μ σ → SlP μ → MS μ σ → Wp X (d + 10) 150 18 [.ref SC, .ref 0, .ref 86, .int (iI i)] [] μ P := by
  intro k
  induction k with
  | zero =>
    intro i μ σ hk hi hc hs hm
    rw [wL_law_18]
    simp (disch := first | assumption | with_reducible exact kd_0 | with_reducible exact kd_1 | with_reducible exact kd_3 | with_reducible exact kd_25 | with_reducible exact kd_26 | with_reducible exact kd_32 | with_reducible exact kd_30 | with_reducible exact kd_37 | with_reducible exact kd_39 | with_reducible exact kd_41 | with_reducible exact kd_2 | with_reducible exact kd_4 | with_reducible exact kd_5 | with_reducible exact kd_6 | with_reducible exact kd_27 | with_reducible exact kd_28 | with_reducible exact kd_29 | with_reducible exact kd_31 | with_reducible exact kd_33 | with_reducible exact kd_34 | with_reducible exact kd_35 | with_reducible exact kd_36 | with_reducible exact kd_38 | with_reducible exact kd_40 | with_reducible exact kd_86 | with_reducible exact kd_87 | with_reducible exact kd_88 | with_reducible exact kd_89 | with_reducible exact kd_90 | with_reducible exact kd_91 | with_reducible exact kd_92 | with_reducible exact kd_93 | with_reducible exact kd_94 | with_reducible exact kd_95 | with_reducible exact kd_96 | with_reducible exact kd_97 | with_reducible exact kd_98 | with_reducible exact kd_99 | with_reducible exact kd_100 | with_reducible exact kd_101 | with_reducible exact kd_102 | with_reducible exact kq_4 | with_reducible exact kq_6 | with_reducible exact kq_25 | omega) only [wL_law_19, wL_law_19n, wL_law_20, wL_law_20s, wL_law_21, wL_law_22, wL_law_23, wL_law_856, wL_law_857_0, wL_law_857_1, psh_some, psh_none, i0, iI_lt, iI_le, iI_eq, iI_in, iI_nat, iI_add, iI_sub]
    rw [if_pos (by omega)]
    exact hP μ
  | succ k ih =>
    intro i μ σ hk hi hc hs hm
    by_cases c : X.1 < i + 5
    · rw [wL_law_18]
      simp (disch := first | assumption | with_reducible exact kd_0 | with_reducible exact kd_1 | with_reducible exact kd_3 | with_reducible exact kd_25 | with_reducible exact kd_26 | with_reducible exact kd_32 | with_reducible exact kd_30 | with_reducible exact kd_37 | with_reducible exact kd_39 | with_reducible exact kd_41 | with_reducible exact kd_2 | with_reducible exact kd_4 | with_reducible exact kd_5 | with_reducible exact kd_6 | with_reducible exact kd_27 | with_reducible exact kd_28 | with_reducible exact kd_29 | with_reducible exact kd_31 | with_reducible exact kd_33 | with_reducible exact kd_34 | with_reducible exact kd_35 | with_reducible exact kd_36 | with_reducible exact kd_38 | with_reducible exact kd_40 | with_reducible exact kd_86 | with_reducible exact kd_87 | with_reducible exact kd_88 | with_reducible exact kd_89 | with_reducible exact kd_90 | with_reducible exact kd_91 | with_reducible exact kd_92 | with_reducible exact kd_93 | with_reducible exact kd_94 | with_reducible exact kd_95 | with_reducible exact kd_96 | with_reducible exact kd_97 | with_reducible exact kd_98 | with_reducible exact kd_99 | with_reducible exact kd_100 | with_reducible exact kd_101 | with_reducible exact kd_102 | with_reducible exact kq_4 | with_reducible exact kq_6 | with_reducible exact kq_25 | omega) only [wL_law_19, wL_law_19n, wL_law_20, wL_law_20s, wL_law_21, wL_law_22, wL_law_23, wL_law_856, wL_law_857_0, wL_law_857_1, psh_some, psh_none, i0, iI_lt, iI_le, iI_eq, iI_in, iI_nat, iI_add, iI_sub]
      rw [if_pos (by omega)]
      exact hP μ
    · have nx : ∀ μ' σ', CS μ' σ' → SlP μ' → MS μ' σ' → Wp X (d + 10) 150 850 [.ref SC, .ref 0, .ref 86, .int (iI i)] [] μ' P := by
        intro μ' σ' c' s' m'
        have f := ih (i + 5) μ' σ' (by omega) (by omega) c' s' m'
        rw [Int.natCast_add] at f
        have e5 : ((5 : Nat) : Int) = 5 := rfl
        rw [e5] at f
        simp (disch := first | assumption | with_reducible exact kd_0 | with_reducible exact kd_1 | with_reducible exact kd_3 | with_reducible exact kd_25 | with_reducible exact kd_26 | with_reducible exact kd_32 | with_reducible exact kd_30 | with_reducible exact kd_37 | with_reducible exact kd_39 | with_reducible exact kd_41 | with_reducible exact kd_2 | with_reducible exact kd_4 | with_reducible exact kd_5 | with_reducible exact kd_6 | with_reducible exact kd_27 | with_reducible exact kd_28 | with_reducible exact kd_29 | with_reducible exact kd_31 | with_reducible exact kd_33 | with_reducible exact kd_34 | with_reducible exact kd_35 | with_reducible exact kd_36 | with_reducible exact kd_38 | with_reducible exact kd_40 | with_reducible exact kd_86 | with_reducible exact kd_87 | with_reducible exact kd_88 | with_reducible exact kd_89 | with_reducible exact kd_90 | with_reducible exact kd_91 | with_reducible exact kd_92 | with_reducible exact kd_93 | with_reducible exact kd_94 | with_reducible exact kd_95 | with_reducible exact kd_96 | with_reducible exact kd_97 | with_reducible exact kd_98 | with_reducible exact kd_99 | with_reducible exact kd_100 | with_reducible exact kd_101 | with_reducible exact kd_102 | with_reducible exact kq_4 | with_reducible exact kq_6 | with_reducible exact kq_25 | omega) only [wL_law_850, wL_law_853, psh_some, psh_none, i0, iI_lt, iI_le, iI_eq, iI_in, iI_nat, iI_add, iI_sub]
        exact f
      obtain ⟨v, hv, ev⟩ := and31 (X.2 i)
      rw [wL_law_18]
      simp (disch := first | assumption | with_reducible exact kd_0 | with_reducible exact kd_1 | with_reducible exact kd_3 | with_reducible exact kd_25 | with_reducible exact kd_26 | with_reducible exact kd_32 | with_reducible exact kd_30 | with_reducible exact kd_37 | with_reducible exact kd_39 | with_reducible exact kd_41 | with_reducible exact kd_2 | with_reducible exact kd_4 | with_reducible exact kd_5 | with_reducible exact kd_6 | with_reducible exact kd_27 | with_reducible exact kd_28 | with_reducible exact kd_29 | with_reducible exact kd_31 | with_reducible exact kd_33 | with_reducible exact kd_34 | with_reducible exact kd_35 | with_reducible exact kd_36 | with_reducible exact kd_38 | with_reducible exact kd_40 | with_reducible exact kd_86 | with_reducible exact kd_87 | with_reducible exact kd_88 | with_reducible exact kd_89 | with_reducible exact kd_90 | with_reducible exact kd_91 | with_reducible exact kd_92 | with_reducible exact kd_93 | with_reducible exact kd_94 | with_reducible exact kd_95 | with_reducible exact kd_96 | with_reducible exact kd_97 | with_reducible exact kd_98 | with_reducible exact kd_99 | with_reducible exact kd_100 | with_reducible exact kd_101 | with_reducible exact kd_102 | with_reducible exact kq_4 | with_reducible exact kq_6 | with_reducible exact kq_25 | omega) only [wL_law_19, wL_law_19n, wL_law_20, wL_law_20s, wL_law_21, wL_law_22, wL_law_23, wL_law_26, wL_law_26n, wL_law_27, wL_law_28, wL_law_28s, wL_law_29, wL_law_31, psh_some, psh_none, i0, iI_lt, iI_le, iI_eq, iI_in, iI_nat, iI_add, iI_sub, Int.toNat_natCast, ev, and_t, if_true, if_false, Int.reduceEq, Int.reduceLT, Int.reduceLE, not_true_eq_false, not_false_eq_true]
      rw [if_neg (by omega)]
      by_cases c26 : 26 ≤ v
      · have hx : (iI (v : Int)).toInt < 0 ∨ 25 < (iI (v : Int)).toInt := by
          rw [iI_toInt (by omega) (by omega)]
          omega
        rw [wL_law_32_d hx]
        exact nx μ σ hc hs hm
      · have hcs : v = 0 ∨ v = 1 ∨ v = 2 ∨ v = 3 ∨ v = 4 ∨ v = 5 ∨ v = 6 ∨ v = 7 ∨ v = 8 ∨ v = 9 ∨ v = 10 ∨ v = 11 ∨ v = 12 ∨ v = 13 ∨ v = 14 ∨ v = 15 ∨ v = 16 ∨ v = 17 ∨ v = 18 ∨ v = 19 ∨ v = 20 ∨ v = 21 ∨ v = 22 ∨ v = 23 ∨ v = 24 ∨ v = 25 := by omega
        rcases hcs with rfl | rfl | rfl | rfl | rfl | rfl | rfl | rfl | rfl | rfl | rfl | rfl | rfl | rfl | rfl | rfl | rfl | rfl | rfl | rfl | rfl | rfl | rfl | rfl | rfl | rfl
        · have ej : (((0 : Nat) : Int)) = 0 := rfl
          rw [ej, wL_law_32_0]
          exact op_0 hc hs hm (by omega) h320 nx
        · have ej : (((1 : Nat) : Int)) = 1 := rfl
          rw [ej, wL_law_32_1]
          exact op_1 hc hs hm (by omega) h320 nx
        · have ej : (((2 : Nat) : Int)) = 2 := rfl
          rw [ej, wL_law_32_2]
          exact op_2 hc hs hm (by omega) h320 nx
        · have ej : (((3 : Nat) : Int)) = 3 := rfl
          rw [ej, wL_law_32_3]
          exact op_3 hc hs hm (by omega) h320 nx
        · have ej : (((4 : Nat) : Int)) = 4 := rfl
          rw [ej, wL_law_32_4]
          exact op_4 hc hs hm (by omega) h320 nx
        · have ej : (((5 : Nat) : Int)) = 5 := rfl
          rw [ej, wL_law_32_5]
          exact op_5 hc hs hm (by omega) h320 nx
        · have ej : (((6 : Nat) : Int)) = 6 := rfl
          rw [ej, wL_law_32_6]
          exact op_6 hc hs hm (by omega) h320 nx
        · have ej : (((7 : Nat) : Int)) = 7 := rfl
          rw [ej, wL_law_32_7]
          exact op_7 hc hs hm (by omega) h320 nx
        · have ej : (((8 : Nat) : Int)) = 8 := rfl
          rw [ej, wL_law_32_8]
          exact op_8 hc hs hm (by omega) h320 nx
        · have ej : (((9 : Nat) : Int)) = 9 := rfl
          rw [ej, wL_law_32_9]
          exact op_9 hc hs hm (by omega) h320 nx
        · have ej : (((10 : Nat) : Int)) = 10 := rfl
          rw [ej, wL_law_32_10]
          exact op_10 hc hs hm (by omega) h320 nx
        · have ej : (((11 : Nat) : Int)) = 11 := rfl
          rw [ej, wL_law_32_11]
          exact op_11 hc hs hm (by omega) h320 nx
        · have ej : (((12 : Nat) : Int)) = 12 := rfl
          rw [ej, wL_law_32_12]
          exact op_12 hc hs hm (by omega) h320 nx
        · have ej : (((13 : Nat) : Int)) = 13 := rfl
          rw [ej, wL_law_32_13]
          exact op_13 hc hs hm (by omega) h320 nx
        · have ej : (((14 : Nat) : Int)) = 14 := rfl
          rw [ej, wL_law_32_14]
          exact op_14 hc hs hm (by omega) h320 nx
        · have ej : (((15 : Nat) : Int)) = 15 := rfl
          rw [ej, wL_law_32_15]
          exact op_15 hc hs hm (by omega) h320 nx
        · have ej : (((16 : Nat) : Int)) = 16 := rfl
          rw [ej, wL_law_32_16]
          exact op_16 hc hs hm (by omega) h320 nx
        · have ej : (((17 : Nat) : Int)) = 17 := rfl
          rw [ej, wL_law_32_17]
          exact op_17 hc hs hm (by omega) h320 nx
        · have ej : (((18 : Nat) : Int)) = 18 := rfl
          rw [ej, wL_law_32_18]
          exact op_18 hc hs hm (by omega) h320 nx
        · have ej : (((19 : Nat) : Int)) = 19 := rfl
          rw [ej, wL_law_32_19]
          exact op_19 hc hs hm (by omega) h320 nx
        · have ej : (((20 : Nat) : Int)) = 20 := rfl
          rw [ej, wL_law_32_20]
          exact op_20 hc hs hm (by omega) h320 nx
        · have ej : (((21 : Nat) : Int)) = 21 := rfl
          rw [ej, wL_law_32_21]
          exact op_21 hc hs hm (by omega) h320 nx
        · have ej : (((22 : Nat) : Int)) = 22 := rfl
          rw [ej, wL_law_32_22]
          exact op_22 hc hs hm (by omega) h320 nx
        · have ej : (((23 : Nat) : Int)) = 23 := rfl
          rw [ej, wL_law_32_23]
          exact op_23 hc hs hm (by omega) h320 nx
        · have ej : (((24 : Nat) : Int)) = 24 := rfl
          rw [ej, wL_law_32_24]
          exact op_24 hc hs hm (by omega) h320 nx
        · have ej : (((25 : Nat) : Int)) = 25 := rfl
          rw [ej, wL_law_32_25]
          exact op_25 hc hs hm (by omega) h320 nx
end LB
