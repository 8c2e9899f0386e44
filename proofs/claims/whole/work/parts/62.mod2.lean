/-! the model: the plain calls -/
section MC
variable {X : Env0} {d : Nat} {μ : Mem} {P : Option Value → Mem → Prop} {L : Int} {σ : Sg}
theorem MI.all {μ μ' : Mem} {f : Nat → Option Co} (h : ∀ n, n < 2 → MI μ n (f n)) (h1 : μ' 101 = μ 101) (h2 : μ' 102 = μ 102) : ∀ n, n < 2 → MI μ' n (f n) :=
  fun n hn => (h n hn).fr h1 (by rw [h2])
theorem keepM.s {μ : Mem} {c s : Nat} {x : Int32} (h : 86 ≤ c) : keepM μ (u2 μ c s x) := fun k hk => u2_cell (by omega)
theorem M_cords {z : Int} (w : WF σ) (h : MS μ σ) (h1 : -2147483648 ≤ z) (h2 : z < 2147483648) : Wp X (d + 1) 102 0 [.ref 86, .int (iI z), .retAddr 0] [] μ (MPost μ (sCords σ z) (aCords σ z)) := by
  have e0 := h.1.1
  unfold sCords aCords
  simp (disch := first | assumption | with_reducible exact kd_0 | with_reducible exact kd_1 | with_reducible exact kd_3 | with_reducible exact kd_25 | with_reducible exact kd_26 | with_reducible exact kd_32 | with_reducible exact kd_30 | with_reducible exact kd_37 | with_reducible exact kd_39 | with_reducible exact kd_41 | with_reducible exact kd_2 | with_reducible exact kd_4 | with_reducible exact kd_5 | with_reducible exact kd_6 | with_reducible exact kd_27 | with_reducible exact kd_28 | with_reducible exact kd_29 | with_reducible exact kd_31 | with_reducible exact kd_33 | with_reducible exact kd_34 | with_reducible exact kd_35 | with_reducible exact kd_36 | with_reducible exact kd_38 | with_reducible exact kd_40 | with_reducible exact kd_86 | with_reducible exact kd_87 | with_reducible exact kd_88 | with_reducible exact kd_89 | with_reducible exact kd_90 | with_reducible exact kd_91 | with_reducible exact kd_92 | with_reducible exact kd_93 | with_reducible exact kd_94 | with_reducible exact kd_95 | with_reducible exact kd_96 | with_reducible exact kd_97 | with_reducible exact kd_98 | with_reducible exact kd_99 | with_reducible exact kd_100 | with_reducible exact kd_101 | with_reducible exact kd_102 | with_reducible exact kq_4 | with_reducible exact kq_6 | with_reducible exact kq_25 | omega) only [wX5_cords_0, wX5_cords_1, wX5_cords_2, wX5_cords_3, wX5_cords_6, wX5_cords_9, wX5_cords_11, wX5_cords_12, wX5_cords_13, wX5_cords_16, wX5_cords_17, wX5_cords_18, wX5_cords_19, wX5_cords_22, wX5_cords_23, wX5_cords_24, wX5_cords_27, wX5_cords_28, wX5_cords_29, wX5_cords_32, wX5_cords_33, psh_some, psh_none, rf_86_2, rf_86_3, rf_86_5, rf_86_6, rf_86_8, rf_86_9, rf_86_11, rf_86_12, rf_86_14, rf_86_16, rf_86_17, rf_86_18, rf_86_21, rf_86_22, rf_86_23, rf_86_24, ln_87, ln_88, ln_89, ln_90, ln_91, ln_92, ln_93, ln_94, ln_95, ln_96, ln_97, ln_98, ln_99, ln_100, ln_101, ln_102, m_in, i0, iI_lt, iI_le, iI_eq, iI_in, iI_nat, iI_add, iI_sub, bz, e0]
  by_cases c : 2 ≤ z ∧ z ≤ 4
  · rw [if_neg (fun y => y c), if_pos c, if_pos c]
    refine ⟨rfl, ⟨⟨?_, ?_, ?_, fun m l hm hl => (by cases hl), fun s hs => absurd hs (Nat.not_lt_zero s)⟩, ?_, ?_, ?_⟩, ?_⟩
    · rw [u2_n (by omega), u2_n (by omega), u2_s]
      show iI z = iI (z - 1 + 1)
      rw [show z - 1 + 1 = z by omega]
    · rw [u2_n (by omega), u2_s]
      rfl
    · rw [u2_s]
      rfl
    · rw [u2_n (by omega), u2_n (by omega), u2_n (by omega)]
      exact h.2.1
    · rw [u2_cell (by omega), u2_cell (by omega), u2_cell (by omega)]
      exact h.2.2.1
    · exact MI.all h.2.2.2 (by rw [u2_cell (by omega), u2_cell (by omega), u2_cell (by omega)]) (by rw [u2_cell (by omega), u2_cell (by omega), u2_cell (by omega)])
    · exact ((keepM.s (by omega)).tr (keepM.s (by omega))).tr (keepM.s (by omega))
  · rw [if_pos c, if_neg c, if_neg c]
    exact MPost.of h keepR.rf
theorem M_say {z : Int} (w : WF σ) (h : MS μ σ) (h1 : -2147483648 ≤ z) (h2 : z < 2147483648) : Wp X (d + 1) 103 0 [.ref 86, .int (iI z)] [] μ (MPost μ (sSay σ z) (aSay σ z)) := by
  have e0 := h.2.1
  have hl : σ.2.1.length ≤ 40 := w.2.1.1
  unfold sSay aSay
  simp (disch := first | assumption | with_reducible exact kd_0 | with_reducible exact kd_1 | with_reducible exact kd_3 | with_reducible exact kd_25 | with_reducible exact kd_26 | with_reducible exact kd_32 | with_reducible exact kd_30 | with_reducible exact kd_37 | with_reducible exact kd_39 | with_reducible exact kd_41 | with_reducible exact kd_2 | with_reducible exact kd_4 | with_reducible exact kd_5 | with_reducible exact kd_6 | with_reducible exact kd_27 | with_reducible exact kd_28 | with_reducible exact kd_29 | with_reducible exact kd_31 | with_reducible exact kd_33 | with_reducible exact kd_34 | with_reducible exact kd_35 | with_reducible exact kd_36 | with_reducible exact kd_38 | with_reducible exact kd_40 | with_reducible exact kd_86 | with_reducible exact kd_87 | with_reducible exact kd_88 | with_reducible exact kd_89 | with_reducible exact kd_90 | with_reducible exact kd_91 | with_reducible exact kd_92 | with_reducible exact kd_93 | with_reducible exact kd_94 | with_reducible exact kd_95 | with_reducible exact kd_96 | with_reducible exact kd_97 | with_reducible exact kd_98 | with_reducible exact kd_99 | with_reducible exact kd_100 | with_reducible exact kd_101 | with_reducible exact kd_102 | with_reducible exact kq_4 | with_reducible exact kq_6 | with_reducible exact kq_25 | omega) only [wX5_say_0, wX5_say_1, wX5_say_3, wX5_say_5, wX5_say_8, wX5_say_11, wX5_say_13, wX5_say_14, wX5_say_15, wX5_say_18, wX5_say_20, wX5_say_23, wX5_say_25, wX5_say_26, wX5_say_27, wX5_say_30, wX5_say_31, wX5_say_34, wX5_say_35, wX5_say_36, wX5_say_37, wX5_say_37i, wX5_say_38, wX5_say_41, wX5_say_42, wX5_say_43, wX5_say_46, wX5_say_47, wX5_say_50, psh_some, psh_none, rf_86_2, rf_86_3, rf_86_5, rf_86_6, rf_86_8, rf_86_9, rf_86_11, rf_86_12, rf_86_14, rf_86_16, rf_86_17, rf_86_18, rf_86_21, rf_86_22, rf_86_23, rf_86_24, ln_87, ln_88, ln_89, ln_90, ln_91, ln_92, ln_93, ln_94, ln_95, ln_96, ln_97, ln_98, ln_99, ln_100, ln_101, ln_102, m_in, i0, iI_lt, iI_le, iI_eq, iI_in, iI_nat, iI_add, iI_sub, bz, e0, Int.toNat_natCast, u2_s, u2_c]
  by_cases c : 33 ≤ z ∧ z ≤ 126
  · rw [if_neg (fun y => y c), if_pos c, if_pos c]
    by_cases c2 : σ.2.1.length = 40
    · rw [if_pos (by omega), if_pos c2, if_pos c2]
      exact MPost.of h keepR.rf
    · rw [if_neg (by omega), if_neg c2, if_neg c2]
      refine ⟨by omega, rfl, ⟨?_, ?_, fun k hk => ?_, ?_⟩, ?_⟩
      · simp (disch := omega) only [u2_n, u2_c, u2_cell]
        exact h.1
      · rw [u2_s]
        show _ = iI ((σ.2.1 ++ [z]).length : Nat)
        rw [List.length_append, List.length_singleton, Int.natCast_add]
        rfl
      · change k < (σ.2.1 ++ [z]).length at hk
        rw [List.length_append, List.length_singleton] at hk
        show _ = iI ((σ.2.1 ++ [z]).getD k 0)
        rw [u2_c (by omega), List.getD_eq_getElem?_getD]
        by_cases ck : k = σ.2.1.length
        · rw [ck, u2_s, List.getElem?_append_right (Nat.le_refl _), Nat.sub_self]
          rfl
        · rw [u2_n ck, List.getElem?_append_left (by omega), ← List.getD_eq_getElem?_getD]
          exact h.2.2.1 k (by omega)
      · exact MI.all h.2.2.2 (by rw [u2_cell (by omega), u2_cell (by omega)]) (by rw [u2_cell (by omega), u2_cell (by omega)])
      · exact (keepM.s (by omega)).tr (keepM.s (by omega))
  · rw [if_pos c, if_neg c, if_neg c]
    exact MPost.of h keepR.rf
theorem MS.wiped (h : MS μ σ) : MS (u2 μ 86 7 (iI 0)) (σ.1, [], σ.2.2) := by
  refine ⟨?_, ?_, fun k hk => absurd hk (Nat.not_lt_zero k), MI.all h.2.2.2 (by rw [u2_cell (by omega)]) (by rw [u2_cell (by omega)])⟩
  · rw [u2_n (by omega), u2_n (by omega), u2_n (by omega), u2_cell (by omega), u2_cell (by omega), u2_cell (by omega), u2_cell (by omega)]
    exact h.1
  · rw [u2_s]
    rfl
theorem M_wipe (h : MS μ σ) : Wp X d 104 0 [.ref 86, .retAddr 0] [] μ (MPost μ (σ.1, [], σ.2.2) σ.2.1.length) := by
  have e0 := h.2.1
  simp (disch := first | assumption | with_reducible exact kd_0 | with_reducible exact kd_1 | with_reducible exact kd_3 | with_reducible exact kd_25 | with_reducible exact kd_26 | with_reducible exact kd_32 | with_reducible exact kd_30 | with_reducible exact kd_37 | with_reducible exact kd_39 | with_reducible exact kd_41 | with_reducible exact kd_2 | with_reducible exact kd_4 | with_reducible exact kd_5 | with_reducible exact kd_6 | with_reducible exact kd_27 | with_reducible exact kd_28 | with_reducible exact kd_29 | with_reducible exact kd_31 | with_reducible exact kd_33 | with_reducible exact kd_34 | with_reducible exact kd_35 | with_reducible exact kd_36 | with_reducible exact kd_38 | with_reducible exact kd_40 | with_reducible exact kd_86 | with_reducible exact kd_87 | with_reducible exact kd_88 | with_reducible exact kd_89 | with_reducible exact kd_90 | with_reducible exact kd_91 | with_reducible exact kd_92 | with_reducible exact kd_93 | with_reducible exact kd_94 | with_reducible exact kd_95 | with_reducible exact kd_96 | with_reducible exact kd_97 | with_reducible exact kd_98 | with_reducible exact kd_99 | with_reducible exact kd_100 | with_reducible exact kd_101 | with_reducible exact kd_102 | with_reducible exact kq_4 | with_reducible exact kq_6 | with_reducible exact kq_25 | omega) only [wX5_wipe_0, wX5_wipe_1, wX5_wipe_4, wX5_wipe_5, wX5_wipe_6, wX5_wipe_7, wX5_wipe_10, wX5_wipe_11, psh_some, psh_none, rf_86_2, rf_86_3, rf_86_5, rf_86_6, rf_86_8, rf_86_9, rf_86_11, rf_86_12, rf_86_14, rf_86_16, rf_86_17, rf_86_18, rf_86_21, rf_86_22, rf_86_23, rf_86_24, ln_87, ln_88, ln_89, ln_90, ln_91, ln_92, ln_93, ln_94, ln_95, ln_96, ln_97, ln_98, ln_99, ln_100, ln_101, ln_102, e0]
  exact ⟨rfl, h.wiped, keepM.s (by omega)⟩
theorem M_burn (h : MS μ σ) : Wp X d 141 0 [.ref 86, .retAddr 0] [] μ (MPost μ ((σ.1.1, σ.1.2.1, []), σ.2.1, σ.2.2) σ.1.2.2.length) := by
  have e0 := h.1.2.2.1
  simp (disch := first | assumption | with_reducible exact kd_0 | with_reducible exact kd_1 | with_reducible exact kd_3 | with_reducible exact kd_25 | with_reducible exact kd_26 | with_reducible exact kd_32 | with_reducible exact kd_30 | with_reducible exact kd_37 | with_reducible exact kd_39 | with_reducible exact kd_41 | with_reducible exact kd_2 | with_reducible exact kd_4 | with_reducible exact kd_5 | with_reducible exact kd_6 | with_reducible exact kd_27 | with_reducible exact kd_28 | with_reducible exact kd_29 | with_reducible exact kd_31 | with_reducible exact kd_33 | with_reducible exact kd_34 | with_reducible exact kd_35 | with_reducible exact kd_36 | with_reducible exact kd_38 | with_reducible exact kd_40 | with_reducible exact kd_86 | with_reducible exact kd_87 | with_reducible exact kd_88 | with_reducible exact kd_89 | with_reducible exact kd_90 | with_reducible exact kd_91 | with_reducible exact kd_92 | with_reducible exact kd_93 | with_reducible exact kd_94 | with_reducible exact kd_95 | with_reducible exact kd_96 | with_reducible exact kd_97 | with_reducible exact kd_98 | with_reducible exact kd_99 | with_reducible exact kd_100 | with_reducible exact kd_101 | with_reducible exact kd_102 | with_reducible exact kq_4 | with_reducible exact kq_6 | with_reducible exact kq_25 | omega) only [wX5_burn_0, wX5_burn_1, wX5_burn_4, wX5_burn_5, wX5_burn_6, wX5_burn_7, wX5_burn_10, wX5_burn_11, psh_some, psh_none, rf_86_2, rf_86_3, rf_86_5, rf_86_6, rf_86_8, rf_86_9, rf_86_11, rf_86_12, rf_86_14, rf_86_16, rf_86_17, rf_86_18, rf_86_21, rf_86_22, rf_86_23, rf_86_24, ln_87, ln_88, ln_89, ln_90, ln_91, ln_92, ln_93, ln_94, ln_95, ln_96, ln_97, ln_98, ln_99, ln_100, ln_101, ln_102, e0]
  refine ⟨rfl, ⟨⟨?_, ?_, ?_, ?_, fun s hs => absurd hs (Nat.not_lt_zero s)⟩, ?_, ?_, ?_⟩, keepM.s (by omega)⟩
  · rw [u2_n (by omega)]
    exact h.1.1
  · rw [u2_n (by omega)]
    exact h.1.2.1
  · rw [u2_s]
    rfl
  · rw [u2_cell (by omega), u2_cell (by omega)]
    exact h.1.2.2.2.1
  · rw [u2_n (by omega)]
    exact h.2.1
  · rw [u2_cell (by omega)]
    exact h.2.2.1
  · exact MI.all h.2.2.2 (by rw [u2_cell (by omega)]) (by rw [u2_cell (by omega)])
theorem M_told {z : Int} (w : WF σ) (h : MS μ σ) (h1 : -2147483648 ≤ z) (h2 : z < 2147483648) : Wp X (d + 1) 149 0 [.ref 86, .int (iI z)] [] μ (MPost μ σ (aTold σ z)) := by
  have e1 := h.2.1
  have e2 := h.1.1
  have e3 := h.1.2.1
  have e5 := h.1.2.2.1
  have k : ∀ a, MPost μ σ a (some (.int (iI a))) μ := fun a => MPost.of h keepR.rf
  unfold aTold
  by_cases c0 : z = 0
  · subst c0
    simp (disch := first | assumption | with_reducible exact kd_0 | with_reducible exact kd_1 | with_reducible exact kd_3 | with_reducible exact kd_25 | with_reducible exact kd_26 | with_reducible exact kd_32 | with_reducible exact kd_30 | with_reducible exact kd_37 | with_reducible exact kd_39 | with_reducible exact kd_41 | with_reducible exact kd_2 | with_reducible exact kd_4 | with_reducible exact kd_5 | with_reducible exact kd_6 | with_reducible exact kd_27 | with_reducible exact kd_28 | with_reducible exact kd_29 | with_reducible exact kd_31 | with_reducible exact kd_33 | with_reducible exact kd_34 | with_reducible exact kd_35 | with_reducible exact kd_36 | with_reducible exact kd_38 | with_reducible exact kd_40 | with_reducible exact kd_86 | with_reducible exact kd_87 | with_reducible exact kd_88 | with_reducible exact kd_89 | with_reducible exact kd_90 | with_reducible exact kd_91 | with_reducible exact kd_92 | with_reducible exact kd_93 | with_reducible exact kd_94 | with_reducible exact kd_95 | with_reducible exact kd_96 | with_reducible exact kd_97 | with_reducible exact kd_98 | with_reducible exact kd_99 | with_reducible exact kd_100 | with_reducible exact kd_101 | with_reducible exact kd_102 | with_reducible exact kq_4 | with_reducible exact kq_6 | with_reducible exact kq_25 | omega) only [wX5_told_0, wX5_told_1_0, wX5_told_1_1, wX5_told_1_2, wX5_told_1_3, wX5_told_1_d, wX5_told_32, wX5_told_33, wX5_told_36, wX5_told_37, wX5_told_38, wX5_told_41, wX5_told_42, wX5_told_43, wX5_told_46, wX5_told_47, wX5_told_48, wX5_told_51, wX5_told_52, wX5_told_53, wX5_told_54, wX5_told_57, wX5_told_58, wX5_told_61, wX5_told_64, wX5_told_66, psh_some, psh_none, rf_86_2, rf_86_3, rf_86_5, rf_86_6, rf_86_8, rf_86_9, rf_86_11, rf_86_12, rf_86_14, rf_86_16, rf_86_17, rf_86_18, rf_86_21, rf_86_22, rf_86_23, rf_86_24, ln_87, ln_88, ln_89, ln_90, ln_91, ln_92, ln_93, ln_94, ln_95, ln_96, ln_97, ln_98, ln_99, ln_100, ln_101, ln_102, i0, iI_lt, iI_le, iI_eq, iI_in, iI_nat, iI_add, iI_sub, e1, Int.reduceLE, Int.reduceLT, Int.reduceAdd, Int.reduceSub, Int.reduceToNat, Int.reduceEq, reduceIte]
    exact k _
  · rw [if_neg c0]
    by_cases c1 : z = 1
    · subst c1
      simp (disch := first | assumption | with_reducible exact kd_0 | with_reducible exact kd_1 | with_reducible exact kd_3 | with_reducible exact kd_25 | with_reducible exact kd_26 | with_reducible exact kd_32 | with_reducible exact kd_30 | with_reducible exact kd_37 | with_reducible exact kd_39 | with_reducible exact kd_41 | with_reducible exact kd_2 | with_reducible exact kd_4 | with_reducible exact kd_5 | with_reducible exact kd_6 | with_reducible exact kd_27 | with_reducible exact kd_28 | with_reducible exact kd_29 | with_reducible exact kd_31 | with_reducible exact kd_33 | with_reducible exact kd_34 | with_reducible exact kd_35 | with_reducible exact kd_36 | with_reducible exact kd_38 | with_reducible exact kd_40 | with_reducible exact kd_86 | with_reducible exact kd_87 | with_reducible exact kd_88 | with_reducible exact kd_89 | with_reducible exact kd_90 | with_reducible exact kd_91 | with_reducible exact kd_92 | with_reducible exact kd_93 | with_reducible exact kd_94 | with_reducible exact kd_95 | with_reducible exact kd_96 | with_reducible exact kd_97 | with_reducible exact kd_98 | with_reducible exact kd_99 | with_reducible exact kd_100 | with_reducible exact kd_101 | with_reducible exact kd_102 | with_reducible exact kq_4 | with_reducible exact kq_6 | with_reducible exact kq_25 | omega) only [wX5_told_0, wX5_told_1_0, wX5_told_1_1, wX5_told_1_2, wX5_told_1_3, wX5_told_1_d, wX5_told_32, wX5_told_33, wX5_told_36, wX5_told_37, wX5_told_38, wX5_told_41, wX5_told_42, wX5_told_43, wX5_told_46, wX5_told_47, wX5_told_48, wX5_told_51, wX5_told_52, wX5_told_53, wX5_told_54, wX5_told_57, wX5_told_58, wX5_told_61, wX5_told_64, wX5_told_66, psh_some, psh_none, rf_86_2, rf_86_3, rf_86_5, rf_86_6, rf_86_8, rf_86_9, rf_86_11, rf_86_12, rf_86_14, rf_86_16, rf_86_17, rf_86_18, rf_86_21, rf_86_22, rf_86_23, rf_86_24, ln_87, ln_88, ln_89, ln_90, ln_91, ln_92, ln_93, ln_94, ln_95, ln_96, ln_97, ln_98, ln_99, ln_100, ln_101, ln_102, i0, iI_lt, iI_le, iI_eq, iI_in, iI_nat, iI_add, iI_sub, e2, Int.reduceLE, Int.reduceLT, Int.reduceAdd, Int.reduceSub, Int.reduceToNat, Int.reduceEq, reduceIte]
      exact k _
    · rw [if_neg c1]
      by_cases c2 : z = 2
      · subst c2
        simp (disch := first | assumption | with_reducible exact kd_0 | with_reducible exact kd_1 | with_reducible exact kd_3 | with_reducible exact kd_25 | with_reducible exact kd_26 | with_reducible exact kd_32 | with_reducible exact kd_30 | with_reducible exact kd_37 | with_reducible exact kd_39 | with_reducible exact kd_41 | with_reducible exact kd_2 | with_reducible exact kd_4 | with_reducible exact kd_5 | with_reducible exact kd_6 | with_reducible exact kd_27 | with_reducible exact kd_28 | with_reducible exact kd_29 | with_reducible exact kd_31 | with_reducible exact kd_33 | with_reducible exact kd_34 | with_reducible exact kd_35 | with_reducible exact kd_36 | with_reducible exact kd_38 | with_reducible exact kd_40 | with_reducible exact kd_86 | with_reducible exact kd_87 | with_reducible exact kd_88 | with_reducible exact kd_89 | with_reducible exact kd_90 | with_reducible exact kd_91 | with_reducible exact kd_92 | with_reducible exact kd_93 | with_reducible exact kd_94 | with_reducible exact kd_95 | with_reducible exact kd_96 | with_reducible exact kd_97 | with_reducible exact kd_98 | with_reducible exact kd_99 | with_reducible exact kd_100 | with_reducible exact kd_101 | with_reducible exact kd_102 | with_reducible exact kq_4 | with_reducible exact kq_6 | with_reducible exact kq_25 | omega) only [wX5_told_0, wX5_told_1_0, wX5_told_1_1, wX5_told_1_2, wX5_told_1_3, wX5_told_1_d, wX5_told_32, wX5_told_33, wX5_told_36, wX5_told_37, wX5_told_38, wX5_told_41, wX5_told_42, wX5_told_43, wX5_told_46, wX5_told_47, wX5_told_48, wX5_told_51, wX5_told_52, wX5_told_53, wX5_told_54, wX5_told_57, wX5_told_58, wX5_told_61, wX5_told_64, wX5_told_66, psh_some, psh_none, rf_86_2, rf_86_3, rf_86_5, rf_86_6, rf_86_8, rf_86_9, rf_86_11, rf_86_12, rf_86_14, rf_86_16, rf_86_17, rf_86_18, rf_86_21, rf_86_22, rf_86_23, rf_86_24, ln_87, ln_88, ln_89, ln_90, ln_91, ln_92, ln_93, ln_94, ln_95, ln_96, ln_97, ln_98, ln_99, ln_100, ln_101, ln_102, i0, iI_lt, iI_le, iI_eq, iI_in, iI_nat, iI_add, iI_sub, e3, Int.reduceLE, Int.reduceLT, Int.reduceAdd, Int.reduceSub, Int.reduceToNat, Int.reduceEq, reduceIte]
        exact k _
      · rw [if_neg c2]
        by_cases c3 : z = 3
        · subst c3
          simp (disch := first | assumption | with_reducible exact kd_0 | with_reducible exact kd_1 | with_reducible exact kd_3 | with_reducible exact kd_25 | with_reducible exact kd_26 | with_reducible exact kd_32 | with_reducible exact kd_30 | with_reducible exact kd_37 | with_reducible exact kd_39 | with_reducible exact kd_41 | with_reducible exact kd_2 | with_reducible exact kd_4 | with_reducible exact kd_5 | with_reducible exact kd_6 | with_reducible exact kd_27 | with_reducible exact kd_28 | with_reducible exact kd_29 | with_reducible exact kd_31 | with_reducible exact kd_33 | with_reducible exact kd_34 | with_reducible exact kd_35 | with_reducible exact kd_36 | with_reducible exact kd_38 | with_reducible exact kd_40 | with_reducible exact kd_86 | with_reducible exact kd_87 | with_reducible exact kd_88 | with_reducible exact kd_89 | with_reducible exact kd_90 | with_reducible exact kd_91 | with_reducible exact kd_92 | with_reducible exact kd_93 | with_reducible exact kd_94 | with_reducible exact kd_95 | with_reducible exact kd_96 | with_reducible exact kd_97 | with_reducible exact kd_98 | with_reducible exact kd_99 | with_reducible exact kd_100 | with_reducible exact kd_101 | with_reducible exact kd_102 | with_reducible exact kq_4 | with_reducible exact kq_6 | with_reducible exact kq_25 | omega) only [wX5_told_0, wX5_told_1_0, wX5_told_1_1, wX5_told_1_2, wX5_told_1_3, wX5_told_1_d, wX5_told_32, wX5_told_33, wX5_told_36, wX5_told_37, wX5_told_38, wX5_told_41, wX5_told_42, wX5_told_43, wX5_told_46, wX5_told_47, wX5_told_48, wX5_told_51, wX5_told_52, wX5_told_53, wX5_told_54, wX5_told_57, wX5_told_58, wX5_told_61, wX5_told_64, wX5_told_66, psh_some, psh_none, rf_86_2, rf_86_3, rf_86_5, rf_86_6, rf_86_8, rf_86_9, rf_86_11, rf_86_12, rf_86_14, rf_86_16, rf_86_17, rf_86_18, rf_86_21, rf_86_22, rf_86_23, rf_86_24, ln_87, ln_88, ln_89, ln_90, ln_91, ln_92, ln_93, ln_94, ln_95, ln_96, ln_97, ln_98, ln_99, ln_100, ln_101, ln_102, i0, iI_lt, iI_le, iI_eq, iI_in, iI_nat, iI_add, iI_sub, e5, Int.reduceLE, Int.reduceLT, Int.reduceAdd, Int.reduceSub, Int.reduceToNat, Int.reduceEq, reduceIte]
          exact k _
        · rw [if_neg c3]
          have e4 : (iI z).toInt < 0 ∨ 3 < (iI z).toInt := by
            rw [iI_toInt h1 h2]
            omega
          by_cases c4 : z = 4
          · subst c4
            simp (disch := first | assumption | with_reducible exact kd_0 | with_reducible exact kd_1 | with_reducible exact kd_3 | with_reducible exact kd_25 | with_reducible exact kd_26 | with_reducible exact kd_32 | with_reducible exact kd_30 | with_reducible exact kd_37 | with_reducible exact kd_39 | with_reducible exact kd_41 | with_reducible exact kd_2 | with_reducible exact kd_4 | with_reducible exact kd_5 | with_reducible exact kd_6 | with_reducible exact kd_27 | with_reducible exact kd_28 | with_reducible exact kd_29 | with_reducible exact kd_31 | with_reducible exact kd_33 | with_reducible exact kd_34 | with_reducible exact kd_35 | with_reducible exact kd_36 | with_reducible exact kd_38 | with_reducible exact kd_40 | with_reducible exact kd_86 | with_reducible exact kd_87 | with_reducible exact kd_88 | with_reducible exact kd_89 | with_reducible exact kd_90 | with_reducible exact kd_91 | with_reducible exact kd_92 | with_reducible exact kd_93 | with_reducible exact kd_94 | with_reducible exact kd_95 | with_reducible exact kd_96 | with_reducible exact kd_97 | with_reducible exact kd_98 | with_reducible exact kd_99 | with_reducible exact kd_100 | with_reducible exact kd_101 | with_reducible exact kd_102 | with_reducible exact kq_4 | with_reducible exact kq_6 | with_reducible exact kq_25 | omega) only [wX5_told_0, wX5_told_1_0, wX5_told_1_1, wX5_told_1_2, wX5_told_1_3, wX5_told_1_d, wX5_told_32, wX5_told_33, wX5_told_36, wX5_told_37, wX5_told_38, wX5_told_41, wX5_told_42, wX5_told_43, wX5_told_46, wX5_told_47, wX5_told_48, wX5_told_51, wX5_told_52, wX5_told_53, wX5_told_54, wX5_told_57, wX5_told_58, wX5_told_61, wX5_told_64, wX5_told_66, psh_some, psh_none, rf_86_2, rf_86_3, rf_86_5, rf_86_6, rf_86_8, rf_86_9, rf_86_11, rf_86_12, rf_86_14, rf_86_16, rf_86_17, rf_86_18, rf_86_21, rf_86_22, rf_86_23, rf_86_24, ln_87, ln_88, ln_89, ln_90, ln_91, ln_92, ln_93, ln_94, ln_95, ln_96, ln_97, ln_98, ln_99, ln_100, ln_101, ln_102, i0, iI_lt, iI_le, iI_eq, iI_in, iI_nat, iI_add, iI_sub, m_kinds e2, e4, Int.reduceLE, Int.reduceLT, Int.reduceAdd, Int.reduceSub, Int.reduceToNat, Int.reduceEq, reduceIte]
            exact k _
          · rw [if_neg c4]
            simp (disch := first | assumption | with_reducible exact kd_0 | with_reducible exact kd_1 | with_reducible exact kd_3 | with_reducible exact kd_25 | with_reducible exact kd_26 | with_reducible exact kd_32 | with_reducible exact kd_30 | with_reducible exact kd_37 | with_reducible exact kd_39 | with_reducible exact kd_41 | with_reducible exact kd_2 | with_reducible exact kd_4 | with_reducible exact kd_5 | with_reducible exact kd_6 | with_reducible exact kd_27 | with_reducible exact kd_28 | with_reducible exact kd_29 | with_reducible exact kd_31 | with_reducible exact kd_33 | with_reducible exact kd_34 | with_reducible exact kd_35 | with_reducible exact kd_36 | with_reducible exact kd_38 | with_reducible exact kd_40 | with_reducible exact kd_86 | with_reducible exact kd_87 | with_reducible exact kd_88 | with_reducible exact kd_89 | with_reducible exact kd_90 | with_reducible exact kd_91 | with_reducible exact kd_92 | with_reducible exact kd_93 | with_reducible exact kd_94 | with_reducible exact kd_95 | with_reducible exact kd_96 | with_reducible exact kd_97 | with_reducible exact kd_98 | with_reducible exact kd_99 | with_reducible exact kd_100 | with_reducible exact kd_101 | with_reducible exact kd_102 | with_reducible exact kq_4 | with_reducible exact kq_6 | with_reducible exact kq_25 | omega) only [wX5_told_0, wX5_told_1_0, wX5_told_1_1, wX5_told_1_2, wX5_told_1_3, wX5_told_1_d, wX5_told_32, wX5_told_33, wX5_told_36, wX5_told_37, wX5_told_38, wX5_told_41, wX5_told_42, wX5_told_43, wX5_told_46, wX5_told_47, wX5_told_48, wX5_told_51, wX5_told_52, wX5_told_53, wX5_told_54, wX5_told_57, wX5_told_58, wX5_told_61, wX5_told_64, wX5_told_66, psh_some, psh_none, rf_86_2, rf_86_3, rf_86_5, rf_86_6, rf_86_8, rf_86_9, rf_86_11, rf_86_12, rf_86_14, rf_86_16, rf_86_17, rf_86_18, rf_86_21, rf_86_22, rf_86_23, rf_86_24, ln_87, ln_88, ln_89, ln_90, ln_91, ln_92, ln_93, ln_94, ln_95, ln_96, ln_97, ln_98, ln_99, ln_100, ln_101, ln_102, i0, iI_lt, iI_le, iI_eq, iI_in, iI_nat, iI_add, iI_sub, m_kinds e2, e4]
            rw [if_neg c4]
            exact k _
theorem M_drown {z : Int} (w : WF σ) (h : MS μ σ) (h1 : -2147483648 ≤ z) (h2 : z < 2147483648) : Wp X (d + 2) 110 0 [.ref 86, .int (iI z)] [] μ (MPost μ (sDrown σ z) (aDrown σ.1 z)) := by
  have e3 := h.1.2.1
  unfold aDrown sDrown
  cases hm : manOf σ.1 z with
  | none =>
    simp (disch := first | assumption | with_reducible exact kd_0 | with_reducible exact kd_1 | with_reducible exact kd_3 | with_reducible exact kd_25 | with_reducible exact kd_26 | with_reducible exact kd_32 | with_reducible exact kd_30 | with_reducible exact kd_37 | with_reducible exact kd_39 | with_reducible exact kd_41 | with_reducible exact kd_2 | with_reducible exact kd_4 | with_reducible exact kd_5 | with_reducible exact kd_6 | with_reducible exact kd_27 | with_reducible exact kd_28 | with_reducible exact kd_29 | with_reducible exact kd_31 | with_reducible exact kd_33 | with_reducible exact kd_34 | with_reducible exact kd_35 | with_reducible exact kd_36 | with_reducible exact kd_38 | with_reducible exact kd_40 | with_reducible exact kd_86 | with_reducible exact kd_87 | with_reducible exact kd_88 | with_reducible exact kd_89 | with_reducible exact kd_90 | with_reducible exact kd_91 | with_reducible exact kd_92 | with_reducible exact kd_93 | with_reducible exact kd_94 | with_reducible exact kd_95 | with_reducible exact kd_96 | with_reducible exact kd_97 | with_reducible exact kd_98 | with_reducible exact kd_99 | with_reducible exact kd_100 | with_reducible exact kd_101 | with_reducible exact kd_102 | with_reducible exact kq_4 | with_reducible exact kq_6 | with_reducible exact kq_25 | omega) only [wX5_drown_0, wX5_drown_1, wX5_drown_2, wX5_drown_5, wX5_drown_8, wX5_drown_9, wX5_drown_10, wX5_drown_11, wX5_drown_11i, wX5_drown_12, wX5_drown_15, wX5_drown_16, wX5_drown_17, wX5_drown_18, wX5_drown_19, wX5_drown_20, wX5_drown_21, wX5_drown_24, wX5_drown_25, psh_some, psh_none, rf_86_2, rf_86_3, rf_86_5, rf_86_6, rf_86_8, rf_86_9, rf_86_11, rf_86_12, rf_86_14, rf_86_16, rf_86_17, rf_86_18, rf_86_21, rf_86_22, rf_86_23, rf_86_24, ln_87, ln_88, ln_89, ln_90, ln_91, ln_92, ln_93, ln_94, ln_95, ln_96, ln_97, ln_98, ln_99, ln_100, ln_101, ln_102, i0, iI_lt, iI_le, iI_eq, iI_in, iI_nat, iI_add, iI_sub, m_isMan e3, hm, bz]
    rw [if_pos (by decide)]
    exact MPost.of h keepR.rf
  | some l =>
    have hz : 0 ≤ z ∧ z < 6 := by
      unfold manOf at hm
      by_cases c : 0 ≤ z ∧ z < 6
      · exact c
      · rw [if_neg c] at hm
        cases hm
    have e4 := clr_b (menB σ.1) (m := z.toNat) (by omega)
    rw [Int.toNat_of_nonneg hz.1] at e4
    simp (disch := first | assumption | with_reducible exact kd_0 | with_reducible exact kd_1 | with_reducible exact kd_3 | with_reducible exact kd_25 | with_reducible exact kd_26 | with_reducible exact kd_32 | with_reducible exact kd_30 | with_reducible exact kd_37 | with_reducible exact kd_39 | with_reducible exact kd_41 | with_reducible exact kd_2 | with_reducible exact kd_4 | with_reducible exact kd_5 | with_reducible exact kd_6 | with_reducible exact kd_27 | with_reducible exact kd_28 | with_reducible exact kd_29 | with_reducible exact kd_31 | with_reducible exact kd_33 | with_reducible exact kd_34 | with_reducible exact kd_35 | with_reducible exact kd_36 | with_reducible exact kd_38 | with_reducible exact kd_40 | with_reducible exact kd_86 | with_reducible exact kd_87 | with_reducible exact kd_88 | with_reducible exact kd_89 | with_reducible exact kd_90 | with_reducible exact kd_91 | with_reducible exact kd_92 | with_reducible exact kd_93 | with_reducible exact kd_94 | with_reducible exact kd_95 | with_reducible exact kd_96 | with_reducible exact kd_97 | with_reducible exact kd_98 | with_reducible exact kd_99 | with_reducible exact kd_100 | with_reducible exact kd_101 | with_reducible exact kd_102 | with_reducible exact kq_4 | with_reducible exact kq_6 | with_reducible exact kq_25 | omega) only [wX5_drown_0, wX5_drown_1, wX5_drown_2, wX5_drown_5, wX5_drown_8, wX5_drown_9, wX5_drown_10, wX5_drown_11, wX5_drown_11i, wX5_drown_12, wX5_drown_15, wX5_drown_16, wX5_drown_17, wX5_drown_18, wX5_drown_19, wX5_drown_20, wX5_drown_21, wX5_drown_24, wX5_drown_25, psh_some, psh_none, rf_86_2, rf_86_3, rf_86_5, rf_86_6, rf_86_8, rf_86_9, rf_86_11, rf_86_12, rf_86_14, rf_86_16, rf_86_17, rf_86_18, rf_86_21, rf_86_22, rf_86_23, rf_86_24, ln_87, ln_88, ln_89, ln_90, ln_91, ln_92, ln_93, ln_94, ln_95, ln_96, ln_97, ln_98, ln_99, ln_100, ln_101, ln_102, i0, iI_lt, iI_le, iI_eq, iI_in, iI_nat, iI_add, iI_sub, m_isMan e3, hm, bz, e3, e4]
    rw [if_neg (fun y => y rfl)]
    refine ⟨rfl, ⟨⟨?_, ?_, ?_, fun m l2 hm2 hl2 => ?_, ?_⟩, ?_, ?_, ?_⟩, keepM.s (by omega)⟩
    · rw [u2_n (by omega)]
      exact h.1.1
    · rw [u2_s]
      congr 2
      exact bN_ext 6 (fun k hk => by
        unfold menB sMen
        dsimp only
        by_cases ck : k = z.toNat
        · rw [if_pos ck, if_pos ck]
          rfl
        · rw [if_neg ck, if_neg ck])
    · rw [u2_n (by omega)]
      exact h.1.2.2.1
    · rw [u2_cell (by omega), u2_cell (by omega)]
      unfold sMen at hl2
      dsimp only at hl2
      by_cases ck : m = z.toNat
      · rw [if_pos ck] at hl2
        cases hl2
      · rw [if_neg ck] at hl2
        exact h.1.2.2.2.1 m l2 hm2 hl2
    · rw [u2_cell (by omega), u2_cell (by omega)]
      exact h.1.2.2.2.2
    · rw [u2_n (by omega)]
      exact h.2.1
    · rw [u2_cell (by omega)]
      exact h.2.2.1
    · exact MI.all h.2.2.2 (by rw [u2_cell (by omega)]) (by rw [u2_cell (by omega)])
theorem man_in {q : Co} {z : Int} {l : List Int} (hm : manOf q z = some l) : (0 ≤ z ∧ z < 6) ∧ q.2.1 z.toNat = some l := by
  unfold manOf at hm
  by_cases c : 0 ≤ z ∧ z < 6
  · rw [if_pos c] at hm
    exact ⟨c, hm⟩
  · rw [if_neg c] at hm
    cases hm
theorem M_row {z i : Int} (w : WF σ) (h : MS μ σ) (h1 : -2147483648 ≤ z) (h2 : z < 2147483648) (h3 : -2147483648 ≤ i) (h4 : i < 2147483648) : Wp X (d + 2) 111 0 [.ref 86, .int (iI z), .int (iI i)] [] μ (MPost μ σ (aRow σ.1 z i)) := by
  have e3 := h.1.2.1
  have e0 := h.1.1
  unfold aRow
  cases hm : manOf σ.1 z with
  | none =>
    simp (disch := first | assumption | with_reducible exact kd_0 | with_reducible exact kd_1 | with_reducible exact kd_3 | with_reducible exact kd_25 | with_reducible exact kd_26 | with_reducible exact kd_32 | with_reducible exact kd_30 | with_reducible exact kd_37 | with_reducible exact kd_39 | with_reducible exact kd_41 | with_reducible exact kd_2 | with_reducible exact kd_4 | with_reducible exact kd_5 | with_reducible exact kd_6 | with_reducible exact kd_27 | with_reducible exact kd_28 | with_reducible exact kd_29 | with_reducible exact kd_31 | with_reducible exact kd_33 | with_reducible exact kd_34 | with_reducible exact kd_35 | with_reducible exact kd_36 | with_reducible exact kd_38 | with_reducible exact kd_40 | with_reducible exact kd_86 | with_reducible exact kd_87 | with_reducible exact kd_88 | with_reducible exact kd_89 | with_reducible exact kd_90 | with_reducible exact kd_91 | with_reducible exact kd_92 | with_reducible exact kd_93 | with_reducible exact kd_94 | with_reducible exact kd_95 | with_reducible exact kd_96 | with_reducible exact kd_97 | with_reducible exact kd_98 | with_reducible exact kd_99 | with_reducible exact kd_100 | with_reducible exact kd_101 | with_reducible exact kd_102 | with_reducible exact kq_4 | with_reducible exact kq_6 | with_reducible exact kq_25 | omega) only [wX5_row_0, wX5_row_1, wX5_row_2, wX5_row_5, wX5_row_8, wX5_row_9, wX5_row_10, wX5_row_11, wX5_row_12, wX5_row_15, wX5_row_16, wX5_row_19, wX5_row_20, wX5_row_21, wX5_row_24, wX5_row_25, wX5_row_26, wX5_row_27, wX5_row_30, wX5_row_31, wX5_row_32, wX5_row_33, wX5_row_34, wX5_row_37, wX5_row_40, wX5_row_41, wX5_row_42, wX5_row_45, wX5_row_47, wX5_row_48, wX5_row_49, wX5_row_50, wX5_row_51, wX5_row_52, wX5_row_55, wX5_row_58, wX5_row_60, psh_some, psh_none, rf_86_2, rf_86_3, rf_86_5, rf_86_6, rf_86_8, rf_86_9, rf_86_11, rf_86_12, rf_86_14, rf_86_16, rf_86_17, rf_86_18, rf_86_21, rf_86_22, rf_86_23, rf_86_24, ln_87, ln_88, ln_89, ln_90, ln_91, ln_92, ln_93, ln_94, ln_95, ln_96, ln_97, ln_98, ln_99, ln_100, ln_101, ln_102, i0, iI_lt, iI_le, iI_eq, iI_in, iI_nat, iI_add, iI_sub, m_isMan e3, hm, bz]
    rw [if_pos (by decide)]
    exact MPost.of h keepR.rf
  | some l =>
    obtain ⟨hz, hq⟩ := man_in hm
    obtain ⟨k1, k2⟩ := h.1.2.2.2.1 z.toNat l (by omega) hq
    have ol := w.1.2.1 z.toNat l (by omega) hq
    have h6 := ol.1
    have hL := w.1.1
    by_cases ci : 0 ≤ i ∧ i < l.length
    · have e5 := k2 i.toNat (by omega)
      have e6 : (6 * z + i).toNat = 6 * z.toNat + i.toNat := by omega
      have e7 := rowOK_at ol (show i.toNat < l.length by omega)
      have e8 : atL l i = l.getD i.toNat 0 := if_pos ci
      simp (disch := first | assumption | with_reducible exact kd_0 | with_reducible exact kd_1 | with_reducible exact kd_3 | with_reducible exact kd_25 | with_reducible exact kd_26 | with_reducible exact kd_32 | with_reducible exact kd_30 | with_reducible exact kd_37 | with_reducible exact kd_39 | with_reducible exact kd_41 | with_reducible exact kd_2 | with_reducible exact kd_4 | with_reducible exact kd_5 | with_reducible exact kd_6 | with_reducible exact kd_27 | with_reducible exact kd_28 | with_reducible exact kd_29 | with_reducible exact kd_31 | with_reducible exact kd_33 | with_reducible exact kd_34 | with_reducible exact kd_35 | with_reducible exact kd_36 | with_reducible exact kd_38 | with_reducible exact kd_40 | with_reducible exact kd_86 | with_reducible exact kd_87 | with_reducible exact kd_88 | with_reducible exact kd_89 | with_reducible exact kd_90 | with_reducible exact kd_91 | with_reducible exact kd_92 | with_reducible exact kd_93 | with_reducible exact kd_94 | with_reducible exact kd_95 | with_reducible exact kd_96 | with_reducible exact kd_97 | with_reducible exact kd_98 | with_reducible exact kd_99 | with_reducible exact kd_100 | with_reducible exact kd_101 | with_reducible exact kd_102 | with_reducible exact kq_4 | with_reducible exact kq_6 | with_reducible exact kq_25 | omega) only [wX5_row_0, wX5_row_1, wX5_row_2, wX5_row_5, wX5_row_8, wX5_row_9, wX5_row_10, wX5_row_11, wX5_row_12, wX5_row_15, wX5_row_16, wX5_row_19, wX5_row_20, wX5_row_21, wX5_row_24, wX5_row_25, wX5_row_26, wX5_row_27, wX5_row_30, wX5_row_31, wX5_row_32, wX5_row_33, wX5_row_34, wX5_row_37, wX5_row_40, wX5_row_41, wX5_row_42, wX5_row_45, wX5_row_47, wX5_row_48, wX5_row_49, wX5_row_50, wX5_row_51, wX5_row_52, wX5_row_55, wX5_row_58, wX5_row_60, psh_some, psh_none, rf_86_2, rf_86_3, rf_86_5, rf_86_6, rf_86_8, rf_86_9, rf_86_11, rf_86_12, rf_86_14, rf_86_16, rf_86_17, rf_86_18, rf_86_21, rf_86_22, rf_86_23, rf_86_24, ln_87, ln_88, ln_89, ln_90, ln_91, ln_92, ln_93, ln_94, ln_95, ln_96, ln_97, ln_98, ln_99, ln_100, ln_101, ln_102, i0, iI_lt, iI_le, iI_eq, iI_in, iI_nat, iI_add, iI_sub, iI_mul, m_isMan e3, hm, bz, k1, m_in, e6, e5, m_codeOf e0 hL e7]
      rw [if_neg (fun y => y rfl), and_t (by omega), if_neg (by omega), and_t (by omega), if_neg (by omega), and_t (by omega), if_neg (by omega), e8]
      exact MPost.of h keepR.rf
    · have e8 : atL l i = -2 := if_neg ci
      simp (disch := first | assumption | with_reducible exact kd_0 | with_reducible exact kd_1 | with_reducible exact kd_3 | with_reducible exact kd_25 | with_reducible exact kd_26 | with_reducible exact kd_32 | with_reducible exact kd_30 | with_reducible exact kd_37 | with_reducible exact kd_39 | with_reducible exact kd_41 | with_reducible exact kd_2 | with_reducible exact kd_4 | with_reducible exact kd_5 | with_reducible exact kd_6 | with_reducible exact kd_27 | with_reducible exact kd_28 | with_reducible exact kd_29 | with_reducible exact kd_31 | with_reducible exact kd_33 | with_reducible exact kd_34 | with_reducible exact kd_35 | with_reducible exact kd_36 | with_reducible exact kd_38 | with_reducible exact kd_40 | with_reducible exact kd_86 | with_reducible exact kd_87 | with_reducible exact kd_88 | with_reducible exact kd_89 | with_reducible exact kd_90 | with_reducible exact kd_91 | with_reducible exact kd_92 | with_reducible exact kd_93 | with_reducible exact kd_94 | with_reducible exact kd_95 | with_reducible exact kd_96 | with_reducible exact kd_97 | with_reducible exact kd_98 | with_reducible exact kd_99 | with_reducible exact kd_100 | with_reducible exact kd_101 | with_reducible exact kd_102 | with_reducible exact kq_4 | with_reducible exact kq_6 | with_reducible exact kq_25 | omega) only [wX5_row_0, wX5_row_1, wX5_row_2, wX5_row_5, wX5_row_8, wX5_row_9, wX5_row_10, wX5_row_11, wX5_row_12, wX5_row_15, wX5_row_16, wX5_row_19, wX5_row_20, wX5_row_21, wX5_row_24, wX5_row_25, wX5_row_26, wX5_row_27, wX5_row_30, wX5_row_31, wX5_row_32, wX5_row_33, wX5_row_34, wX5_row_37, wX5_row_58, wX5_row_60, psh_some, psh_none, rf_86_2, rf_86_3, rf_86_5, rf_86_6, rf_86_8, rf_86_9, rf_86_11, rf_86_12, rf_86_14, rf_86_16, rf_86_17, rf_86_18, rf_86_21, rf_86_22, rf_86_23, rf_86_24, ln_87, ln_88, ln_89, ln_90, ln_91, ln_92, ln_93, ln_94, ln_95, ln_96, ln_97, ln_98, ln_99, ln_100, ln_101, ln_102, i0, iI_lt, iI_le, iI_eq, iI_in, iI_nat, iI_add, iI_sub, iI_mul, m_isMan e3, hm, bz, k1, m_in]
      rw [if_neg (fun y => y rfl), and_t (by omega)]
      by_cases c : i = -1
      · rw [if_pos c, if_pos c]
        exact MPost.of h keepR.rf
      · rw [if_neg c, if_neg c, and_t (by omega), if_pos (by omega), e8]
        exact MPost.of h keepR.rf
end MC
