/-! slides: reach, forget, look up -/
def rch (Q : Qu) (l : List Int) (s : Int) : Qu := if 1245 ≤ Q.length ∨ inQ Q l = true then Q else Q ++ [(l, s)]
def keepS (μ μ' : Mem) : Prop := ∀ c, c < 26 ∨ 29 < c → μ' c = μ c
theorem getD_push {Q : Qu} {x y : List Int × Int} : (Q ++ [x]).getD Q.length y = x := by
  rw [List.getD_eq_getElem?_getD, List.getElem?_append_right (Nat.le_refl _), Nat.sub_self]
  rfl
theorem getD_old {Q : Qu} {x y : List Int × Int} {i : Nat} (h : i < Q.length) : (Q ++ [x]).getD i y = Q.getD i y := by
  rw [List.getD_eq_getElem?_getD, List.getD_eq_getElem?_getD, List.getElem?_append_left h]
section SL
variable {X : Env0} {d r : Nat} {μ : Mem} {P : Option Value → Mem → Prop} {L : Int} {Q : Qu} {l : List Int}
theorem reach_new {s : Int} (h : SlQ L Q μ) (hL : 1 ≤ L ∧ L ≤ 3) (ol : rowOK L l) (hq : Q.length < 1245) :
    SlQ L (Q ++ [(l, s)]) (u2 (u2 (u2 (u2 μ 27 (numL L l / 32).toNat (μ 27 (numL L l / 32).toNat ||| (iI 1 <<< (iI (numL L l % 32) &&& 31)))) 28 Q.length (iI (numL L l))) 29 Q.length (iI s)) 26 4 (iI (Q.length + 1))) := by
  have hb := numL_bd hL ol
  obtain ⟨h1, h2, h3, h4, h5, h6⟩ := h
  refine ⟨?_, ?_, ?_, fun i hi => ?_, fun x hx => ?_, fun w k hw hk => ?_⟩
  · rw [u2_s, List.length_append, List.length_singleton, Int.natCast_add]
    rfl
  · rw [u2_n (by omega), u2_c (by omega), u2_c (by omega), u2_c (by omega)]
    exact h2
  · rw [List.length_append, List.length_singleton]
    omega
  · rw [List.length_append, List.length_singleton] at hi
    by_cases c : i = Q.length
    · subst c
      rw [getD_push]
      exact ⟨by rw [u2_c (by omega), u2_c (by omega), u2_s], by rw [u2_c (by omega), u2_s]⟩
    · rw [getD_old (by omega)]
      exact ⟨by rw [u2_c (by omega), u2_c (by omega), u2_n c, u2_c (by omega)]; exact (h4 i (by omega)).1, by rw [u2_c (by omega), u2_n c, u2_c (by omega), u2_c (by omega)]; exact (h4 i (by omega)).2⟩
  · rcases List.mem_append.mp hx with hx | hx
    · exact h5 x hx
    · rw [List.mem_singleton.mp hx]
      exact ol
  · rw [u2_c (by omega), u2_c (by omega), u2_c (by omega)]
    have e : (∃ x ∈ Q ++ [(l, s)], numL L x.1 = ((32 * w + k : Nat) : Int)) ↔ (∃ x ∈ Q, numL L x.1 = ((32 * w + k : Nat) : Int)) ∨ numL L l = ((32 * w + k : Nat) : Int) := by
      constructor
      · rintro ⟨x, hx, hx2⟩
        rcases List.mem_append.mp hx with hx | hx
        · exact Or.inl ⟨x, hx, hx2⟩
        · rw [List.mem_singleton.mp hx] at hx2
          exact Or.inr hx2
      · rintro (⟨x, hx, hx2⟩ | hx)
        · exact ⟨x, List.mem_append_left _ hx, hx2⟩
        · exact ⟨(l, s), List.mem_append_right _ (List.mem_singleton.mpr rfl), hx⟩
    rw [e, ← h6 w k hw hk]
    have e1 : ((numL L l % 32).toNat : Int) = numL L l % 32 := by omega
    by_cases c : w = (numL L l / 32).toNat
    · rw [c, u2_s, ← e1, bt_or (by omega)]
      rw [Bool.or_eq_true, decide_eq_true_iff]
      constructor
      · rintro (z | z)
        · exact Or.inl z
        · exact Or.inr (by omega)
      · rintro (z | z)
        · exact Or.inl z
        · exact Or.inr (by omega)
    · rw [u2_n c]
      constructor
      · exact fun z => Or.inl z
      · rintro (z | z)
        · exact z
        · exact absurd z (by omega)
theorem reach_spec {s : Int} (h : SlQ L Q μ) (hL : 1 ≤ L ∧ L ≤ 3) (ol : rowOK L l) :
    Wp X d 36 0 [.ref 26, .int (iI (numL L l)), .int (iI s), .retAddr 0, .retAddr 0] [] μ (fun v μ' => v = none ∧ SlQ L (rch Q l s) μ' ∧ keepS μ μ') := by
  have hb := numL_bd hL ol
  have hm := mark_iff h hL ol
  have h1 := h.1
  have h3 := h.2.2.1
  have e1 : ((numL L l % 32).toNat : Int) = numL L l % 32 := by omega
  have e2 := bt_and (x := μ 27 ((numL L l) / 32).toNat) (k := ((numL L l) % 32).toNat) (by omega)
  rw [e1] at e2
  have old : True ∧ SlQ L Q μ ∧ keepS μ μ := ⟨trivial, h, fun _ _ => rfl⟩
  unfold rch
  by_cases c : 1245 ≤ Q.length
  · rw [if_pos (Or.inl c)]
    simp (disch := first | assumption | with_reducible exact kd_0 | with_reducible exact kd_1 | with_reducible exact kd_3 | with_reducible exact kd_25 | with_reducible exact kd_26 | with_reducible exact kd_32 | with_reducible exact kd_30 | with_reducible exact kd_37 | with_reducible exact kd_39 | with_reducible exact kd_41 | with_reducible exact kd_2 | with_reducible exact kd_4 | with_reducible exact kd_5 | with_reducible exact kd_6 | with_reducible exact kd_27 | with_reducible exact kd_28 | with_reducible exact kd_29 | with_reducible exact kd_31 | with_reducible exact kd_33 | with_reducible exact kd_34 | with_reducible exact kd_35 | with_reducible exact kd_36 | with_reducible exact kd_38 | with_reducible exact kd_40 | with_reducible exact kd_86 | with_reducible exact kd_87 | with_reducible exact kd_88 | with_reducible exact kd_89 | with_reducible exact kd_90 | with_reducible exact kd_91 | with_reducible exact kd_92 | with_reducible exact kd_93 | with_reducible exact kd_94 | with_reducible exact kd_95 | with_reducible exact kd_96 | with_reducible exact kd_97 | with_reducible exact kd_98 | with_reducible exact kd_99 | with_reducible exact kd_100 | with_reducible exact kd_101 | with_reducible exact kd_102 | with_reducible exact kq_4 | with_reducible exact kq_6 | with_reducible exact kq_25 | omega) only [wX3_reach_0, wX3_reach_1, wX3_reach_3, wX3_reach_4, wX3_reach_5, wX3_reach_6, wX3_reach_7, wX3_reach_9, wX3_reach_10, wX3_reach_11, wX3_reach_13, wX3_reach_14, wX3_reach_17, wX3_reach_18, wX3_reach_19, wX3_reach_22, wX3_reach_23, wX3_reach_26, wX3_reach_27, wX3_reach_30, wX3_reach_33, wX3_reach_36, wX3_reach_37, wX3_reach_40, wX3_reach_41, wX3_reach_42, wX3_reach_44, wX3_reach_45, wX3_reach_48, wX3_reach_49, wX3_reach_50, wX3_reach_53, wX3_reach_54, wX3_reach_55, wX3_reach_56, wX3_reach_58, wX3_reach_59, wX3_reach_60, wX3_reach_61, wX3_reach_64, wX3_reach_65, wX3_reach_68, wX3_reach_69, wX3_reach_70, wX3_reach_71, wX3_reach_74, wX3_reach_75, wX3_reach_78, wX3_reach_79, wX3_reach_80, wX3_reach_81, wX3_reach_81i, wX3_reach_82, wX3_reach_85, wX3_reach_86, wX3_reach_87, wX3_reach_90, psh_some, psh_none, rf_0_0, rf_0_1, rf_0_2, rf_0_3, rf_0_4, rf_0_5, rf_0_6, rf_0_7, rf_1_0, ln_2, rf_3_1, rf_3_2, rf_3_3, ln_4, ln_5, ln_6, rf_25_0, rf_25_1, ln_25, rf_26_0, rf_26_1, rf_26_2, rf_26_3, ln_27, ln_28, ln_29, rf_30_0, ln_31, rf_32_0, rf_32_1, rf_32_2, rf_32_3, ln_33, ln_34, ln_35, ln_36, rf_37_0, ln_38, rf_39_0, ln_40, ln_41, i0, iI_lt, iI_le, iI_eq, iI_in, iI_nat, iI_add, iI_sub, iI_div, iI_rem, h1]
    rw [if_neg (by omega), if_neg (by omega), if_pos (by omega)]
    exact ⟨by omega, by omega, old⟩
  · by_cases c1 : inQ Q l = true
    · rw [if_pos (Or.inr c1)]
      have e3 := hm.mpr c1
      simp (disch := first | assumption | with_reducible exact kd_0 | with_reducible exact kd_1 | with_reducible exact kd_3 | with_reducible exact kd_25 | with_reducible exact kd_26 | with_reducible exact kd_32 | with_reducible exact kd_30 | with_reducible exact kd_37 | with_reducible exact kd_39 | with_reducible exact kd_41 | with_reducible exact kd_2 | with_reducible exact kd_4 | with_reducible exact kd_5 | with_reducible exact kd_6 | with_reducible exact kd_27 | with_reducible exact kd_28 | with_reducible exact kd_29 | with_reducible exact kd_31 | with_reducible exact kd_33 | with_reducible exact kd_34 | with_reducible exact kd_35 | with_reducible exact kd_36 | with_reducible exact kd_38 | with_reducible exact kd_40 | with_reducible exact kd_86 | with_reducible exact kd_87 | with_reducible exact kd_88 | with_reducible exact kd_89 | with_reducible exact kd_90 | with_reducible exact kd_91 | with_reducible exact kd_92 | with_reducible exact kd_93 | with_reducible exact kd_94 | with_reducible exact kd_95 | with_reducible exact kd_96 | with_reducible exact kd_97 | with_reducible exact kd_98 | with_reducible exact kd_99 | with_reducible exact kd_100 | with_reducible exact kd_101 | with_reducible exact kd_102 | with_reducible exact kq_4 | with_reducible exact kq_6 | with_reducible exact kq_25 | omega) only [wX3_reach_0, wX3_reach_1, wX3_reach_3, wX3_reach_4, wX3_reach_5, wX3_reach_6, wX3_reach_7, wX3_reach_9, wX3_reach_10, wX3_reach_11, wX3_reach_13, wX3_reach_14, wX3_reach_17, wX3_reach_18, wX3_reach_19, wX3_reach_22, wX3_reach_23, wX3_reach_26, wX3_reach_27, wX3_reach_30, wX3_reach_33, wX3_reach_36, wX3_reach_37, wX3_reach_40, wX3_reach_41, wX3_reach_42, wX3_reach_44, wX3_reach_45, wX3_reach_48, wX3_reach_49, wX3_reach_50, wX3_reach_53, wX3_reach_54, wX3_reach_55, wX3_reach_56, wX3_reach_58, wX3_reach_59, wX3_reach_60, wX3_reach_61, wX3_reach_64, wX3_reach_65, wX3_reach_68, wX3_reach_69, wX3_reach_70, wX3_reach_71, wX3_reach_74, wX3_reach_75, wX3_reach_78, wX3_reach_79, wX3_reach_80, wX3_reach_81, wX3_reach_81i, wX3_reach_82, wX3_reach_85, wX3_reach_86, wX3_reach_87, wX3_reach_90, psh_some, psh_none, rf_0_0, rf_0_1, rf_0_2, rf_0_3, rf_0_4, rf_0_5, rf_0_6, rf_0_7, rf_1_0, ln_2, rf_3_1, rf_3_2, rf_3_3, ln_4, ln_5, ln_6, rf_25_0, rf_25_1, ln_25, rf_26_0, rf_26_1, rf_26_2, rf_26_3, ln_27, ln_28, ln_29, rf_30_0, ln_31, rf_32_0, rf_32_1, rf_32_2, rf_32_3, ln_33, ln_34, ln_35, ln_36, rf_37_0, ln_38, rf_39_0, ln_40, ln_41, i0, iI_lt, iI_le, iI_eq, iI_in, iI_nat, iI_add, iI_sub, iI_div, iI_rem, h1, e2, e3]
      rw [if_neg (by omega), if_neg (by omega), if_neg (by omega), if_neg (by decide)]
      exact ⟨by omega, by omega, by omega, old⟩
    · rw [if_neg (by
        rintro (z | z)
        · exact c z
        · exact c1 z)]
      have e3 : bt (μ 27 ((numL L l) / 32).toNat) ((numL L l) % 32).toNat = false := by
        cases hh : bt (μ 27 ((numL L l) / 32).toNat) ((numL L l) % 32).toNat with
        | false => rfl
        | true => exact absurd (hm.mp hh) c1
      simp (disch := first | assumption | with_reducible exact kd_0 | with_reducible exact kd_1 | with_reducible exact kd_3 | with_reducible exact kd_25 | with_reducible exact kd_26 | with_reducible exact kd_32 | with_reducible exact kd_30 | with_reducible exact kd_37 | with_reducible exact kd_39 | with_reducible exact kd_41 | with_reducible exact kd_2 | with_reducible exact kd_4 | with_reducible exact kd_5 | with_reducible exact kd_6 | with_reducible exact kd_27 | with_reducible exact kd_28 | with_reducible exact kd_29 | with_reducible exact kd_31 | with_reducible exact kd_33 | with_reducible exact kd_34 | with_reducible exact kd_35 | with_reducible exact kd_36 | with_reducible exact kd_38 | with_reducible exact kd_40 | with_reducible exact kd_86 | with_reducible exact kd_87 | with_reducible exact kd_88 | with_reducible exact kd_89 | with_reducible exact kd_90 | with_reducible exact kd_91 | with_reducible exact kd_92 | with_reducible exact kd_93 | with_reducible exact kd_94 | with_reducible exact kd_95 | with_reducible exact kd_96 | with_reducible exact kd_97 | with_reducible exact kd_98 | with_reducible exact kd_99 | with_reducible exact kd_100 | with_reducible exact kd_101 | with_reducible exact kd_102 | with_reducible exact kq_4 | with_reducible exact kq_6 | with_reducible exact kq_25 | omega) only [wX3_reach_0, wX3_reach_1, wX3_reach_3, wX3_reach_4, wX3_reach_5, wX3_reach_6, wX3_reach_7, wX3_reach_9, wX3_reach_10, wX3_reach_11, wX3_reach_13, wX3_reach_14, wX3_reach_17, wX3_reach_18, wX3_reach_19, wX3_reach_22, wX3_reach_23, wX3_reach_26, wX3_reach_27, wX3_reach_30, wX3_reach_33, wX3_reach_36, wX3_reach_37, wX3_reach_40, wX3_reach_41, wX3_reach_42, wX3_reach_44, wX3_reach_45, wX3_reach_48, wX3_reach_49, wX3_reach_50, wX3_reach_53, wX3_reach_54, wX3_reach_55, wX3_reach_56, wX3_reach_58, wX3_reach_59, wX3_reach_60, wX3_reach_61, wX3_reach_64, wX3_reach_65, wX3_reach_68, wX3_reach_69, wX3_reach_70, wX3_reach_71, wX3_reach_74, wX3_reach_75, wX3_reach_78, wX3_reach_79, wX3_reach_80, wX3_reach_81, wX3_reach_81i, wX3_reach_82, wX3_reach_85, wX3_reach_86, wX3_reach_87, wX3_reach_90, psh_some, psh_none, rf_0_0, rf_0_1, rf_0_2, rf_0_3, rf_0_4, rf_0_5, rf_0_6, rf_0_7, rf_1_0, ln_2, rf_3_1, rf_3_2, rf_3_3, ln_4, ln_5, ln_6, rf_25_0, rf_25_1, ln_25, rf_26_0, rf_26_1, rf_26_2, rf_26_3, ln_27, ln_28, ln_29, rf_30_0, ln_31, rf_32_0, rf_32_1, rf_32_2, rf_32_3, ln_33, ln_34, ln_35, ln_36, rf_37_0, ln_38, rf_39_0, ln_40, ln_41, i0, iI_lt, iI_le, iI_eq, iI_in, iI_nat, iI_add, iI_sub, iI_div, iI_rem, h1, e2, e3, u2_c, Int.toNat_natCast]
      rw [if_neg (by omega), if_neg (by omega), if_neg (by omega)]
      (try rw [if_pos (by trivial)])
      refine ⟨by omega, by omega, by omega, by omega, by omega, by omega, by omega, by trivial, reach_new h hL ol (by omega), fun c hc => ?_⟩
      rw [u2_cell (by omega), u2_cell (by omega), u2_cell (by omega), u2_cell (by omega)]
theorem forget_loop (h : SlQ L Q μ) (hL : 1 ≤ L ∧ L ≤ 3) : ∀ (k i : Nat) (μ' : Mem) (w1 : Value), k + i = Q.length → (∀ w b : Nat, w < 1750 → b < 32 → bt (μ' 27 w) b = true → ∃ x ∈ Q.drop i, numL L x.1 = ((32 * w + b : Nat) : Int)) → (∀ c, ¬ c = 27 → μ' c = μ c) →
    Wp X d 35 2 [.ref 26, .int (iI i), w1] [] μ' (fun v μ'' => v = none ∧ SlQ L [] μ'' ∧ keepS μ μ'') := by
  have h3 := h.2.2.1
  intro k
  induction k with
  | zero =>
    intro i μ' w1 hi h1 h2
    have e1 : μ' 26 4 = iI Q.length := by rw [h2 26 (by omega)]; exact h.1
    rw [wX3_forget_2]
    simp (disch := first | assumption | with_reducible exact kd_0 | with_reducible exact kd_1 | with_reducible exact kd_3 | with_reducible exact kd_25 | with_reducible exact kd_26 | with_reducible exact kd_32 | with_reducible exact kd_30 | with_reducible exact kd_37 | with_reducible exact kd_39 | with_reducible exact kd_41 | with_reducible exact kd_2 | with_reducible exact kd_4 | with_reducible exact kd_5 | with_reducible exact kd_6 | with_reducible exact kd_27 | with_reducible exact kd_28 | with_reducible exact kd_29 | with_reducible exact kd_31 | with_reducible exact kd_33 | with_reducible exact kd_34 | with_reducible exact kd_35 | with_reducible exact kd_36 | with_reducible exact kd_38 | with_reducible exact kd_40 | with_reducible exact kd_86 | with_reducible exact kd_87 | with_reducible exact kd_88 | with_reducible exact kd_89 | with_reducible exact kd_90 | with_reducible exact kd_91 | with_reducible exact kd_92 | with_reducible exact kd_93 | with_reducible exact kd_94 | with_reducible exact kd_95 | with_reducible exact kd_96 | with_reducible exact kd_97 | with_reducible exact kd_98 | with_reducible exact kd_99 | with_reducible exact kd_100 | with_reducible exact kd_101 | with_reducible exact kd_102 | with_reducible exact kq_4 | with_reducible exact kq_6 | with_reducible exact kq_25 | omega) only [wX3_forget_0, wX3_forget_1, wX3_forget_3, wX3_forget_4, wX3_forget_7, wX3_forget_10, wX3_forget_11, wX3_forget_14, wX3_forget_17, wX3_forget_18, wX3_forget_21, wX3_forget_22, wX3_forget_23, wX3_forget_25, wX3_forget_26, wX3_forget_27, wX3_forget_28, wX3_forget_31, wX3_forget_32, wX3_forget_33, wX3_forget_36, wX3_forget_37, wX3_forget_40, wX3_forget_41, wX3_forget_44, wX3_forget_45, wX3_forget_46, wX3_forget_47, wX3_forget_50, wX3_forget_53, wX3_forget_54, wX3_forget_55, wX3_forget_58, psh_some, psh_none, rf_0_0, rf_0_1, rf_0_2, rf_0_3, rf_0_4, rf_0_5, rf_0_6, rf_0_7, rf_1_0, ln_2, rf_3_1, rf_3_2, rf_3_3, ln_4, ln_5, ln_6, rf_25_0, rf_25_1, ln_25, rf_26_0, rf_26_1, rf_26_2, rf_26_3, ln_27, ln_28, ln_29, rf_30_0, ln_31, rf_32_0, rf_32_1, rf_32_2, rf_32_3, ln_33, ln_34, ln_35, ln_36, rf_37_0, ln_38, rf_39_0, ln_40, ln_41, i0, iI_lt, iI_le, iI_eq, iI_in, iI_nat, iI_add, iI_sub, e1]
    rw [if_pos (by omega)]
    refine ⟨by trivial, ⟨u2_s, by rw [u2_n (by omega), h2 26 (by omega)]; exact h.2.1, Nat.zero_le _, fun i hi => absurd hi (Nat.not_lt_zero i), fun x hx => (by cases hx), fun w b hw hb => ?_⟩, fun c hc => ?_⟩
    · rw [u2_c (by omega)]
      constructor
      · intro z
        have g := h1 w b hw hb z
        rw [List.drop_of_length_le (by omega)] at g
        exact g
      · rintro ⟨x, hx, -⟩
        cases hx
    · rw [u2_cell (by omega)]
      exact h2 c (by omega)
  | succ k ih =>
    intro i μ' w1 hi h1 h2
    have e1 : μ' 26 4 = iI Q.length := by rw [h2 26 (by omega)]; exact h.1
    have e2 : μ' 28 i = iI (numL L (Q.getD i ([], 0)).1) := by rw [h2 28 (by omega)]; exact (h.2.2.2.1 i (by omega)).1
    have e3 : Q.getD i ([], 0) ∈ Q := by
      rw [List.getD_eq_getElem?_getD, List.getElem?_eq_getElem (show i < Q.length by omega)]
      exact List.getElem_mem _
    have hb := numL_bd hL (h.2.2.2.2.1 _ e3)
    have e4 : Q.drop i = Q.getD i ([], 0) :: Q.drop (i + 1) := by
      rw [List.getD_eq_getElem?_getD, List.getElem?_eq_getElem (show i < Q.length by omega)]
      exact List.drop_eq_getElem_cons _
    have f := fun w1 => ih (i + 1) (u2 μ' 27 (numL L (Q.getD i ([], 0)).1 / 32).toNat (iI 0)) w1 (by omega) (fun w b hw hb z => by
      by_cases c : w = (numL L (Q.getD i ([], 0)).1 / 32).toNat
      · rw [c, u2_s, bt_0] at z
        cases z
      · rw [u2_n c] at z
        obtain ⟨x, hx, hx2⟩ := h1 w b hw hb z
        rw [e4] at hx
        rcases List.mem_cons.mp hx with hx | hx
        · rw [hx] at hx2
          exact absurd hx2 (by omega)
        · exact ⟨x, hx, hx2⟩) (fun c hc => by rw [u2_cell hc]; exact h2 c hc)
    rw [Int.natCast_add, Int.natCast_one] at f
    rw [wX3_forget_2]
    simp (disch := first | assumption | with_reducible exact kd_0 | with_reducible exact kd_1 | with_reducible exact kd_3 | with_reducible exact kd_25 | with_reducible exact kd_26 | with_reducible exact kd_32 | with_reducible exact kd_30 | with_reducible exact kd_37 | with_reducible exact kd_39 | with_reducible exact kd_41 | with_reducible exact kd_2 | with_reducible exact kd_4 | with_reducible exact kd_5 | with_reducible exact kd_6 | with_reducible exact kd_27 | with_reducible exact kd_28 | with_reducible exact kd_29 | with_reducible exact kd_31 | with_reducible exact kd_33 | with_reducible exact kd_34 | with_reducible exact kd_35 | with_reducible exact kd_36 | with_reducible exact kd_38 | with_reducible exact kd_40 | with_reducible exact kd_86 | with_reducible exact kd_87 | with_reducible exact kd_88 | with_reducible exact kd_89 | with_reducible exact kd_90 | with_reducible exact kd_91 | with_reducible exact kd_92 | with_reducible exact kd_93 | with_reducible exact kd_94 | with_reducible exact kd_95 | with_reducible exact kd_96 | with_reducible exact kd_97 | with_reducible exact kd_98 | with_reducible exact kd_99 | with_reducible exact kd_100 | with_reducible exact kd_101 | with_reducible exact kd_102 | with_reducible exact kq_4 | with_reducible exact kq_6 | with_reducible exact kq_25 | omega) only [wX3_forget_0, wX3_forget_1, wX3_forget_3, wX3_forget_4, wX3_forget_7, wX3_forget_10, wX3_forget_11, wX3_forget_14, wX3_forget_17, wX3_forget_18, wX3_forget_21, wX3_forget_22, wX3_forget_23, wX3_forget_25, wX3_forget_26, wX3_forget_27, wX3_forget_28, wX3_forget_31, wX3_forget_32, wX3_forget_33, wX3_forget_36, wX3_forget_37, wX3_forget_40, wX3_forget_41, wX3_forget_44, wX3_forget_45, wX3_forget_46, wX3_forget_47, wX3_forget_50, wX3_forget_53, wX3_forget_54, wX3_forget_55, wX3_forget_58, psh_some, psh_none, rf_0_0, rf_0_1, rf_0_2, rf_0_3, rf_0_4, rf_0_5, rf_0_6, rf_0_7, rf_1_0, ln_2, rf_3_1, rf_3_2, rf_3_3, ln_4, ln_5, ln_6, rf_25_0, rf_25_1, ln_25, rf_26_0, rf_26_1, rf_26_2, rf_26_3, ln_27, ln_28, ln_29, rf_30_0, ln_31, rf_32_0, rf_32_1, rf_32_2, rf_32_3, ln_33, ln_34, ln_35, ln_36, rf_37_0, ln_38, rf_39_0, ln_40, ln_41, i0, iI_lt, iI_le, iI_eq, iI_in, iI_nat, iI_add, iI_sub, e1, iI_div, Int.toNat_natCast, e2]
    rw [if_neg (by omega), if_neg (by omega)]
    refine ⟨by omega, by omega, ?_⟩
    rw [if_neg (by omega), if_neg (by omega)]
    exact ⟨by omega, f _⟩
theorem forget_spec (h : SlQ L Q μ) (hL : 1 ≤ L ∧ L ≤ 3) :
    Wp X d 35 0 [.ref 26, .retAddr 0, .retAddr 0] [] μ (fun v μ'' => v = none ∧ SlQ L [] μ'' ∧ keepS μ μ'') := by
  have f := forget_loop (X := X) (d := d) h hL Q.length 0 μ (.retAddr 0) (by omega) (fun w b hw hb z => (h.2.2.2.2.2 w b hw hb).mp z) (fun _ _ => rfl)
  rw [Int.natCast_zero] at f
  simp (disch := first | assumption | with_reducible exact kd_0 | with_reducible exact kd_1 | with_reducible exact kd_3 | with_reducible exact kd_25 | with_reducible exact kd_26 | with_reducible exact kd_32 | with_reducible exact kd_30 | with_reducible exact kd_37 | with_reducible exact kd_39 | with_reducible exact kd_41 | with_reducible exact kd_2 | with_reducible exact kd_4 | with_reducible exact kd_5 | with_reducible exact kd_6 | with_reducible exact kd_27 | with_reducible exact kd_28 | with_reducible exact kd_29 | with_reducible exact kd_31 | with_reducible exact kd_33 | with_reducible exact kd_34 | with_reducible exact kd_35 | with_reducible exact kd_36 | with_reducible exact kd_38 | with_reducible exact kd_40 | with_reducible exact kd_86 | with_reducible exact kd_87 | with_reducible exact kd_88 | with_reducible exact kd_89 | with_reducible exact kd_90 | with_reducible exact kd_91 | with_reducible exact kd_92 | with_reducible exact kd_93 | with_reducible exact kd_94 | with_reducible exact kd_95 | with_reducible exact kd_96 | with_reducible exact kd_97 | with_reducible exact kd_98 | with_reducible exact kd_99 | with_reducible exact kd_100 | with_reducible exact kd_101 | with_reducible exact kd_102 | with_reducible exact kq_4 | with_reducible exact kq_6 | with_reducible exact kq_25 | omega) only [wX3_forget_0, wX3_forget_1, wX3_forget_3, wX3_forget_4, wX3_forget_7, wX3_forget_10, wX3_forget_11, wX3_forget_14, wX3_forget_17, wX3_forget_18, wX3_forget_21, wX3_forget_22, wX3_forget_23, wX3_forget_25, wX3_forget_26, wX3_forget_27, wX3_forget_28, wX3_forget_31, wX3_forget_32, wX3_forget_33, wX3_forget_36, wX3_forget_37, wX3_forget_40, wX3_forget_41, wX3_forget_44, wX3_forget_45, wX3_forget_46, wX3_forget_47, wX3_forget_50, wX3_forget_53, wX3_forget_54, wX3_forget_55, wX3_forget_58, psh_some, psh_none]
  exact f
theorem forget_0 (h : SlQ L [] μ) :
    Wp X d 35 0 [.ref 26, .retAddr 0, .retAddr 0] [] μ (fun v μ'' => v = none ∧ SlQ L [] μ'' ∧ keepS μ μ'') := by
  have e1 : μ 26 4 = iI 0 := h.1
  simp (disch := first | assumption | with_reducible exact kd_0 | with_reducible exact kd_1 | with_reducible exact kd_3 | with_reducible exact kd_25 | with_reducible exact kd_26 | with_reducible exact kd_32 | with_reducible exact kd_30 | with_reducible exact kd_37 | with_reducible exact kd_39 | with_reducible exact kd_41 | with_reducible exact kd_2 | with_reducible exact kd_4 | with_reducible exact kd_5 | with_reducible exact kd_6 | with_reducible exact kd_27 | with_reducible exact kd_28 | with_reducible exact kd_29 | with_reducible exact kd_31 | with_reducible exact kd_33 | with_reducible exact kd_34 | with_reducible exact kd_35 | with_reducible exact kd_36 | with_reducible exact kd_38 | with_reducible exact kd_40 | with_reducible exact kd_86 | with_reducible exact kd_87 | with_reducible exact kd_88 | with_reducible exact kd_89 | with_reducible exact kd_90 | with_reducible exact kd_91 | with_reducible exact kd_92 | with_reducible exact kd_93 | with_reducible exact kd_94 | with_reducible exact kd_95 | with_reducible exact kd_96 | with_reducible exact kd_97 | with_reducible exact kd_98 | with_reducible exact kd_99 | with_reducible exact kd_100 | with_reducible exact kd_101 | with_reducible exact kd_102 | with_reducible exact kq_4 | with_reducible exact kq_6 | with_reducible exact kq_25 | omega) only [wX3_forget_0, wX3_forget_1, wX3_forget_3, wX3_forget_4, wX3_forget_7, wX3_forget_10, wX3_forget_11, wX3_forget_14, wX3_forget_17, wX3_forget_18, wX3_forget_21, wX3_forget_22, wX3_forget_23, wX3_forget_25, wX3_forget_26, wX3_forget_27, wX3_forget_28, wX3_forget_31, wX3_forget_32, wX3_forget_33, wX3_forget_36, wX3_forget_37, wX3_forget_40, wX3_forget_41, wX3_forget_44, wX3_forget_45, wX3_forget_46, wX3_forget_47, wX3_forget_50, wX3_forget_53, wX3_forget_54, wX3_forget_55, wX3_forget_58, psh_some, psh_none]
  rw [wX3_forget_2]
  simp (disch := first | assumption | with_reducible exact kd_0 | with_reducible exact kd_1 | with_reducible exact kd_3 | with_reducible exact kd_25 | with_reducible exact kd_26 | with_reducible exact kd_32 | with_reducible exact kd_30 | with_reducible exact kd_37 | with_reducible exact kd_39 | with_reducible exact kd_41 | with_reducible exact kd_2 | with_reducible exact kd_4 | with_reducible exact kd_5 | with_reducible exact kd_6 | with_reducible exact kd_27 | with_reducible exact kd_28 | with_reducible exact kd_29 | with_reducible exact kd_31 | with_reducible exact kd_33 | with_reducible exact kd_34 | with_reducible exact kd_35 | with_reducible exact kd_36 | with_reducible exact kd_38 | with_reducible exact kd_40 | with_reducible exact kd_86 | with_reducible exact kd_87 | with_reducible exact kd_88 | with_reducible exact kd_89 | with_reducible exact kd_90 | with_reducible exact kd_91 | with_reducible exact kd_92 | with_reducible exact kd_93 | with_reducible exact kd_94 | with_reducible exact kd_95 | with_reducible exact kd_96 | with_reducible exact kd_97 | with_reducible exact kd_98 | with_reducible exact kd_99 | with_reducible exact kd_100 | with_reducible exact kd_101 | with_reducible exact kd_102 | with_reducible exact kq_4 | with_reducible exact kq_6 | with_reducible exact kq_25 | omega) only [wX3_forget_0, wX3_forget_1, wX3_forget_3, wX3_forget_4, wX3_forget_7, wX3_forget_10, wX3_forget_11, wX3_forget_14, wX3_forget_17, wX3_forget_18, wX3_forget_21, wX3_forget_22, wX3_forget_23, wX3_forget_25, wX3_forget_26, wX3_forget_27, wX3_forget_28, wX3_forget_31, wX3_forget_32, wX3_forget_33, wX3_forget_36, wX3_forget_37, wX3_forget_40, wX3_forget_41, wX3_forget_44, wX3_forget_45, wX3_forget_46, wX3_forget_47, wX3_forget_50, wX3_forget_53, wX3_forget_54, wX3_forget_55, wX3_forget_58, psh_some, psh_none, rf_0_0, rf_0_1, rf_0_2, rf_0_3, rf_0_4, rf_0_5, rf_0_6, rf_0_7, rf_1_0, ln_2, rf_3_1, rf_3_2, rf_3_3, ln_4, ln_5, ln_6, rf_25_0, rf_25_1, ln_25, rf_26_0, rf_26_1, rf_26_2, rf_26_3, ln_27, ln_28, ln_29, rf_30_0, ln_31, rf_32_0, rf_32_1, rf_32_2, rf_32_3, ln_33, ln_34, ln_35, ln_36, rf_37_0, ln_38, rf_39_0, ln_40, ln_41, i0, iI_lt, iI_le, iI_eq, iI_in, iI_nat, iI_add, iI_sub, e1]
  rw [if_pos (by omega)]
  refine ⟨by trivial, ⟨u2_s, by rw [u2_n (by omega)]; exact h.2.1, Nat.zero_le _, fun i hi => absurd hi (Nat.not_lt_zero i), fun x hx => (by cases hx), fun w b hw hb => ?_⟩, fun c hc => ?_⟩
  · rw [u2_c (by omega)]
    exact h.2.2.2.2.2 w b hw hb
  · exact u2_cell (by omega)
end SL
