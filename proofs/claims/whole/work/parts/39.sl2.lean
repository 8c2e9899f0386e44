/-! slides: what was reached -/
abbrev Qu : Type := List (List Int × Int)
def SlQ (L : Int) (Q : Qu) (μ : Mem) : Prop :=
  μ 26 4 = iI Q.length ∧ μ 26 5 = iI L ∧ Q.length ≤ 1245 ∧ (∀ i : Nat, i < Q.length → μ 28 i = iI (numL L (Q.getD i ([], 0)).1) ∧ μ 29 i = iI (Q.getD i ([], 0)).2) ∧
  (∀ x ∈ Q, rowOK L x.1) ∧ ∀ w k : Nat, w < 1750 → k < 32 → (bt (μ 27 w) k = true ↔ ∃ x ∈ Q, numL L x.1 = ((32 * w + k : Nat) : Int))
theorem SlQ.fr {L : Int} {Q : Qu} {μ μ' : Mem} (h : SlQ L Q μ) (hf : ∀ c, 26 ≤ c → c ≤ 29 → μ' c = μ c) : SlQ L Q μ' := by
  unfold SlQ
  rw [hf 26 (by omega) (by omega), hf 27 (by omega) (by omega), hf 28 (by omega) (by omega), hf 29 (by omega) (by omega)]
  exact h
section SL
variable {X : Env0} {d r : Nat} {μ : Mem} {P : Option Value → Mem → Prop} {L : Int} {Q : Qu} {l : List Int}
theorem longer_spec {n s : Int} (h : μ 26 5 = iI L) (h1 : -2147483648 ≤ s) (h2 : s < 2147483648) : Wp X d 38 0 [.ref 26, .int (iI n), .int (iI s)] [] μ P = P (some (.int (iI (lng L n s)))) μ := by
  unfold lng
  simp (disch := first | assumption | with_reducible exact kd_0 | with_reducible exact kd_1 | with_reducible exact kd_3 | with_reducible exact kd_25 | with_reducible exact kd_26 | with_reducible exact kd_32 | with_reducible exact kd_30 | with_reducible exact kd_37 | with_reducible exact kd_39 | with_reducible exact kd_41 | with_reducible exact kd_2 | with_reducible exact kd_4 | with_reducible exact kd_5 | with_reducible exact kd_6 | with_reducible exact kd_27 | with_reducible exact kd_28 | with_reducible exact kd_29 | with_reducible exact kd_31 | with_reducible exact kd_33 | with_reducible exact kd_34 | with_reducible exact kd_35 | with_reducible exact kd_36 | with_reducible exact kd_38 | with_reducible exact kd_40 | with_reducible exact kd_86 | with_reducible exact kd_87 | with_reducible exact kd_88 | with_reducible exact kd_89 | with_reducible exact kd_90 | with_reducible exact kd_91 | with_reducible exact kd_92 | with_reducible exact kd_93 | with_reducible exact kd_94 | with_reducible exact kd_95 | with_reducible exact kd_96 | with_reducible exact kd_97 | with_reducible exact kd_98 | with_reducible exact kd_99 | with_reducible exact kd_100 | with_reducible exact kd_101 | with_reducible exact kd_102 | with_reducible exact kq_4 | with_reducible exact kq_6 | with_reducible exact kq_25 | omega) only [wX3_longer_0, wX3_longer_1, wX3_longer_4, wX3_longer_5, wX3_longer_8, wX3_longer_9, wX3_longer_10, wX3_longer_11, wX3_longer_12, wX3_longer_15, wX3_longer_16, wX3_longer_17, wX3_longer_18, wX3_longer_19, wX3_longer_20, psh_some, psh_none, rf_0_0, rf_0_1, rf_0_2, rf_0_3, rf_0_4, rf_0_5, rf_0_6, rf_0_7, rf_1_0, ln_2, rf_3_1, rf_3_2, rf_3_3, ln_4, ln_5, ln_6, rf_25_0, rf_25_1, ln_25, rf_26_0, rf_26_1, rf_26_2, rf_26_3, ln_27, ln_28, ln_29, rf_30_0, ln_31, rf_32_0, rf_32_1, rf_32_2, rf_32_3, ln_33, ln_34, ln_35, ln_36, rf_37_0, ln_38, rf_39_0, ln_40, ln_41, i0, iI_lt, iI_le, iI_eq, iI_in, iI_nat, iI_add, iI_sub, iI_mul, h]
  by_cases c : s < 0
  · rw [if_neg (by omega), if_pos c]
  · rw [if_pos (by omega), if_neg c]
theorem numberOf_loop (h : μ 26 5 = iI L) (hL : 1 ≤ L ∧ L ≤ 3) (hr : isRw r) (hl : Rw μ r l) (ol : rowOK L l) : ∀ (k i : Nat) (n : Int), k + i = l.length →
    Wp X (d + 1) 37 4 [.ref 26, .ref r, .int (iI n), .int (iI i)] [] μ P = P (some (.int (iI ((l.drop i).foldl (lng L) n)))) μ := by
  have e1 := hl.2.1
  have e2 := hr.1
  have e3 := ol.1
  intro k
  induction k with
  | zero =>
    intro i n hi
    rw [wX3_numberOf_4]
    simp (disch := first | assumption | with_reducible exact kd_0 | with_reducible exact kd_1 | with_reducible exact kd_3 | with_reducible exact kd_25 | with_reducible exact kd_26 | with_reducible exact kd_32 | with_reducible exact kd_30 | with_reducible exact kd_37 | with_reducible exact kd_39 | with_reducible exact kd_41 | with_reducible exact kd_2 | with_reducible exact kd_4 | with_reducible exact kd_5 | with_reducible exact kd_6 | with_reducible exact kd_27 | with_reducible exact kd_28 | with_reducible exact kd_29 | with_reducible exact kd_31 | with_reducible exact kd_33 | with_reducible exact kd_34 | with_reducible exact kd_35 | with_reducible exact kd_36 | with_reducible exact kd_38 | with_reducible exact kd_40 | with_reducible exact kd_86 | with_reducible exact kd_87 | with_reducible exact kd_88 | with_reducible exact kd_89 | with_reducible exact kd_90 | with_reducible exact kd_91 | with_reducible exact kd_92 | with_reducible exact kd_93 | with_reducible exact kd_94 | with_reducible exact kd_95 | with_reducible exact kd_96 | with_reducible exact kd_97 | with_reducible exact kd_98 | with_reducible exact kd_99 | with_reducible exact kd_100 | with_reducible exact kd_101 | with_reducible exact kd_102 | with_reducible exact kq_4 | with_reducible exact kq_6 | with_reducible exact kq_25 | omega) only [wX3_numberOf_0, wX3_numberOf_1, wX3_numberOf_2, wX3_numberOf_3, wX3_numberOf_5, wX3_numberOf_5n, wX3_numberOf_6, wX3_numberOf_9, wX3_numberOf_12, wX3_numberOf_13, wX3_numberOf_14, wX3_numberOf_14n, wX3_numberOf_15, wX3_numberOf_16, wX3_numberOf_19, wX3_numberOf_22, wX3_numberOf_23, wX3_numberOf_26, wX3_numberOf_29, wX3_numberOf_30, psh_some, psh_none, e1, i0, iI_lt, iI_le, iI_eq, iI_in, iI_nat, iI_add, iI_sub]
    rw [if_pos (by omega), List.drop_of_length_le (by omega)]
    rfl
  | succ k ih =>
    intro i n hi
    have b1 := atL_nat (show i < l.length by omega)
    have b2 := rowOK_at ol (show i < l.length by omega)
    have f := ih (i + 1) (lng L n (l.getD i 0)) (by omega)
    rw [Int.natCast_add, Int.natCast_one] at f
    rw [wX3_numberOf_4, drop_cons (by omega)]
    simp (disch := first | assumption | with_reducible exact kd_0 | with_reducible exact kd_1 | with_reducible exact kd_3 | with_reducible exact kd_25 | with_reducible exact kd_26 | with_reducible exact kd_32 | with_reducible exact kd_30 | with_reducible exact kd_37 | with_reducible exact kd_39 | with_reducible exact kd_41 | with_reducible exact kd_2 | with_reducible exact kd_4 | with_reducible exact kd_5 | with_reducible exact kd_6 | with_reducible exact kd_27 | with_reducible exact kd_28 | with_reducible exact kd_29 | with_reducible exact kd_31 | with_reducible exact kd_33 | with_reducible exact kd_34 | with_reducible exact kd_35 | with_reducible exact kd_36 | with_reducible exact kd_38 | with_reducible exact kd_40 | with_reducible exact kd_86 | with_reducible exact kd_87 | with_reducible exact kd_88 | with_reducible exact kd_89 | with_reducible exact kd_90 | with_reducible exact kd_91 | with_reducible exact kd_92 | with_reducible exact kd_93 | with_reducible exact kd_94 | with_reducible exact kd_95 | with_reducible exact kd_96 | with_reducible exact kd_97 | with_reducible exact kd_98 | with_reducible exact kd_99 | with_reducible exact kd_100 | with_reducible exact kd_101 | with_reducible exact kd_102 | with_reducible exact kq_4 | with_reducible exact kq_6 | with_reducible exact kq_25 | omega) only [wX3_numberOf_0, wX3_numberOf_1, wX3_numberOf_2, wX3_numberOf_3, wX3_numberOf_5, wX3_numberOf_5n, wX3_numberOf_6, wX3_numberOf_9, wX3_numberOf_12, wX3_numberOf_13, wX3_numberOf_14, wX3_numberOf_14n, wX3_numberOf_15, wX3_numberOf_16, wX3_numberOf_19, wX3_numberOf_22, wX3_numberOf_23, wX3_numberOf_26, wX3_numberOf_29, wX3_numberOf_30, psh_some, psh_none, rf_0_0, rf_0_1, rf_0_2, rf_0_3, rf_0_4, rf_0_5, rf_0_6, rf_0_7, rf_1_0, ln_2, rf_3_1, rf_3_2, rf_3_3, ln_4, ln_5, ln_6, rf_25_0, rf_25_1, ln_25, rf_26_0, rf_26_1, rf_26_2, rf_26_3, ln_27, ln_28, ln_29, rf_30_0, ln_31, rf_32_0, rf_32_1, rf_32_2, rf_32_3, ln_33, ln_34, ln_35, ln_36, rf_37_0, ln_38, rf_39_0, ln_40, ln_41, e1, i0, iI_lt, iI_le, iI_eq, iI_in, iI_nat, iI_add, iI_sub, at_spec hr hl, b1, longer_spec h, f]
    rw [if_neg (by omega), List.foldl_cons]
theorem numberOf_spec (h : μ 26 5 = iI L) (hL : 1 ≤ L ∧ L ≤ 3) (hr : isRw r) (hl : Rw μ r l) (ol : rowOK L l) :
    Wp X (d + 1) 37 0 [.ref 26, .ref r, .retAddr 0, .retAddr 0] [] μ P = P (some (.int (iI (numL L l)))) μ := by
  have f := numberOf_loop (X := X) (d := d) (P := P) h hL hr hl ol l.length 0 0 (by omega)
  rw [Int.natCast_zero, List.drop_zero] at f
  simp (disch := first | assumption | with_reducible exact kd_0 | with_reducible exact kd_1 | with_reducible exact kd_3 | with_reducible exact kd_25 | with_reducible exact kd_26 | with_reducible exact kd_32 | with_reducible exact kd_30 | with_reducible exact kd_37 | with_reducible exact kd_39 | with_reducible exact kd_41 | with_reducible exact kd_2 | with_reducible exact kd_4 | with_reducible exact kd_5 | with_reducible exact kd_6 | with_reducible exact kd_27 | with_reducible exact kd_28 | with_reducible exact kd_29 | with_reducible exact kd_31 | with_reducible exact kd_33 | with_reducible exact kd_34 | with_reducible exact kd_35 | with_reducible exact kd_36 | with_reducible exact kd_38 | with_reducible exact kd_40 | with_reducible exact kd_86 | with_reducible exact kd_87 | with_reducible exact kd_88 | with_reducible exact kd_89 | with_reducible exact kd_90 | with_reducible exact kd_91 | with_reducible exact kd_92 | with_reducible exact kd_93 | with_reducible exact kd_94 | with_reducible exact kd_95 | with_reducible exact kd_96 | with_reducible exact kd_97 | with_reducible exact kd_98 | with_reducible exact kd_99 | with_reducible exact kd_100 | with_reducible exact kd_101 | with_reducible exact kd_102 | with_reducible exact kq_4 | with_reducible exact kq_6 | with_reducible exact kq_25 | omega) only [wX3_numberOf_0, wX3_numberOf_1, wX3_numberOf_2, wX3_numberOf_3, wX3_numberOf_5, wX3_numberOf_5n, wX3_numberOf_6, wX3_numberOf_9, wX3_numberOf_12, wX3_numberOf_13, wX3_numberOf_14, wX3_numberOf_14n, wX3_numberOf_15, wX3_numberOf_16, wX3_numberOf_19, wX3_numberOf_22, wX3_numberOf_23, wX3_numberOf_26, wX3_numberOf_29, wX3_numberOf_30, psh_some, psh_none, f]
  rfl
def inQ (Q : Qu) (l : List Int) : Bool := decide (l ∈ Q.map Prod.fst)
theorem inQ_iff {Q : Qu} {l : List Int} : inQ Q l = true ↔ ∃ x ∈ Q, x.1 = l := by
  unfold inQ
  rw [decide_eq_true_iff, List.mem_map]
theorem mark_iff (h : SlQ L Q μ) (hL : 1 ≤ L ∧ L ≤ 3) (ol : rowOK L l) : (bt (μ 27 ((numL L l) / 32).toNat) ((numL L l) % 32).toNat = true) ↔ inQ Q l = true := by
  have hb := numL_bd hL ol
  rw [h.2.2.2.2.2 _ _ (by omega) (by omega), inQ_iff]
  have e : ((32 * (numL L l / 32).toNat + (numL L l % 32).toNat : Nat) : Int) = numL L l := by omega
  rw [e]
  constructor
  · rintro ⟨x, hx, hx2⟩
    exact ⟨x, hx, numL_inj hL _ _ _ (Nat.le_refl _) (h.2.2.2.2.1 x hx).2 ol.2 hx2⟩
  · rintro ⟨x, hx, rfl⟩
    exact ⟨x, hx, rfl⟩
theorem has_spec (h : SlQ L Q μ) (hL : 1 ≤ L ∧ L ≤ 3) (hr : isRw r) (hl : Rw μ r l) (ol : rowOK L l) :
    Wp X (d + 2) 32 0 [.ref 26, .ref r, .retAddr 0, .retAddr 0] [] μ P = P (some (.int (iI (if inQ Q l then 1 else 0)))) μ := by
  have hb := numL_bd hL ol
  have hm := mark_iff h hL ol
  have e1 : ((numL L l % 32).toNat : Int) = numL L l % 32 := by omega
  have e2 := bt_and (x := μ 27 ((numL L l) / 32).toNat) (k := ((numL L l) % 32).toNat) (by omega)
  rw [e1] at e2
  simp (disch := first | assumption | with_reducible exact kd_0 | with_reducible exact kd_1 | with_reducible exact kd_3 | with_reducible exact kd_25 | with_reducible exact kd_26 | with_reducible exact kd_32 | with_reducible exact kd_30 | with_reducible exact kd_37 | with_reducible exact kd_39 | with_reducible exact kd_41 | with_reducible exact kd_2 | with_reducible exact kd_4 | with_reducible exact kd_5 | with_reducible exact kd_6 | with_reducible exact kd_27 | with_reducible exact kd_28 | with_reducible exact kd_29 | with_reducible exact kd_31 | with_reducible exact kd_33 | with_reducible exact kd_34 | with_reducible exact kd_35 | with_reducible exact kd_36 | with_reducible exact kd_38 | with_reducible exact kd_40 | with_reducible exact kd_86 | with_reducible exact kd_87 | with_reducible exact kd_88 | with_reducible exact kd_89 | with_reducible exact kd_90 | with_reducible exact kd_91 | with_reducible exact kd_92 | with_reducible exact kd_93 | with_reducible exact kd_94 | with_reducible exact kd_95 | with_reducible exact kd_96 | with_reducible exact kd_97 | with_reducible exact kd_98 | with_reducible exact kd_99 | with_reducible exact kd_100 | with_reducible exact kd_101 | with_reducible exact kd_102 | with_reducible exact kq_4 | with_reducible exact kq_6 | with_reducible exact kq_25 | omega) only [wX3_has_0, wX3_has_1, wX3_has_1n, wX3_has_2, wX3_has_5, wX3_has_6, wX3_has_7, wX3_has_9, wX3_has_10, wX3_has_11, wX3_has_12, wX3_has_15, wX3_has_16, wX3_has_17, wX3_has_20, wX3_has_21, wX3_has_24, wX3_has_25, wX3_has_28, wX3_has_29, wX3_has_30, wX3_has_31, wX3_has_32, wX3_has_34, wX3_has_35, wX3_has_36, wX3_has_37, wX3_has_40, wX3_has_41, wX3_has_44, wX3_has_45_0, wX3_has_45_1, psh_some, psh_none, rf_0_0, rf_0_1, rf_0_2, rf_0_3, rf_0_4, rf_0_5, rf_0_6, rf_0_7, rf_1_0, ln_2, rf_3_1, rf_3_2, rf_3_3, ln_4, ln_5, ln_6, rf_25_0, rf_25_1, ln_25, rf_26_0, rf_26_1, rf_26_2, rf_26_3, ln_27, ln_28, ln_29, rf_30_0, ln_31, rf_32_0, rf_32_1, rf_32_2, rf_32_3, ln_33, ln_34, ln_35, ln_36, rf_37_0, ln_38, rf_39_0, ln_40, ln_41, i0, iI_lt, iI_le, iI_eq, iI_in, iI_nat, iI_add, iI_sub, iI_div, iI_rem, numberOf_spec h.2.1 hL hr hl ol, e2]
  rw [if_neg (by omega), if_neg (by omega)]
  by_cases c : inQ Q l = true
  · rw [if_pos c]
    have := hm.mpr c
    rw [this, if_neg (by decide)]
    apply propext
    exact ⟨fun z => z.2.2.2, fun z => ⟨by omega, by omega, by omega, z⟩⟩
  · rw [if_neg c]
    have : bt (μ 27 ((numL L l) / 32).toNat) ((numL L l) % 32).toNat = false := by
      cases hh : bt (μ 27 ((numL L l) / 32).toNat) ((numL L l) % 32).toNat with
      | false => rfl
      | true => exact absurd (hm.mp hh) c
    rw [this, if_pos (by decide)]
    apply propext
    exact ⟨fun z => z.2.2.2, fun z => ⟨by omega, by omega, by omega, z⟩⟩
end SL
