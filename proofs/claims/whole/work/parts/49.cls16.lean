/-! the class: worn -/
def pw6 : Nat → Int
  | 0 => 1
  | k + 1 => 6 * pw6 k
theorem pw6_mono (k : Nat) (h : k ≤ 3) : pw6 k ≤ 216 := by
  rcases (show k = 0 ∨ k = 1 ∨ k = 2 ∨ k = 3 by omega) with e | e | e | e <;> subst e <;> decide
theorem cfF_bd {S : Int} (hS : 1 ≤ S ∧ S ≤ 6) : ∀ (n : List Int) (m : Int) (k : Nat), n.count (-1) + k ≤ 3 → 1 ≤ m → m ≤ pw6 k → 1 ≤ cfF S n m ∧ cfF S n m ≤ 216
  | [], m, k, h, h1, h2 => by
    rw [List.count_nil] at h
    have := pw6_mono k (by omega)
    rw [cfF]
    omega
  | x :: r, m, k, h, h1, h2 => by
    rw [List.count_cons] at h
    rw [cfF]
    by_cases c : x = -1
    · subst c
      rw [if_pos rfl]
      rw [if_pos (by rfl)] at h
      refine cfF_bd hS r (m * S) (k + 1) (by omega) ?_ ?_
      · rcases (show S = 1 ∨ S = 2 ∨ S = 3 ∨ S = 4 ∨ S = 5 ∨ S = 6 by omega) with e | e | e | e | e | e <;> subst e <;> omega
      · rw [pw6]
        rcases (show S = 1 ∨ S = 2 ∨ S = 3 ∨ S = 4 ∨ S = 5 ∨ S = 6 by omega) with e | e | e | e | e | e <;> subst e <;> omega
    · rw [if_neg c]
      exact cfF_bd hS r m k (by omega) h1 h2
def dnF (g : Nat → Bool) : Nat → Int × Nat → Int × Nat
  | 0, a => a
  | k + 1, a => dnF g k (if g k = true then (a.1 + 1, k) else a)
theorem dnF_rg {g : Nat → Bool} : ∀ (k : Nat) (a : Int × Nat), 0 ≤ a.1 → 0 ≤ (dnF g k a).1 ∧ (dnF g k a).1 ≤ a.1 + k ∧ ((dnF g k a).2 = a.2 ∨ (dnF g k a).2 < k)
  | 0, a, h => ⟨h, by rw [dnF]; omega, Or.inl rfl⟩
  | k + 1, a, h => by
    rw [dnF]
    by_cases c : g k = true
    · rw [if_pos c]
      have e := dnF_rg (g := g) k (a.1 + 1, k) (by dsimp only; omega)
      dsimp only at e
      omega
    · rw [if_neg c]
      have e := dnF_rg (g := g) k a h
      omega
def wnF (t : List Int → Bool) (L : Int) (n : List Int) (i : Int) : Int :=
  if i = -1 then (dnF (fun f => t (flF (2 * L) n f)) (cfF (2 * L) n 1).toNat (0, 0)).1 else
  if (dnF (fun f => t (flF (2 * L) n f)) (cfF (2 * L) n 1).toNat (0, 0)).1 = 0 then -6 else
  codeOf L (slF i n (flF (2 * L) n (dnF (fun f => t (flF (2 * L) n f)) (cfF (2 * L) n 1).toNat (0, 0)).2) 0)
section WO
variable {X : Env0} {d : Nat} {μ : Mem} {P : Option Value → Mem → Prop} {L : Int} {n : List Int}
theorem fillLost_spec {f : Int} (h : μ 3 0 = iI (L + 1)) (hL : 1 ≤ L ∧ L ≤ 3) (hl : Rw μ 37 n) (ol : netOK L n) (hf : 0 ≤ f ∧ f ≤ 1000) :
    Wp X (d + 2) 84 0 [.ref 0, .int (iI f), .retAddr 0, .retAddr 0] [] μ (fun v μ' => v = none ∧ Rw μ' 39 (flF (2 * L) n f) ∧ ∀ c, ¬ c = 39 → ¬ c = 40 → μ' c = μ c) := by
  have e3 := ol.1
  have e1 := hl.2.1
  simp (disch := first | assumption | with_reducible exact kd_0 | with_reducible exact kd_1 | with_reducible exact kd_3 | with_reducible exact kd_25 | with_reducible exact kd_26 | with_reducible exact kd_32 | with_reducible exact kd_30 | with_reducible exact kd_37 | with_reducible exact kd_39 | with_reducible exact kd_41 | with_reducible exact kd_2 | with_reducible exact kd_4 | with_reducible exact kd_5 | with_reducible exact kd_6 | with_reducible exact kd_27 | with_reducible exact kd_28 | with_reducible exact kd_29 | with_reducible exact kd_31 | with_reducible exact kd_33 | with_reducible exact kd_34 | with_reducible exact kd_35 | with_reducible exact kd_36 | with_reducible exact kd_38 | with_reducible exact kd_40 | with_reducible exact kd_86 | with_reducible exact kd_87 | with_reducible exact kd_88 | with_reducible exact kd_89 | with_reducible exact kd_90 | with_reducible exact kd_91 | with_reducible exact kd_92 | with_reducible exact kd_93 | with_reducible exact kd_94 | with_reducible exact kd_95 | with_reducible exact kd_96 | with_reducible exact kd_97 | with_reducible exact kd_98 | with_reducible exact kd_99 | with_reducible exact kd_100 | with_reducible exact kd_101 | with_reducible exact kd_102 | with_reducible exact kq_4 | with_reducible exact kq_6 | with_reducible exact kq_25 | omega) only [wX4_fillLost_0, wX4_fillLost_1, wX4_fillLost_2, wX4_fillLost_3, wX4_fillLost_6, wX4_fillLost_7, wX4_fillLost_10, wX4_fillLost_13, wX4_fillLost_14, wX4_fillLost_17, wX4_fillLost_20, wX4_fillLost_21, wX4_fillLost_22, wX4_fillLost_24, wX4_fillLost_27, wX4_fillLost_28, wX4_fillLost_31, wX4_fillLost_32, wX4_fillLost_35, wX4_fillLost_36, wX4_fillLost_39, wX4_fillLost_40, wX4_fillLost_43, wX4_fillLost_44, wX4_fillLost_45, wX4_fillLost_46, wX4_fillLost_49, wX4_fillLost_52, wX4_fillLost_55, wX4_fillLost_58, wX4_fillLost_59, wX4_fillLost_60, wX4_fillLost_63, wX4_fillLost_66, wX4_fillLost_69, wX4_fillLost_70, wX4_fillLost_73, wX4_fillLost_76, psh_some, psh_none, rf_0_0, rf_0_1, rf_0_2, rf_0_3, rf_0_4, rf_0_5, rf_0_6, rf_0_7, rf_1_0, ln_2, rf_3_1, rf_3_2, rf_3_3, ln_4, ln_5, ln_6, rf_25_0, rf_25_1, ln_25, rf_26_0, rf_26_1, rf_26_2, rf_26_3, ln_27, ln_28, ln_29, rf_30_0, ln_31, rf_32_0, rf_32_1, rf_32_2, rf_32_3, ln_33, ln_34, ln_35, ln_36, rf_37_0, ln_38, rf_39_0, ln_40, ln_41, i0, iI_lt, iI_le, iI_eq, iI_in, iI_nat, iI_add, iI_sub]
  refine (copy_spec isRw_37 isRw_39 (rwAp_of (by omega)) (show n.length ≤ 6 from e3) hl).mono ?_
  rintro v μ1 ⟨rfl, q1, q2⟩
  have e2 : μ1 37 1 = iI n.length := by rw [q2 37 (by omega) (by omega)]; exact e1
  have e0 : μ1 3 0 = iI (L + 1) := by rw [q2 3 (by omega) (by omega)]; exact h
  have g := fill_loop (X := X) (d := d) (μ := μ1) (w := .int (iI f)) (P := fun v μ' => v = none ∧ Rw μ' 39 (flF (2 * L) n f) ∧ ∀ c, ¬ c = 39 → ¬ c = 40 → μ' c = μ c) e0 hL (hl.fr (q2 37 (by omega) (by omega)) (q2 38 (by omega) (by omega))) ol hf (fun μ' a b => ⟨rfl, a, fun c c1 c2 => by rw [b c c1 c2, q2 c c1 c2]⟩) n.length (n.length - 1) μ1 rfl (Nat.le_refl _) (by
    rw [List.take_length, List.drop_of_length_le (Nat.le_refl _), flR, List.append_nil]
    exact q1) (fun _ _ _ => rfl)
  rw [List.drop_of_length_le (Nat.le_refl _), flR] at g
  simp (disch := first | assumption | with_reducible exact kd_0 | with_reducible exact kd_1 | with_reducible exact kd_3 | with_reducible exact kd_25 | with_reducible exact kd_26 | with_reducible exact kd_32 | with_reducible exact kd_30 | with_reducible exact kd_37 | with_reducible exact kd_39 | with_reducible exact kd_41 | with_reducible exact kd_2 | with_reducible exact kd_4 | with_reducible exact kd_5 | with_reducible exact kd_6 | with_reducible exact kd_27 | with_reducible exact kd_28 | with_reducible exact kd_29 | with_reducible exact kd_31 | with_reducible exact kd_33 | with_reducible exact kd_34 | with_reducible exact kd_35 | with_reducible exact kd_36 | with_reducible exact kd_38 | with_reducible exact kd_40 | with_reducible exact kd_86 | with_reducible exact kd_87 | with_reducible exact kd_88 | with_reducible exact kd_89 | with_reducible exact kd_90 | with_reducible exact kd_91 | with_reducible exact kd_92 | with_reducible exact kd_93 | with_reducible exact kd_94 | with_reducible exact kd_95 | with_reducible exact kd_96 | with_reducible exact kd_97 | with_reducible exact kd_98 | with_reducible exact kd_99 | with_reducible exact kd_100 | with_reducible exact kd_101 | with_reducible exact kd_102 | with_reducible exact kq_4 | with_reducible exact kq_6 | with_reducible exact kq_25 | omega) only [wX4_fillLost_0, wX4_fillLost_1, wX4_fillLost_2, wX4_fillLost_3, wX4_fillLost_6, wX4_fillLost_7, wX4_fillLost_10, wX4_fillLost_13, wX4_fillLost_14, wX4_fillLost_17, wX4_fillLost_20, wX4_fillLost_21, wX4_fillLost_22, wX4_fillLost_24, wX4_fillLost_27, wX4_fillLost_28, wX4_fillLost_31, wX4_fillLost_32, wX4_fillLost_35, wX4_fillLost_36, wX4_fillLost_39, wX4_fillLost_40, wX4_fillLost_43, wX4_fillLost_44, wX4_fillLost_45, wX4_fillLost_46, wX4_fillLost_49, wX4_fillLost_52, wX4_fillLost_55, wX4_fillLost_58, wX4_fillLost_59, wX4_fillLost_60, wX4_fillLost_63, wX4_fillLost_66, wX4_fillLost_69, wX4_fillLost_70, wX4_fillLost_73, wX4_fillLost_76, psh_some, psh_none, rf_0_0, rf_0_1, rf_0_2, rf_0_3, rf_0_4, rf_0_5, rf_0_6, rf_0_7, rf_1_0, ln_2, rf_3_1, rf_3_2, rf_3_3, ln_4, ln_5, ln_6, rf_25_0, rf_25_1, ln_25, rf_26_0, rf_26_1, rf_26_2, rf_26_3, ln_27, ln_28, ln_29, rf_30_0, ln_31, rf_32_0, rf_32_1, rf_32_2, rf_32_3, ln_33, ln_34, ln_35, ln_36, rf_37_0, ln_38, rf_39_0, ln_40, ln_41, i0, iI_lt, iI_le, iI_eq, iI_in, iI_nat, iI_add, iI_sub, e2]
  exact g
theorem slF_loop {m : List Int} {i : Int} (hl : Rw μ 37 n) (ol : netOK L n) (hL : 1 ≤ L ∧ L ≤ 3) (hm : Rw μ 39 m) (om : rowOK L m) (hlen : m.length = n.length) (hi1 : -2147483648 ≤ i) (hi2 : i < 2147483648) : ∀ (k j : Nat) (lost : Int), k + j = n.length → 0 ≤ lost → lost ≤ j →
    Wp X (d + 1) 85 4 [.ref 0, .int (iI i), .int (iI lost), .int (iI j)] [] μ P = P (some (.int (iI (slF i (n.drop j) (m.drop j) lost)))) μ := by
  have e1 := hl.2.1
  have e3 := ol.1
  intro k
  induction k with
  | zero =>
    intro j lost hj h0 h1
    rw [wX4_signForLost_4, List.drop_of_length_le (by omega), slF]
    · simp (disch := first | assumption | with_reducible exact kd_0 | with_reducible exact kd_1 | with_reducible exact kd_3 | with_reducible exact kd_25 | with_reducible exact kd_26 | with_reducible exact kd_32 | with_reducible exact kd_30 | with_reducible exact kd_37 | with_reducible exact kd_39 | with_reducible exact kd_41 | with_reducible exact kd_2 | with_reducible exact kd_4 | with_reducible exact kd_5 | with_reducible exact kd_6 | with_reducible exact kd_27 | with_reducible exact kd_28 | with_reducible exact kd_29 | with_reducible exact kd_31 | with_reducible exact kd_33 | with_reducible exact kd_34 | with_reducible exact kd_35 | with_reducible exact kd_36 | with_reducible exact kd_38 | with_reducible exact kd_40 | with_reducible exact kd_86 | with_reducible exact kd_87 | with_reducible exact kd_88 | with_reducible exact kd_89 | with_reducible exact kd_90 | with_reducible exact kd_91 | with_reducible exact kd_92 | with_reducible exact kd_93 | with_reducible exact kd_94 | with_reducible exact kd_95 | with_reducible exact kd_96 | with_reducible exact kd_97 | with_reducible exact kd_98 | with_reducible exact kd_99 | with_reducible exact kd_100 | with_reducible exact kd_101 | with_reducible exact kd_102 | with_reducible exact kq_4 | with_reducible exact kq_6 | with_reducible exact kq_25 | omega) only [wX4_signForLost_0, wX4_signForLost_1, wX4_signForLost_2, wX4_signForLost_3, wX4_signForLost_5, wX4_signForLost_6, wX4_signForLost_9, wX4_signForLost_12, wX4_signForLost_15, wX4_signForLost_16, wX4_signForLost_19, wX4_signForLost_20, wX4_signForLost_23, wX4_signForLost_24, wX4_signForLost_27, wX4_signForLost_28, wX4_signForLost_29, wX4_signForLost_32, wX4_signForLost_33, wX4_signForLost_36, wX4_signForLost_37, wX4_signForLost_40, wX4_signForLost_41, wX4_signForLost_44, wX4_signForLost_47, wX4_signForLost_50, wX4_signForLost_52, psh_some, psh_none, rf_0_0, rf_0_1, rf_0_2, rf_0_3, rf_0_4, rf_0_5, rf_0_6, rf_0_7, rf_1_0, ln_2, rf_3_1, rf_3_2, rf_3_3, ln_4, ln_5, ln_6, rf_25_0, rf_25_1, ln_25, rf_26_0, rf_26_1, rf_26_2, rf_26_3, ln_27, ln_28, ln_29, rf_30_0, ln_31, rf_32_0, rf_32_1, rf_32_2, rf_32_3, ln_33, ln_34, ln_35, ln_36, rf_37_0, ln_38, rf_39_0, ln_40, ln_41, e1, i0, iI_lt, iI_le, iI_eq, iI_in, iI_nat, iI_add, iI_sub]
      rw [if_pos (by omega)]
    · intro x r y s h
      cases h
  | succ k ih =>
    intro j lost hj h0 h1
    have b1 := atL_nat (show j < n.length by omega)
    have b2 := netOK_at ol (show j < n.length by omega)
    have c1 := atL_nat (show j < m.length by omega)
    have f1 := ih (j + 1) (lost + 1) (by omega) (by omega) (by omega)
    have f2 := ih (j + 1) lost (by omega) (by omega) (by omega)
    rw [Int.natCast_add, Int.natCast_one] at f1 f2
    rw [wX4_signForLost_4, drop_cons (show j < n.length by omega), drop_cons (show j < m.length by omega), slF]
    simp (disch := first | assumption | with_reducible exact kd_0 | with_reducible exact kd_1 | with_reducible exact kd_3 | with_reducible exact kd_25 | with_reducible exact kd_26 | with_reducible exact kd_32 | with_reducible exact kd_30 | with_reducible exact kd_37 | with_reducible exact kd_39 | with_reducible exact kd_41 | with_reducible exact kd_2 | with_reducible exact kd_4 | with_reducible exact kd_5 | with_reducible exact kd_6 | with_reducible exact kd_27 | with_reducible exact kd_28 | with_reducible exact kd_29 | with_reducible exact kd_31 | with_reducible exact kd_33 | with_reducible exact kd_34 | with_reducible exact kd_35 | with_reducible exact kd_36 | with_reducible exact kd_38 | with_reducible exact kd_40 | with_reducible exact kd_86 | with_reducible exact kd_87 | with_reducible exact kd_88 | with_reducible exact kd_89 | with_reducible exact kd_90 | with_reducible exact kd_91 | with_reducible exact kd_92 | with_reducible exact kd_93 | with_reducible exact kd_94 | with_reducible exact kd_95 | with_reducible exact kd_96 | with_reducible exact kd_97 | with_reducible exact kd_98 | with_reducible exact kd_99 | with_reducible exact kd_100 | with_reducible exact kd_101 | with_reducible exact kd_102 | with_reducible exact kq_4 | with_reducible exact kq_6 | with_reducible exact kq_25 | omega) only [wX4_signForLost_0, wX4_signForLost_1, wX4_signForLost_2, wX4_signForLost_3, wX4_signForLost_5, wX4_signForLost_6, wX4_signForLost_9, wX4_signForLost_12, wX4_signForLost_15, wX4_signForLost_16, wX4_signForLost_19, wX4_signForLost_20, wX4_signForLost_23, wX4_signForLost_24, wX4_signForLost_27, wX4_signForLost_28, wX4_signForLost_29, wX4_signForLost_32, wX4_signForLost_33, wX4_signForLost_36, wX4_signForLost_37, wX4_signForLost_40, wX4_signForLost_41, wX4_signForLost_44, wX4_signForLost_47, wX4_signForLost_50, wX4_signForLost_52, psh_some, psh_none, rf_0_0, rf_0_1, rf_0_2, rf_0_3, rf_0_4, rf_0_5, rf_0_6, rf_0_7, rf_1_0, ln_2, rf_3_1, rf_3_2, rf_3_3, ln_4, ln_5, ln_6, rf_25_0, rf_25_1, ln_25, rf_26_0, rf_26_1, rf_26_2, rf_26_3, ln_27, ln_28, ln_29, rf_30_0, ln_31, rf_32_0, rf_32_1, rf_32_2, rf_32_3, ln_33, ln_34, ln_35, ln_36, rf_37_0, ln_38, rf_39_0, ln_40, ln_41, e1, i0, iI_lt, iI_le, iI_eq, iI_in, iI_nat, iI_add, iI_sub, at_spec isRw_37 hl, b1, at_spec isRw_39 hm, c1, f1, f2]
    rw [if_neg (by omega)]
    split
    · split <;> rfl
    · rfl
theorem slF_spec {m : List Int} {i : Int} (hl : Rw μ 37 n) (ol : netOK L n) (hL : 1 ≤ L ∧ L ≤ 3) (hm : Rw μ 39 m) (om : rowOK L m) (hlen : m.length = n.length) (hi1 : -2147483648 ≤ i) (hi2 : i < 2147483648) :
    Wp X (d + 1) 85 0 [.ref 0, .int (iI i), .retAddr 0, .retAddr 0] [] μ P = P (some (.int (iI (slF i n m 0)))) μ := by
  have f := slF_loop (X := X) (d := d) (P := P) hl ol hL hm om hlen hi1 hi2 n.length 0 0 (by omega) (by omega) (by omega)
  rw [Int.natCast_zero, List.drop_zero, List.drop_zero] at f
  simp (disch := first | assumption | with_reducible exact kd_0 | with_reducible exact kd_1 | with_reducible exact kd_3 | with_reducible exact kd_25 | with_reducible exact kd_26 | with_reducible exact kd_32 | with_reducible exact kd_30 | with_reducible exact kd_37 | with_reducible exact kd_39 | with_reducible exact kd_41 | with_reducible exact kd_2 | with_reducible exact kd_4 | with_reducible exact kd_5 | with_reducible exact kd_6 | with_reducible exact kd_27 | with_reducible exact kd_28 | with_reducible exact kd_29 | with_reducible exact kd_31 | with_reducible exact kd_33 | with_reducible exact kd_34 | with_reducible exact kd_35 | with_reducible exact kd_36 | with_reducible exact kd_38 | with_reducible exact kd_40 | with_reducible exact kd_86 | with_reducible exact kd_87 | with_reducible exact kd_88 | with_reducible exact kd_89 | with_reducible exact kd_90 | with_reducible exact kd_91 | with_reducible exact kd_92 | with_reducible exact kd_93 | with_reducible exact kd_94 | with_reducible exact kd_95 | with_reducible exact kd_96 | with_reducible exact kd_97 | with_reducible exact kd_98 | with_reducible exact kd_99 | with_reducible exact kd_100 | with_reducible exact kd_101 | with_reducible exact kd_102 | with_reducible exact kq_4 | with_reducible exact kq_6 | with_reducible exact kq_25 | omega) only [wX4_signForLost_0, wX4_signForLost_1, wX4_signForLost_2, wX4_signForLost_3, wX4_signForLost_5, wX4_signForLost_6, wX4_signForLost_9, wX4_signForLost_12, wX4_signForLost_15, wX4_signForLost_16, wX4_signForLost_19, wX4_signForLost_20, wX4_signForLost_23, wX4_signForLost_24, wX4_signForLost_27, wX4_signForLost_28, wX4_signForLost_29, wX4_signForLost_32, wX4_signForLost_33, wX4_signForLost_36, wX4_signForLost_37, wX4_signForLost_40, wX4_signForLost_41, wX4_signForLost_44, wX4_signForLost_47, wX4_signForLost_50, wX4_signForLost_52, psh_some, psh_none, f]
theorem slF_rg {L i : Int} (hL : 1 ≤ L ∧ L ≤ 3) : ∀ (n m : List Int) (lost : Int), (∀ x ∈ m, 0 ≤ x ∧ x < 2 * L) → -2 ≤ slF i n m lost ∧ slF i n m lost < 2 * L
  | [], m, lost, h => by
    rw [slF]
    · omega
    · intro x r y s h
      cases h
  | x :: r, [], lost, h => by
    rw [slF]
    · omega
    · intro x r y s _ h
      cases h
  | x :: r, y :: s, lost, h => by
    have hy := h y List.mem_cons_self
    have hs : ∀ x ∈ s, 0 ≤ x ∧ x < 2 * L := fun z hz => h z (List.mem_cons_of_mem _ hz)
    rw [slF]
    split
    · split
      · omega
      · exact slF_rg hL r s _ hs
    · exact slF_rg hL r s _ hs
end WO
