/-! the class: worn rows, the pieces -/
def netOK (L : Int) (n : List Int) : Prop := n.length ≤ 6 ∧ ∀ x ∈ n, -1 ≤ x ∧ x < 2 * L
def cfF (S : Int) : List Int → Int → Int
  | [], m => m
  | x :: r, m => cfF S r (if x = -1 then m * S else m)
def flR (S : Int) : List Int → Int → List Int × Int
  | [], f => ([], f)
  | x :: r, f => if x = -1 then ((flR S r f).2 % S :: (flR S r f).1, (flR S r f).2 / S) else (x :: (flR S r f).1, (flR S r f).2)
def flF (S : Int) (n : List Int) (f : Int) : List Int := (flR S n f).1
def slF (i : Int) : List Int → List Int → Int → Int
  | x :: r, y :: s, lost => if x = -1 then (if lost = i then y else slF i r s (lost + 1)) else slF i r s lost
  | _, _, _ => -2
theorem flR_rg {S f : Int} (hS : 1 ≤ S) (hf : 0 ≤ f) : ∀ n, 0 ≤ (flR S n f).2 ∧ (flR S n f).2 ≤ f
  | [] => ⟨hf, Int.le_refl _⟩
  | x :: r => by
    have h := flR_rg hS hf r
    rw [flR]
    split
    · dsimp only
      have h1 := Int.ediv_nonneg h.1 (show 0 ≤ S by omega)
      have h2 := Int.ediv_le_self S h.1
      omega
    · exact h
theorem flR_len {S f : Int} : ∀ n, (flR S n f).1.length = n.length
  | [] => rfl
  | x :: r => by
    rw [flR]
    split <;> simp only [List.length_cons, flR_len r]
theorem flF_OK {L f : Int} {n : List Int} (hL : 1 ≤ L ∧ L ≤ 3) (h : netOK L n) : rowOK L (flF (2 * L) n f) := by
  refine ⟨by unfold flF; rw [flR_len]; exact h.1, ?_⟩
  have key : ∀ n : List Int, (∀ x ∈ n, -1 ≤ x ∧ x < 2 * L) → ∀ x ∈ (flR (2 * L) n f).1, 0 ≤ x ∧ x < 2 * L := by
    intro n
    induction n with
    | nil =>
      intro _ x hx
      cases hx
    | cons y r ih =>
      intro h x hx
      have ih' := ih (fun z hz => h z (List.mem_cons_of_mem _ hz))
      have hy := h y List.mem_cons_self
      rw [flR] at hx
      split at hx
      · rcases List.mem_cons.mp hx with hx | hx
        · rw [hx]
          exact ⟨Int.emod_nonneg _ (by omega), Int.emod_lt_of_pos _ (by omega)⟩
        · exact ih' x hx
      · rcases List.mem_cons.mp hx with hx | hx
        · rw [hx]
          omega
        · exact ih' x hx
  exact key n h.2
section WO
variable {X : Env0} {d : Nat} {μ : Mem} {P : Option Value → Mem → Prop} {L : Int} {n : List Int}
theorem netOK_at {i : Nat} (h : netOK L n) (hi : i < n.length) : -1 ≤ n.getD i 0 ∧ n.getD i 0 < 2 * L := h.2 _ (getD_mem hi)
theorem count_loop (h : μ 3 0 = iI (L + 1)) (hL : 1 ≤ L ∧ L ≤ 3) (hl : Rw μ 37 n) (ol : netOK L n) : ∀ (k i : Nat) (m : Int), k + i = n.length →
    Wp X (d + 2) 83 4 [.ref 0, .int (iI m), .int (iI i)] [] μ P = P (some (.int (iI (cfF (2 * L) (n.drop i) m)))) μ := by
  have e1 := hl.2.1
  have e3 := ol.1
  intro k
  induction k with
  | zero =>
    intro i m hi
    rw [wX4_countFillings_4, List.drop_of_length_le (by omega)]
    simp (disch := first | assumption | with_reducible exact kd_0 | with_reducible exact kd_1 | with_reducible exact kd_3 | with_reducible exact kd_25 | with_reducible exact kd_26 | with_reducible exact kd_32 | with_reducible exact kd_30 | with_reducible exact kd_37 | with_reducible exact kd_39 | with_reducible exact kd_41 | with_reducible exact kd_2 | with_reducible exact kd_4 | with_reducible exact kd_5 | with_reducible exact kd_6 | with_reducible exact kd_27 | with_reducible exact kd_28 | with_reducible exact kd_29 | with_reducible exact kd_31 | with_reducible exact kd_33 | with_reducible exact kd_34 | with_reducible exact kd_35 | with_reducible exact kd_36 | with_reducible exact kd_38 | with_reducible exact kd_40 | with_reducible exact kd_86 | with_reducible exact kd_87 | with_reducible exact kd_88 | with_reducible exact kd_89 | with_reducible exact kd_90 | with_reducible exact kd_91 | with_reducible exact kd_92 | with_reducible exact kd_93 | with_reducible exact kd_94 | with_reducible exact kd_95 | with_reducible exact kd_96 | with_reducible exact kd_97 | with_reducible exact kd_98 | with_reducible exact kd_99 | with_reducible exact kd_100 | with_reducible exact kd_101 | with_reducible exact kd_102 | with_reducible exact kq_4 | with_reducible exact kq_6 | with_reducible exact kq_25 | omega) only [wX4_countFillings_0, wX4_countFillings_1, wX4_countFillings_2, wX4_countFillings_3, wX4_countFillings_5, wX4_countFillings_6, wX4_countFillings_9, wX4_countFillings_12, wX4_countFillings_15, wX4_countFillings_16, wX4_countFillings_19, wX4_countFillings_20, wX4_countFillings_23, wX4_countFillings_24, wX4_countFillings_27, wX4_countFillings_28, wX4_countFillings_29, wX4_countFillings_32, wX4_countFillings_35, wX4_countFillings_36, wX4_countFillings_37, wX4_countFillings_40, wX4_countFillings_43, wX4_countFillings_44, psh_some, psh_none, rf_0_0, rf_0_1, rf_0_2, rf_0_3, rf_0_4, rf_0_5, rf_0_6, rf_0_7, rf_1_0, ln_2, rf_3_1, rf_3_2, rf_3_3, ln_4, ln_5, ln_6, rf_25_0, rf_25_1, ln_25, rf_26_0, rf_26_1, rf_26_2, rf_26_3, ln_27, ln_28, ln_29, rf_30_0, ln_31, rf_32_0, rf_32_1, rf_32_2, rf_32_3, ln_33, ln_34, ln_35, ln_36, rf_37_0, ln_38, rf_39_0, ln_40, ln_41, e1, i0, iI_lt, iI_le, iI_eq, iI_in, iI_nat, iI_add, iI_sub]
    rw [if_pos (by omega)]
    rfl
  | succ k ih =>
    intro i m hi
    have b1 := atL_nat (show i < n.length by omega)
    have b2 := netOK_at ol (show i < n.length by omega)
    have f := fun m => ih (i + 1) m (by omega)
    rw [Int.natCast_add, Int.natCast_one] at f
    rw [wX4_countFillings_4, drop_cons (show i < n.length by omega), cfF]
    simp (disch := first | assumption | with_reducible exact kd_0 | with_reducible exact kd_1 | with_reducible exact kd_3 | with_reducible exact kd_25 | with_reducible exact kd_26 | with_reducible exact kd_32 | with_reducible exact kd_30 | with_reducible exact kd_37 | with_reducible exact kd_39 | with_reducible exact kd_41 | with_reducible exact kd_2 | with_reducible exact kd_4 | with_reducible exact kd_5 | with_reducible exact kd_6 | with_reducible exact kd_27 | with_reducible exact kd_28 | with_reducible exact kd_29 | with_reducible exact kd_31 | with_reducible exact kd_33 | with_reducible exact kd_34 | with_reducible exact kd_35 | with_reducible exact kd_36 | with_reducible exact kd_38 | with_reducible exact kd_40 | with_reducible exact kd_86 | with_reducible exact kd_87 | with_reducible exact kd_88 | with_reducible exact kd_89 | with_reducible exact kd_90 | with_reducible exact kd_91 | with_reducible exact kd_92 | with_reducible exact kd_93 | with_reducible exact kd_94 | with_reducible exact kd_95 | with_reducible exact kd_96 | with_reducible exact kd_97 | with_reducible exact kd_98 | with_reducible exact kd_99 | with_reducible exact kd_100 | with_reducible exact kd_101 | with_reducible exact kd_102 | with_reducible exact kq_4 | with_reducible exact kq_6 | with_reducible exact kq_25 | omega) only [wX4_countFillings_0, wX4_countFillings_1, wX4_countFillings_2, wX4_countFillings_3, wX4_countFillings_5, wX4_countFillings_6, wX4_countFillings_9, wX4_countFillings_12, wX4_countFillings_15, wX4_countFillings_16, wX4_countFillings_19, wX4_countFillings_20, wX4_countFillings_23, wX4_countFillings_24, wX4_countFillings_27, wX4_countFillings_28, wX4_countFillings_29, wX4_countFillings_32, wX4_countFillings_35, wX4_countFillings_36, wX4_countFillings_37, wX4_countFillings_40, wX4_countFillings_43, wX4_countFillings_44, psh_some, psh_none, rf_0_0, rf_0_1, rf_0_2, rf_0_3, rf_0_4, rf_0_5, rf_0_6, rf_0_7, rf_1_0, ln_2, rf_3_1, rf_3_2, rf_3_3, ln_4, ln_5, ln_6, rf_25_0, rf_25_1, ln_25, rf_26_0, rf_26_1, rf_26_2, rf_26_3, ln_27, ln_28, ln_29, rf_30_0, ln_31, rf_32_0, rf_32_1, rf_32_2, rf_32_3, ln_33, ln_34, ln_35, ln_36, rf_37_0, ln_38, rf_39_0, ln_40, ln_41, e1, i0, iI_lt, iI_le, iI_eq, iI_in, iI_nat, iI_add, iI_sub, at_spec isRw_37 hl, b1, signs_spec h, iI_mul, f]
    rw [if_neg (by omega)]
    split <;> rfl
theorem count_spec (h : μ 3 0 = iI (L + 1)) (hL : 1 ≤ L ∧ L ≤ 3) (hl : Rw μ 37 n) (ol : netOK L n) :
    Wp X (d + 2) 83 0 [.ref 0, .retAddr 0, .retAddr 0] [] μ P = P (some (.int (iI (cfF (2 * L) n 1)))) μ := by
  have f := count_loop (X := X) (d := d) (P := P) h hL hl ol n.length 0 1 (by omega)
  rw [Int.natCast_zero, List.drop_zero] at f
  simp (disch := first | assumption | with_reducible exact kd_0 | with_reducible exact kd_1 | with_reducible exact kd_3 | with_reducible exact kd_25 | with_reducible exact kd_26 | with_reducible exact kd_32 | with_reducible exact kd_30 | with_reducible exact kd_37 | with_reducible exact kd_39 | with_reducible exact kd_41 | with_reducible exact kd_2 | with_reducible exact kd_4 | with_reducible exact kd_5 | with_reducible exact kd_6 | with_reducible exact kd_27 | with_reducible exact kd_28 | with_reducible exact kd_29 | with_reducible exact kd_31 | with_reducible exact kd_33 | with_reducible exact kd_34 | with_reducible exact kd_35 | with_reducible exact kd_36 | with_reducible exact kd_38 | with_reducible exact kd_40 | with_reducible exact kd_86 | with_reducible exact kd_87 | with_reducible exact kd_88 | with_reducible exact kd_89 | with_reducible exact kd_90 | with_reducible exact kd_91 | with_reducible exact kd_92 | with_reducible exact kd_93 | with_reducible exact kd_94 | with_reducible exact kd_95 | with_reducible exact kd_96 | with_reducible exact kd_97 | with_reducible exact kd_98 | with_reducible exact kd_99 | with_reducible exact kd_100 | with_reducible exact kd_101 | with_reducible exact kd_102 | with_reducible exact kq_4 | with_reducible exact kq_6 | with_reducible exact kq_25 | omega) only [wX4_countFillings_0, wX4_countFillings_1, wX4_countFillings_2, wX4_countFillings_3, wX4_countFillings_5, wX4_countFillings_6, wX4_countFillings_9, wX4_countFillings_12, wX4_countFillings_15, wX4_countFillings_16, wX4_countFillings_19, wX4_countFillings_20, wX4_countFillings_23, wX4_countFillings_24, wX4_countFillings_27, wX4_countFillings_28, wX4_countFillings_29, wX4_countFillings_32, wX4_countFillings_35, wX4_countFillings_36, wX4_countFillings_37, wX4_countFillings_40, wX4_countFillings_43, wX4_countFillings_44, psh_some, psh_none, f]
theorem set_mid {a b : List Int} {x y : Int} : (a ++ x :: b).set a.length y = a ++ y :: b := by
  rw [List.set_append_right _ _ (Nat.le_refl _), Nat.sub_self, List.set_cons_zero]
theorem fill_loop {f : Int} {w : Value} (h : μ 3 0 = iI (L + 1)) (hL : 1 ≤ L ∧ L ≤ 3) (hl : Rw μ 37 n) (ol : netOK L n) (hf : 0 ≤ f ∧ f ≤ 1000) (hk : ∀ μ', Rw μ' 39 (flF (2 * L) n f) → (∀ c, ¬ c = 39 → ¬ c = 40 → μ' c = μ c) → P none μ') : ∀ (k : Nat) (i : Int) (μ' : Mem), i = k - 1 → k ≤ n.length →
    Rw μ' 39 (n.take k ++ (flR (2 * L) (n.drop k) f).1) → (∀ c, ¬ c = 39 → ¬ c = 40 → μ' c = μ c) →
    Wp X (d + 2) 84 23 [.ref 0, w, .int (iI (flR (2 * L) (n.drop k) f).2), .int (iI i)] [] μ' P := by
  have e3 := ol.1
  intro k
  induction k with
  | zero =>
    intro i μ' hi hk2 h1 h2
    rw [wX4_fillLost_23]
    simp (disch := first | assumption | with_reducible exact kd_0 | with_reducible exact kd_1 | with_reducible exact kd_3 | with_reducible exact kd_25 | with_reducible exact kd_26 | with_reducible exact kd_32 | with_reducible exact kd_30 | with_reducible exact kd_37 | with_reducible exact kd_39 | with_reducible exact kd_41 | with_reducible exact kd_2 | with_reducible exact kd_4 | with_reducible exact kd_5 | with_reducible exact kd_6 | with_reducible exact kd_27 | with_reducible exact kd_28 | with_reducible exact kd_29 | with_reducible exact kd_31 | with_reducible exact kd_33 | with_reducible exact kd_34 | with_reducible exact kd_35 | with_reducible exact kd_36 | with_reducible exact kd_38 | with_reducible exact kd_40 | with_reducible exact kd_86 | with_reducible exact kd_87 | with_reducible exact kd_88 | with_reducible exact kd_89 | with_reducible exact kd_90 | with_reducible exact kd_91 | with_reducible exact kd_92 | with_reducible exact kd_93 | with_reducible exact kd_94 | with_reducible exact kd_95 | with_reducible exact kd_96 | with_reducible exact kd_97 | with_reducible exact kd_98 | with_reducible exact kd_99 | with_reducible exact kd_100 | with_reducible exact kd_101 | with_reducible exact kd_102 | with_reducible exact kq_4 | with_reducible exact kq_6 | with_reducible exact kq_25 | omega) only [wX4_fillLost_0, wX4_fillLost_1, wX4_fillLost_2, wX4_fillLost_3, wX4_fillLost_6, wX4_fillLost_7, wX4_fillLost_10, wX4_fillLost_13, wX4_fillLost_14, wX4_fillLost_17, wX4_fillLost_20, wX4_fillLost_21, wX4_fillLost_22, wX4_fillLost_24, wX4_fillLost_27, wX4_fillLost_28, wX4_fillLost_31, wX4_fillLost_32, wX4_fillLost_35, wX4_fillLost_36, wX4_fillLost_39, wX4_fillLost_40, wX4_fillLost_43, wX4_fillLost_44, wX4_fillLost_45, wX4_fillLost_46, wX4_fillLost_49, wX4_fillLost_52, wX4_fillLost_55, wX4_fillLost_58, wX4_fillLost_59, wX4_fillLost_60, wX4_fillLost_63, wX4_fillLost_66, wX4_fillLost_69, wX4_fillLost_70, wX4_fillLost_73, wX4_fillLost_76, psh_some, psh_none, rf_0_0, rf_0_1, rf_0_2, rf_0_3, rf_0_4, rf_0_5, rf_0_6, rf_0_7, rf_1_0, ln_2, rf_3_1, rf_3_2, rf_3_3, ln_4, ln_5, ln_6, rf_25_0, rf_25_1, ln_25, rf_26_0, rf_26_1, rf_26_2, rf_26_3, ln_27, ln_28, ln_29, rf_30_0, ln_31, rf_32_0, rf_32_1, rf_32_2, rf_32_3, ln_33, ln_34, ln_35, ln_36, rf_37_0, ln_38, rf_39_0, ln_40, ln_41, i0, iI_lt, iI_le, iI_eq, iI_in, iI_nat, iI_add, iI_sub]
    rw [if_pos (by omega)]
    exact hk μ' h1 h2
  | succ k ih =>
    intro i μ' hi hk2 h1 h2
    have hik : i = k := by omega
    subst hik
    have hl' : Rw μ' 37 n := hl.fr (h2 37 (by omega) (by omega)) (h2 38 (by omega) (by omega))
    have e1 : μ' 3 0 = iI (L + 1) := by rw [h2 3 (by omega) (by omega)]; exact h
    have b1 := atL_nat (show k < n.length by omega)
    have b2 := netOK_at ol (show k < n.length by omega)
    have hrg := flR_rg (S := 2 * L) (by omega) hf.1 (n.drop (k + 1))
    have hln := flR_len (S := 2 * L) (f := f) (n.drop (k + 1))
    have htk : (n.take k).length = k := by rw [List.length_take]; omega
    rw [take_snoc2 (by omega), List.append_assoc, List.singleton_append] at h1
    have ih' := ih (k - 1 : Int)
    rw [drop_cons (show k < n.length by omega), flR] at ih'
    rw [wX4_fillLost_23]
    by_cases c : n.getD k 0 = -1
    · rw [if_pos c] at ih'
      have hp := h1.put (i := k) (x := (flR (2 * L) (n.drop (k + 1)) f).2 % (2 * L)) (by rw [List.length_append, List.length_cons, htk]; omega)
      have hset := set_mid (a := n.take k) (b := (flR (2 * L) (n.drop (k + 1)) f).1) (x := n.getD k 0) (y := (flR (2 * L) (n.drop (k + 1)) f).2 % (2 * L))
      rw [htk] at hset
      rw [hset] at hp
      have g := ih' _ rfl (by omega) hp (fun c c1 c2 => by rw [u2_cell c2]; exact h2 c c1 c2)
      have e1' : ∀ x, u2 μ' (39 + 1) k x 3 0 = iI (L + 1) := fun x => by
        rw [u2_c (by omega)]
        exact e1
      have hlen : k < (n.take k ++ n.getD k 0 :: (flR (2 * L) (n.drop (k + 1)) f).1).length := by
        rw [List.length_append, List.length_cons, htk]
        omega
      simp (disch := first | assumption | with_reducible exact kd_0 | with_reducible exact kd_1 | with_reducible exact kd_3 | with_reducible exact kd_25 | with_reducible exact kd_26 | with_reducible exact kd_32 | with_reducible exact kd_30 | with_reducible exact kd_37 | with_reducible exact kd_39 | with_reducible exact kd_41 | with_reducible exact kd_2 | with_reducible exact kd_4 | with_reducible exact kd_5 | with_reducible exact kd_6 | with_reducible exact kd_27 | with_reducible exact kd_28 | with_reducible exact kd_29 | with_reducible exact kd_31 | with_reducible exact kd_33 | with_reducible exact kd_34 | with_reducible exact kd_35 | with_reducible exact kd_36 | with_reducible exact kd_38 | with_reducible exact kd_40 | with_reducible exact kd_86 | with_reducible exact kd_87 | with_reducible exact kd_88 | with_reducible exact kd_89 | with_reducible exact kd_90 | with_reducible exact kd_91 | with_reducible exact kd_92 | with_reducible exact kd_93 | with_reducible exact kd_94 | with_reducible exact kd_95 | with_reducible exact kd_96 | with_reducible exact kd_97 | with_reducible exact kd_98 | with_reducible exact kd_99 | with_reducible exact kd_100 | with_reducible exact kd_101 | with_reducible exact kd_102 | with_reducible exact kq_4 | with_reducible exact kq_6 | with_reducible exact kq_25 | omega) only [wX4_fillLost_0, wX4_fillLost_1, wX4_fillLost_2, wX4_fillLost_3, wX4_fillLost_6, wX4_fillLost_7, wX4_fillLost_10, wX4_fillLost_13, wX4_fillLost_14, wX4_fillLost_17, wX4_fillLost_20, wX4_fillLost_21, wX4_fillLost_22, wX4_fillLost_24, wX4_fillLost_27, wX4_fillLost_28, wX4_fillLost_31, wX4_fillLost_32, wX4_fillLost_35, wX4_fillLost_36, wX4_fillLost_39, wX4_fillLost_40, wX4_fillLost_43, wX4_fillLost_44, wX4_fillLost_45, wX4_fillLost_46, wX4_fillLost_49, wX4_fillLost_52, wX4_fillLost_55, wX4_fillLost_58, wX4_fillLost_59, wX4_fillLost_60, wX4_fillLost_63, wX4_fillLost_66, wX4_fillLost_69, wX4_fillLost_70, wX4_fillLost_73, wX4_fillLost_76, psh_some, psh_none, rf_0_0, rf_0_1, rf_0_2, rf_0_3, rf_0_4, rf_0_5, rf_0_6, rf_0_7, rf_1_0, ln_2, rf_3_1, rf_3_2, rf_3_3, ln_4, ln_5, ln_6, rf_25_0, rf_25_1, ln_25, rf_26_0, rf_26_1, rf_26_2, rf_26_3, ln_27, ln_28, ln_29, rf_30_0, ln_31, rf_32_0, rf_32_1, rf_32_2, rf_32_3, ln_33, ln_34, ln_35, ln_36, rf_37_0, ln_38, rf_39_0, ln_40, ln_41, i0, iI_lt, iI_le, iI_eq, iI_in, iI_nat, iI_add, iI_sub, at_spec isRw_37 hl', b1, signs_spec e1, leftOver_spec, put_spec isRw_39 h1, Int.toNat_natCast, signs_spec (e1' _), cut_spec]
      rw [if_neg (by omega), if_pos c]
      exact g
    · rw [if_neg c] at ih'
      have g := ih' μ' rfl (by omega) h1 h2
      simp (disch := first | assumption | with_reducible exact kd_0 | with_reducible exact kd_1 | with_reducible exact kd_3 | with_reducible exact kd_25 | with_reducible exact kd_26 | with_reducible exact kd_32 | with_reducible exact kd_30 | with_reducible exact kd_37 | with_reducible exact kd_39 | with_reducible exact kd_41 | with_reducible exact kd_2 | with_reducible exact kd_4 | with_reducible exact kd_5 | with_reducible exact kd_6 | with_reducible exact kd_27 | with_reducible exact kd_28 | with_reducible exact kd_29 | with_reducible exact kd_31 | with_reducible exact kd_33 | with_reducible exact kd_34 | with_reducible exact kd_35 | with_reducible exact kd_36 | with_reducible exact kd_38 | with_reducible exact kd_40 | with_reducible exact kd_86 | with_reducible exact kd_87 | with_reducible exact kd_88 | with_reducible exact kd_89 | with_reducible exact kd_90 | with_reducible exact kd_91 | with_reducible exact kd_92 | with_reducible exact kd_93 | with_reducible exact kd_94 | with_reducible exact kd_95 | with_reducible exact kd_96 | with_reducible exact kd_97 | with_reducible exact kd_98 | with_reducible exact kd_99 | with_reducible exact kd_100 | with_reducible exact kd_101 | with_reducible exact kd_102 | with_reducible exact kq_4 | with_reducible exact kq_6 | with_reducible exact kq_25 | omega) only [wX4_fillLost_0, wX4_fillLost_1, wX4_fillLost_2, wX4_fillLost_3, wX4_fillLost_6, wX4_fillLost_7, wX4_fillLost_10, wX4_fillLost_13, wX4_fillLost_14, wX4_fillLost_17, wX4_fillLost_20, wX4_fillLost_21, wX4_fillLost_22, wX4_fillLost_24, wX4_fillLost_27, wX4_fillLost_28, wX4_fillLost_31, wX4_fillLost_32, wX4_fillLost_35, wX4_fillLost_36, wX4_fillLost_40, wX4_fillLost_43, wX4_fillLost_44, wX4_fillLost_45, wX4_fillLost_46, wX4_fillLost_49, wX4_fillLost_52, wX4_fillLost_55, wX4_fillLost_58, wX4_fillLost_59, wX4_fillLost_60, wX4_fillLost_63, wX4_fillLost_66, wX4_fillLost_69, wX4_fillLost_70, wX4_fillLost_73, wX4_fillLost_76, psh_some, psh_none, rf_0_0, rf_0_1, rf_0_2, rf_0_3, rf_0_4, rf_0_5, rf_0_6, rf_0_7, rf_1_0, ln_2, rf_3_1, rf_3_2, rf_3_3, ln_4, ln_5, ln_6, rf_25_0, rf_25_1, ln_25, rf_26_0, rf_26_1, rf_26_2, rf_26_3, ln_27, ln_28, ln_29, rf_30_0, ln_31, rf_32_0, rf_32_1, rf_32_2, rf_32_3, ln_33, ln_34, ln_35, ln_36, rf_37_0, ln_38, rf_39_0, ln_40, ln_41, i0, iI_lt, iI_le, iI_eq, iI_in, iI_nat, iI_add, iI_sub, at_spec isRw_37 hl', b1]
      rw [if_neg (by omega), if_neg c]
      exact g
end WO
