/-! the model: numbers of rows -/
def pwS (S : Int) : Nat → Int
  | 0 => 1
  | k + 1 => pwS S k * S
def sh (L : Int) : Nat → Int
  | 0 => 0
  | k + 1 => sh L k + pwS (2 * L) k
theorem sh_rec {L : Int} : ∀ k, sh L (k + 1) = sh L k * (2 * L) + 1
  | 0 => by
    show 0 + 1 = (0 : Int) * (2 * L) + 1
    rw [Int.zero_mul]
  | k + 1 => by
    rw [sh, sh_rec k, pwS, Int.add_mul, Int.one_mul]
    have h : sh L k * (2 * L) * (2 * L) + 1 * (2 * L) = (sh L k * (2 * L) + 1) * (2 * L) := by rw [Int.add_mul]
    have e := sh_rec (L := L) k
    rw [sh] at e
    have e2 : pwS (2 * L) k = sh L k * (2 * L) + 1 - sh L k := by omega
    rw [e2, Int.sub_mul, Int.add_mul, Int.one_mul]
    omega
def vl (L : Int) (l : List Int) : Int := numL L l - sh L l.length
theorem vl_s {L x : Int} {l : List Int} (hx : 0 ≤ x) : vl L (l ++ [x]) = vl L l * (2 * L) + x := by
  unfold vl
  rw [numL_s hx, List.length_append, List.length_singleton, sh_rec, Int.sub_mul]
  omega
theorem vl_0 {L : Int} : vl L [] = 0 := rfl
theorem vl_rg {L : Int} (hL : 1 ≤ L ∧ L ≤ 3) : ∀ (k : Nat) (l : List Int), l.length = k → (∀ x ∈ l, 0 ≤ x ∧ x < 2 * L) → 0 ≤ vl L l ∧ numL L l < sh L (l.length + 1)
  | 0, l, hk, _ => by
    rw [List.eq_nil_of_length_eq_zero hk]
    exact ⟨Int.le_refl 0, by show (0 : Int) < 0 + 1; decide⟩
  | k + 1, l, hk, hl => by
    rcases rev_cases l with rfl | ⟨r, x, rfl⟩
    · cases hk
    · have hx := hl x (by simp)
      rw [List.length_append, List.length_singleton] at hk
      obtain ⟨h1, h2⟩ := vl_rg hL k r (by omega) (fun y hy => hl y (List.mem_append_left _ hy))
      rw [vl_s hx.1, numL_s hx.1, List.length_append, List.length_singleton, sh_rec]
      generalize sh L (r.length + 1) = s at h2
      generalize vl L r = v at h1
      generalize numL L r = n at h2
      rcases (show L = 1 ∨ L = 2 ∨ L = 3 by omega) with e | e | e <;> subst e <;> omega
theorem vl_step {L x : Int} {l : List Int} (hL : 1 ≤ L ∧ L ≤ 3) (hx : 0 ≤ x ∧ x < 2 * L) : vl L (l ++ [x]) % (2 * L) = x ∧ vl L (l ++ [x]) / (2 * L) = vl L l := by
  rw [vl_s hx.1]
  generalize vl L l = n
  rcases (show L = 1 ∨ L = 2 ∨ L = 3 by omega) with e | e | e <;> subst e <;> omega
theorem sh_rg {L : Int} (hL : 1 ≤ L ∧ L ≤ 3) {k : Nat} (hk : k ≤ 7) : 0 ≤ sh L k ∧ sh L k ≤ 55987 := by
  have : k = 0 ∨ k = 1 ∨ k = 2 ∨ k = 3 ∨ k = 4 ∨ k = 5 ∨ k = 6 ∨ k = 7 := by omega
  rcases (show L = 1 ∨ L = 2 ∨ L = 3 by omega) with e | e | e <;> subst e <;> rcases this with e | e | e | e | e | e | e | e <;> subst e <;> decide
theorem sh_mono {L : Int} (hL : 1 ≤ L ∧ L ≤ 3) : ∀ (j k : Nat), sh L k ≤ sh L (j + k)
  | 0, k => by rw [Nat.zero_add]; exact Int.le_refl _
  | j + 1, k => by
    have h := sh_mono hL j k
    have h0 := sh_mono hL j 0
    rw [Nat.add_zero] at h0
    have h1 : sh L 0 = 0 := rfl
    rw [Nat.add_right_comm, sh_rec]
    have h3 : 0 ≤ sh L (j + k) := by
      have := sh_mono hL j 0
      have h4 : ∀ n, 0 ≤ sh L n := by
        intro n
        induction n with
        | zero => exact Int.le_refl _
        | succ n ih =>
          rw [sh_rec]
          generalize sh L n = s at ih
          rcases (show L = 1 ∨ L = 2 ∨ L = 3 by omega) with e | e | e <;> subst e <;> omega
      exact h4 _
    generalize sh L (j + k) = s at h h3
    rcases (show L = 1 ∨ L = 2 ∨ L = 3 by omega) with e | e | e <;> subst e <;> omega
section MN
variable {X : Env0} {d : Nat} {μ : Mem} {P : Option Value → Mem → Prop} {L : Int} {l : List Int}
theorem m_shorter_loop {n : Nat} (e0 : μ 86 0 = iI (L + 1)) (hn : n ≤ 7) : ∀ (k i : Nat), k + i = n →
    Wp X (d + 1) 112 7 [.ref 86, .int (iI n), .int (iI (sh L i)), .int (iI (pwS (2 * L) i)), .int (iI i)] [] μ P = P (some (.int (iI (sh L n)))) μ := by
  intro k
  induction k with
  | zero =>
    intro i hi
    have hi2 : i = n := by omega
    subst hi2
    rw [wX5_shorter_7]
    simp (disch := first | assumption | with_reducible exact kd_0 | with_reducible exact kd_1 | with_reducible exact kd_3 | with_reducible exact kd_25 | with_reducible exact kd_26 | with_reducible exact kd_32 | with_reducible exact kd_30 | with_reducible exact kd_37 | with_reducible exact kd_39 | with_reducible exact kd_41 | with_reducible exact kd_2 | with_reducible exact kd_4 | with_reducible exact kd_5 | with_reducible exact kd_6 | with_reducible exact kd_27 | with_reducible exact kd_28 | with_reducible exact kd_29 | with_reducible exact kd_31 | with_reducible exact kd_33 | with_reducible exact kd_34 | with_reducible exact kd_35 | with_reducible exact kd_36 | with_reducible exact kd_38 | with_reducible exact kd_40 | with_reducible exact kd_86 | with_reducible exact kd_87 | with_reducible exact kd_88 | with_reducible exact kd_89 | with_reducible exact kd_90 | with_reducible exact kd_91 | with_reducible exact kd_92 | with_reducible exact kd_93 | with_reducible exact kd_94 | with_reducible exact kd_95 | with_reducible exact kd_96 | with_reducible exact kd_97 | with_reducible exact kd_98 | with_reducible exact kd_99 | with_reducible exact kd_100 | with_reducible exact kd_101 | with_reducible exact kd_102 | with_reducible exact kq_4 | with_reducible exact kq_6 | with_reducible exact kq_25 | omega) only [wX5_shorter_0, wX5_shorter_1, wX5_shorter_2, wX5_shorter_3, wX5_shorter_4, wX5_shorter_5, wX5_shorter_9, wX5_shorter_10, wX5_shorter_14, wX5_shorter_15, wX5_shorter_16, wX5_shorter_17, wX5_shorter_18, wX5_shorter_19, wX5_shorter_22, wX5_shorter_23, wX5_shorter_24, wX5_shorter_27, wX5_shorter_30, wX5_shorter_31, psh_some, psh_none, rf_86_2, rf_86_3, rf_86_5, rf_86_6, rf_86_8, rf_86_9, rf_86_11, rf_86_12, rf_86_14, rf_86_16, rf_86_17, rf_86_18, rf_86_21, rf_86_22, rf_86_23, rf_86_24, ln_87, ln_88, ln_89, ln_90, ln_91, ln_92, ln_93, ln_94, ln_95, ln_96, ln_97, ln_98, ln_99, ln_100, ln_101, ln_102, i0, iI_lt, iI_le, iI_eq, iI_in, iI_nat, iI_add, iI_sub]
    rw [if_pos (by omega)]
  | succ k ih =>
    intro i hi
    have f := ih (i + 1) (by omega)
    rw [sh, pwS, Int.natCast_add, Int.natCast_one] at f
    rw [wX5_shorter_7]
    simp (disch := first | assumption | with_reducible exact kd_0 | with_reducible exact kd_1 | with_reducible exact kd_3 | with_reducible exact kd_25 | with_reducible exact kd_26 | with_reducible exact kd_32 | with_reducible exact kd_30 | with_reducible exact kd_37 | with_reducible exact kd_39 | with_reducible exact kd_41 | with_reducible exact kd_2 | with_reducible exact kd_4 | with_reducible exact kd_5 | with_reducible exact kd_6 | with_reducible exact kd_27 | with_reducible exact kd_28 | with_reducible exact kd_29 | with_reducible exact kd_31 | with_reducible exact kd_33 | with_reducible exact kd_34 | with_reducible exact kd_35 | with_reducible exact kd_36 | with_reducible exact kd_38 | with_reducible exact kd_40 | with_reducible exact kd_86 | with_reducible exact kd_87 | with_reducible exact kd_88 | with_reducible exact kd_89 | with_reducible exact kd_90 | with_reducible exact kd_91 | with_reducible exact kd_92 | with_reducible exact kd_93 | with_reducible exact kd_94 | with_reducible exact kd_95 | with_reducible exact kd_96 | with_reducible exact kd_97 | with_reducible exact kd_98 | with_reducible exact kd_99 | with_reducible exact kd_100 | with_reducible exact kd_101 | with_reducible exact kd_102 | with_reducible exact kq_4 | with_reducible exact kq_6 | with_reducible exact kq_25 | omega) only [wX5_shorter_0, wX5_shorter_1, wX5_shorter_2, wX5_shorter_3, wX5_shorter_4, wX5_shorter_5, wX5_shorter_9, wX5_shorter_10, wX5_shorter_13, wX5_shorter_14, wX5_shorter_15, wX5_shorter_16, wX5_shorter_17, wX5_shorter_18, wX5_shorter_19, wX5_shorter_22, wX5_shorter_23, wX5_shorter_24, wX5_shorter_27, wX5_shorter_30, wX5_shorter_31, psh_some, psh_none, rf_86_2, rf_86_3, rf_86_5, rf_86_6, rf_86_8, rf_86_9, rf_86_11, rf_86_12, rf_86_14, rf_86_16, rf_86_17, rf_86_18, rf_86_21, rf_86_22, rf_86_23, rf_86_24, ln_87, ln_88, ln_89, ln_90, ln_91, ln_92, ln_93, ln_94, ln_95, ln_96, ln_97, ln_98, ln_99, ln_100, ln_101, ln_102, i0, iI_lt, iI_le, iI_eq, iI_in, iI_nat, iI_add, iI_sub, iI_mul, m_kinds e0, f]
    rw [if_neg (by omega)]
theorem m_shorter {z : Int} {n : Nat} (e0 : μ 86 0 = iI (L + 1)) (hn : n ≤ 7) (hz : z = n) : Wp X (d + 1) 112 0 [.ref 86, .int (iI z), .retAddr 0, .retAddr 0, .retAddr 0] [] μ P = P (some (.int (iI (sh L n)))) μ := by
  subst hz
  have f := m_shorter_loop (X := X) (d := d) (P := P) e0 hn n 0 (by omega)
  rw [Int.natCast_zero] at f
  simp (disch := first | assumption | with_reducible exact kd_0 | with_reducible exact kd_1 | with_reducible exact kd_3 | with_reducible exact kd_25 | with_reducible exact kd_26 | with_reducible exact kd_32 | with_reducible exact kd_30 | with_reducible exact kd_37 | with_reducible exact kd_39 | with_reducible exact kd_41 | with_reducible exact kd_2 | with_reducible exact kd_4 | with_reducible exact kd_5 | with_reducible exact kd_6 | with_reducible exact kd_27 | with_reducible exact kd_28 | with_reducible exact kd_29 | with_reducible exact kd_31 | with_reducible exact kd_33 | with_reducible exact kd_34 | with_reducible exact kd_35 | with_reducible exact kd_36 | with_reducible exact kd_38 | with_reducible exact kd_40 | with_reducible exact kd_86 | with_reducible exact kd_87 | with_reducible exact kd_88 | with_reducible exact kd_89 | with_reducible exact kd_90 | with_reducible exact kd_91 | with_reducible exact kd_92 | with_reducible exact kd_93 | with_reducible exact kd_94 | with_reducible exact kd_95 | with_reducible exact kd_96 | with_reducible exact kd_97 | with_reducible exact kd_98 | with_reducible exact kd_99 | with_reducible exact kd_100 | with_reducible exact kd_101 | with_reducible exact kd_102 | with_reducible exact kq_4 | with_reducible exact kq_6 | with_reducible exact kq_25 | omega) only [wX5_shorter_0, wX5_shorter_1, wX5_shorter_2, wX5_shorter_3, wX5_shorter_4, wX5_shorter_5, wX5_shorter_9, wX5_shorter_10, wX5_shorter_13, wX5_shorter_14, wX5_shorter_15, wX5_shorter_16, wX5_shorter_17, wX5_shorter_18, wX5_shorter_19, wX5_shorter_22, wX5_shorter_23, wX5_shorter_24, wX5_shorter_27, wX5_shorter_30, wX5_shorter_31, psh_some, psh_none, f]
  exact f
theorem m_number_loop (e0 : μ 86 0 = iI (L + 1)) (hl : Ln μ l) (ol : rowOK L l) : ∀ (k i : Nat), k + i = l.length →
    Wp X (d + 2) 113 4 [.ref 86, .int (iI (vl L (l.take i))), .int (iI i)] [] μ P = P (some (.int (iI (numL L l)))) μ := by
  have h6 := ol.1
  intro k
  induction k with
  | zero =>
    intro i hi
    have hi2 : i = l.length := by omega
    subst hi2
    rw [wX5_number_4, List.take_length]
    simp (disch := first | assumption | with_reducible exact kd_0 | with_reducible exact kd_1 | with_reducible exact kd_3 | with_reducible exact kd_25 | with_reducible exact kd_26 | with_reducible exact kd_32 | with_reducible exact kd_30 | with_reducible exact kd_37 | with_reducible exact kd_39 | with_reducible exact kd_41 | with_reducible exact kd_2 | with_reducible exact kd_4 | with_reducible exact kd_5 | with_reducible exact kd_6 | with_reducible exact kd_27 | with_reducible exact kd_28 | with_reducible exact kd_29 | with_reducible exact kd_31 | with_reducible exact kd_33 | with_reducible exact kd_34 | with_reducible exact kd_35 | with_reducible exact kd_36 | with_reducible exact kd_38 | with_reducible exact kd_40 | with_reducible exact kd_86 | with_reducible exact kd_87 | with_reducible exact kd_88 | with_reducible exact kd_89 | with_reducible exact kd_90 | with_reducible exact kd_91 | with_reducible exact kd_92 | with_reducible exact kd_93 | with_reducible exact kd_94 | with_reducible exact kd_95 | with_reducible exact kd_96 | with_reducible exact kd_97 | with_reducible exact kd_98 | with_reducible exact kd_99 | with_reducible exact kd_100 | with_reducible exact kd_101 | with_reducible exact kd_102 | with_reducible exact kq_4 | with_reducible exact kq_6 | with_reducible exact kq_25 | omega) only [wX5_number_0, wX5_number_1, wX5_number_2, wX5_number_3, wX5_number_5, wX5_number_6, wX5_number_9, wX5_number_13, wX5_number_14, wX5_number_17, wX5_number_18, wX5_number_19, wX5_number_22, wX5_number_23, wX5_number_24, wX5_number_25, wX5_number_26, wX5_number_29, wX5_number_32, wX5_number_33, wX5_number_34, wX5_number_37, wX5_number_40, wX5_number_41, wX5_number_42, psh_some, psh_none, rf_86_2, rf_86_3, rf_86_5, rf_86_6, rf_86_8, rf_86_9, rf_86_11, rf_86_12, rf_86_14, rf_86_16, rf_86_17, rf_86_18, rf_86_21, rf_86_22, rf_86_23, rf_86_24, ln_87, ln_88, ln_89, ln_90, ln_91, ln_92, ln_93, ln_94, ln_95, ln_96, ln_97, ln_98, ln_99, ln_100, ln_101, ln_102, i0, iI_lt, iI_le, iI_eq, iI_in, iI_nat, iI_add, iI_sub, hl.1, m_shorter (n := l.length) e0]
    rw [if_pos (by omega)]
    unfold vl
    rw [show sh L l.length + (numL L l - sh L l.length) = numL L l by omega]
  | succ k ih =>
    intro i hi
    have e1 := hl.2 i (by omega)
    have e2 := rowOK_at ol (show i < l.length by omega)
    have f := ih (i + 1) (by omega)
    rw [← take_snoc (show i < l.length by omega), vl_s e2.1, Int.natCast_add, Int.natCast_one] at f
    rw [wX5_number_4]
    simp (disch := first | assumption | with_reducible exact kd_0 | with_reducible exact kd_1 | with_reducible exact kd_3 | with_reducible exact kd_25 | with_reducible exact kd_26 | with_reducible exact kd_32 | with_reducible exact kd_30 | with_reducible exact kd_37 | with_reducible exact kd_39 | with_reducible exact kd_41 | with_reducible exact kd_2 | with_reducible exact kd_4 | with_reducible exact kd_5 | with_reducible exact kd_6 | with_reducible exact kd_27 | with_reducible exact kd_28 | with_reducible exact kd_29 | with_reducible exact kd_31 | with_reducible exact kd_33 | with_reducible exact kd_34 | with_reducible exact kd_35 | with_reducible exact kd_36 | with_reducible exact kd_38 | with_reducible exact kd_40 | with_reducible exact kd_86 | with_reducible exact kd_87 | with_reducible exact kd_88 | with_reducible exact kd_89 | with_reducible exact kd_90 | with_reducible exact kd_91 | with_reducible exact kd_92 | with_reducible exact kd_93 | with_reducible exact kd_94 | with_reducible exact kd_95 | with_reducible exact kd_96 | with_reducible exact kd_97 | with_reducible exact kd_98 | with_reducible exact kd_99 | with_reducible exact kd_100 | with_reducible exact kd_101 | with_reducible exact kd_102 | with_reducible exact kq_4 | with_reducible exact kq_6 | with_reducible exact kq_25 | omega) only [wX5_number_0, wX5_number_1, wX5_number_2, wX5_number_3, wX5_number_5, wX5_number_6, wX5_number_9, wX5_number_12, wX5_number_13, wX5_number_14, wX5_number_17, wX5_number_18, wX5_number_19, wX5_number_22, wX5_number_23, wX5_number_24, wX5_number_25, wX5_number_26, wX5_number_29, wX5_number_33, wX5_number_34, wX5_number_37, wX5_number_40, wX5_number_41, wX5_number_42, psh_some, psh_none, rf_86_2, rf_86_3, rf_86_5, rf_86_6, rf_86_8, rf_86_9, rf_86_11, rf_86_12, rf_86_14, rf_86_16, rf_86_17, rf_86_18, rf_86_21, rf_86_22, rf_86_23, rf_86_24, ln_87, ln_88, ln_89, ln_90, ln_91, ln_92, ln_93, ln_94, ln_95, ln_96, ln_97, ln_98, ln_99, ln_100, ln_101, ln_102, i0, iI_lt, iI_le, iI_eq, iI_in, iI_nat, iI_add, iI_sub, iI_mul, hl.1, Int.toNat_natCast, m_kinds e0, e1, f, and_t, if_true, if_false, Int.reduceEq, Int.reduceLT, Int.reduceLE, not_true_eq_false, not_false_eq_true]
    rw [if_neg (by omega)]
theorem m_number (e0 : μ 86 0 = iI (L + 1)) (hl : Ln μ l) (ol : rowOK L l) : Wp X (d + 2) 113 0 [.ref 86, .retAddr 0, .retAddr 0] [] μ P = P (some (.int (iI (numL L l)))) μ := by
  have f := m_number_loop (X := X) (d := d) (P := P) e0 hl ol l.length 0 (by omega)
  rw [List.take_zero, vl_0, Int.natCast_zero] at f
  simp (disch := first | assumption | with_reducible exact kd_0 | with_reducible exact kd_1 | with_reducible exact kd_3 | with_reducible exact kd_25 | with_reducible exact kd_26 | with_reducible exact kd_32 | with_reducible exact kd_30 | with_reducible exact kd_37 | with_reducible exact kd_39 | with_reducible exact kd_41 | with_reducible exact kd_2 | with_reducible exact kd_4 | with_reducible exact kd_5 | with_reducible exact kd_6 | with_reducible exact kd_27 | with_reducible exact kd_28 | with_reducible exact kd_29 | with_reducible exact kd_31 | with_reducible exact kd_33 | with_reducible exact kd_34 | with_reducible exact kd_35 | with_reducible exact kd_36 | with_reducible exact kd_38 | with_reducible exact kd_40 | with_reducible exact kd_86 | with_reducible exact kd_87 | with_reducible exact kd_88 | with_reducible exact kd_89 | with_reducible exact kd_90 | with_reducible exact kd_91 | with_reducible exact kd_92 | with_reducible exact kd_93 | with_reducible exact kd_94 | with_reducible exact kd_95 | with_reducible exact kd_96 | with_reducible exact kd_97 | with_reducible exact kd_98 | with_reducible exact kd_99 | with_reducible exact kd_100 | with_reducible exact kd_101 | with_reducible exact kd_102 | with_reducible exact kq_4 | with_reducible exact kq_6 | with_reducible exact kq_25 | omega) only [wX5_number_0, wX5_number_1, wX5_number_2, wX5_number_3, wX5_number_5, wX5_number_6, wX5_number_9, wX5_number_12, wX5_number_13, wX5_number_14, wX5_number_17, wX5_number_18, wX5_number_19, wX5_number_22, wX5_number_23, wX5_number_24, wX5_number_25, wX5_number_26, wX5_number_29, wX5_number_32, wX5_number_33, wX5_number_34, wX5_number_37, wX5_number_40, wX5_number_41, wX5_number_42, psh_some, psh_none, f]
theorem m_layRow_loop1 {w2 w3 : Value} (e0 : μ 86 0 = iI (L + 1)) (hL : 1 ≤ L ∧ L ≤ 3) (ol : rowOK L l) (hk : Wp X (d + 2) 114 41 [.ref 86, .int (iI (numL L l)), w2, w3] [] (u2 μ 86 10 (iI l.length)) P) : ∀ (k i : Nat), k + i = l.length →
    Wp X (d + 2) 114 5 [.ref 86, .int (iI (numL L l)), w2, w3] [] (u2 μ 86 10 (iI i)) P := by
  have h6 := ol.1
  have hb := numL_bd hL ol
  have hv := vl_rg hL l.length l rfl ol.2
  unfold vl at hv
  intro k
  induction k with
  | zero =>
    intro i hi
    have hi2 : i = l.length := by omega
    subst hi2
    have e0' : u2 μ 86 10 (iI l.length) 86 0 = iI (L + 1) := by rw [u2_n (by omega)]; exact e0
    have hr := sh_rg hL (show l.length + 1 ≤ 7 by omega)
    rw [wX5_layRow_5]
    simp (disch := first | assumption | with_reducible exact kd_0 | with_reducible exact kd_1 | with_reducible exact kd_3 | with_reducible exact kd_25 | with_reducible exact kd_26 | with_reducible exact kd_32 | with_reducible exact kd_30 | with_reducible exact kd_37 | with_reducible exact kd_39 | with_reducible exact kd_41 | with_reducible exact kd_2 | with_reducible exact kd_4 | with_reducible exact kd_5 | with_reducible exact kd_6 | with_reducible exact kd_27 | with_reducible exact kd_28 | with_reducible exact kd_29 | with_reducible exact kd_31 | with_reducible exact kd_33 | with_reducible exact kd_34 | with_reducible exact kd_35 | with_reducible exact kd_36 | with_reducible exact kd_38 | with_reducible exact kd_40 | with_reducible exact kd_86 | with_reducible exact kd_87 | with_reducible exact kd_88 | with_reducible exact kd_89 | with_reducible exact kd_90 | with_reducible exact kd_91 | with_reducible exact kd_92 | with_reducible exact kd_93 | with_reducible exact kd_94 | with_reducible exact kd_95 | with_reducible exact kd_96 | with_reducible exact kd_97 | with_reducible exact kd_98 | with_reducible exact kd_99 | with_reducible exact kd_100 | with_reducible exact kd_101 | with_reducible exact kd_102 | with_reducible exact kq_4 | with_reducible exact kq_6 | with_reducible exact kq_25 | omega) only [wX5_layRow_0, wX5_layRow_1, wX5_layRow_2, wX5_layRow_6, wX5_layRow_9, wX5_layRow_11, wX5_layRow_14, wX5_layRow_15, wX5_layRow_16, wX5_layRow_17, wX5_layRow_20, wX5_layRow_21, wX5_layRow_22, wX5_layRow_25, wX5_layRow_29, wX5_layRow_29i, wX5_layRow_30, wX5_layRow_33, wX5_layRow_34, wX5_layRow_35, wX5_layRow_38, wX5_layRow_42, wX5_layRow_43, wX5_layRow_44, wX5_layRow_47, wX5_layRow_50, wX5_layRow_51, wX5_layRow_52, wX5_layRow_53, wX5_layRow_56, wX5_layRow_57, wX5_layRow_58, wX5_layRow_59, wX5_layRow_60, wX5_layRow_63, wX5_layRow_64, wX5_layRow_67, wX5_layRow_68, wX5_layRow_69, wX5_layRow_70, wX5_layRow_73, wX5_layRow_74, wX5_layRow_75, wX5_layRow_76, wX5_layRow_77, wX5_layRow_80, wX5_layRow_81, wX5_layRow_82, wX5_layRow_85, wX5_layRow_88, psh_some, psh_none, rf_86_2, rf_86_3, rf_86_5, rf_86_6, rf_86_8, rf_86_9, rf_86_11, rf_86_12, rf_86_14, rf_86_16, rf_86_17, rf_86_18, rf_86_21, rf_86_22, rf_86_23, rf_86_24, ln_87, ln_88, ln_89, ln_90, ln_91, ln_92, ln_93, ln_94, ln_95, ln_96, ln_97, ln_98, ln_99, ln_100, ln_101, ln_102, i0, iI_lt, iI_le, iI_eq, iI_in, iI_nat, iI_add, iI_sub, u2_s, m_shorter (n := l.length + 1) e0']
    by_cases c : 6 ≤ (l.length : Int)
    · rw [if_pos c]
      exact hk
    · rw [if_neg c, if_pos (by omega)]
      exact hk
  | succ k ih =>
    intro i hi
    have f := ih (i + 1) (by omega)
    have e0' : u2 μ 86 10 (iI i) 86 0 = iI (L + 1) := by rw [u2_n (by omega)]; exact e0
    have hr := sh_rg hL (show i + 1 ≤ 7 by omega)
    have hm := sh_mono hL (l.length - (i + 1)) (i + 1)
    rw [show l.length - (i + 1) + (i + 1) = l.length by omega] at hm
    have ew : u2 (u2 μ 86 10 (iI i)) 86 10 (iI (i + 1)) = u2 μ 86 10 (iI (i + 1)) := by
      funext c s
      unfold u2
      split <;> rfl
    rw [Int.natCast_add, Int.natCast_one] at f
    rw [wX5_layRow_5]
    simp (disch := first | assumption | with_reducible exact kd_0 | with_reducible exact kd_1 | with_reducible exact kd_3 | with_reducible exact kd_25 | with_reducible exact kd_26 | with_reducible exact kd_32 | with_reducible exact kd_30 | with_reducible exact kd_37 | with_reducible exact kd_39 | with_reducible exact kd_41 | with_reducible exact kd_2 | with_reducible exact kd_4 | with_reducible exact kd_5 | with_reducible exact kd_6 | with_reducible exact kd_27 | with_reducible exact kd_28 | with_reducible exact kd_29 | with_reducible exact kd_31 | with_reducible exact kd_33 | with_reducible exact kd_34 | with_reducible exact kd_35 | with_reducible exact kd_36 | with_reducible exact kd_38 | with_reducible exact kd_40 | with_reducible exact kd_86 | with_reducible exact kd_87 | with_reducible exact kd_88 | with_reducible exact kd_89 | with_reducible exact kd_90 | with_reducible exact kd_91 | with_reducible exact kd_92 | with_reducible exact kd_93 | with_reducible exact kd_94 | with_reducible exact kd_95 | with_reducible exact kd_96 | with_reducible exact kd_97 | with_reducible exact kd_98 | with_reducible exact kd_99 | with_reducible exact kd_100 | with_reducible exact kd_101 | with_reducible exact kd_102 | with_reducible exact kq_4 | with_reducible exact kq_6 | with_reducible exact kq_25 | omega) only [wX5_layRow_0, wX5_layRow_1, wX5_layRow_2, wX5_layRow_6, wX5_layRow_9, wX5_layRow_11, wX5_layRow_14, wX5_layRow_15, wX5_layRow_16, wX5_layRow_17, wX5_layRow_20, wX5_layRow_21, wX5_layRow_22, wX5_layRow_25, wX5_layRow_28, wX5_layRow_29, wX5_layRow_29i, wX5_layRow_30, wX5_layRow_33, wX5_layRow_34, wX5_layRow_35, wX5_layRow_38, wX5_layRow_42, wX5_layRow_43, wX5_layRow_44, wX5_layRow_47, wX5_layRow_50, wX5_layRow_51, wX5_layRow_52, wX5_layRow_53, wX5_layRow_56, wX5_layRow_57, wX5_layRow_58, wX5_layRow_59, wX5_layRow_60, wX5_layRow_63, wX5_layRow_64, wX5_layRow_67, wX5_layRow_68, wX5_layRow_69, wX5_layRow_70, wX5_layRow_73, wX5_layRow_74, wX5_layRow_75, wX5_layRow_76, wX5_layRow_77, wX5_layRow_80, wX5_layRow_81, wX5_layRow_82, wX5_layRow_85, wX5_layRow_88, psh_some, psh_none, rf_86_2, rf_86_3, rf_86_5, rf_86_6, rf_86_8, rf_86_9, rf_86_11, rf_86_12, rf_86_14, rf_86_16, rf_86_17, rf_86_18, rf_86_21, rf_86_22, rf_86_23, rf_86_24, ln_87, ln_88, ln_89, ln_90, ln_91, ln_92, ln_93, ln_94, ln_95, ln_96, ln_97, ln_98, ln_99, ln_100, ln_101, ln_102, i0, iI_lt, iI_le, iI_eq, iI_in, iI_nat, iI_add, iI_sub, u2_s, m_shorter (n := i + 1) e0', ew]
    rw [if_neg (by omega), if_neg (by omega)]
    exact f
theorem m_layRow_loop2 {w1 : Value} (hL : 1 ≤ L ∧ L ≤ 3) (ol : rowOK L l) : ∀ (k : Nat) (μ' : Mem), k ≤ l.length → μ' 86 0 = iI (L + 1) → keepL μ μ' → μ' 86 10 = iI l.length → (∀ j, k ≤ j → j < l.length → μ' 92 j = iI (l.getD j 0)) →
    Wp X (d + 1) 114 59 [.ref 86, w1, .int (iI (vl L (l.take k))), .int (iI (k - 1))] [] μ' (fun v μ'' => v = none ∧ Ln μ'' l ∧ keepL μ μ'') := by
  have h6 := ol.1
  intro k
  induction k with
  | zero =>
    intro μ' hk e0 g1 g2 g3
    rw [wX5_layRow_59]
    simp (disch := first | assumption | with_reducible exact kd_0 | with_reducible exact kd_1 | with_reducible exact kd_3 | with_reducible exact kd_25 | with_reducible exact kd_26 | with_reducible exact kd_32 | with_reducible exact kd_30 | with_reducible exact kd_37 | with_reducible exact kd_39 | with_reducible exact kd_41 | with_reducible exact kd_2 | with_reducible exact kd_4 | with_reducible exact kd_5 | with_reducible exact kd_6 | with_reducible exact kd_27 | with_reducible exact kd_28 | with_reducible exact kd_29 | with_reducible exact kd_31 | with_reducible exact kd_33 | with_reducible exact kd_34 | with_reducible exact kd_35 | with_reducible exact kd_36 | with_reducible exact kd_38 | with_reducible exact kd_40 | with_reducible exact kd_86 | with_reducible exact kd_87 | with_reducible exact kd_88 | with_reducible exact kd_89 | with_reducible exact kd_90 | with_reducible exact kd_91 | with_reducible exact kd_92 | with_reducible exact kd_93 | with_reducible exact kd_94 | with_reducible exact kd_95 | with_reducible exact kd_96 | with_reducible exact kd_97 | with_reducible exact kd_98 | with_reducible exact kd_99 | with_reducible exact kd_100 | with_reducible exact kd_101 | with_reducible exact kd_102 | with_reducible exact kq_4 | with_reducible exact kq_6 | with_reducible exact kq_25 | omega) only [wX5_layRow_0, wX5_layRow_1, wX5_layRow_2, wX5_layRow_5, wX5_layRow_6, wX5_layRow_9, wX5_layRow_11, wX5_layRow_14, wX5_layRow_15, wX5_layRow_16, wX5_layRow_17, wX5_layRow_20, wX5_layRow_21, wX5_layRow_22, wX5_layRow_25, wX5_layRow_28, wX5_layRow_29, wX5_layRow_29i, wX5_layRow_30, wX5_layRow_33, wX5_layRow_34, wX5_layRow_35, wX5_layRow_38, wX5_layRow_41, wX5_layRow_42, wX5_layRow_43, wX5_layRow_44, wX5_layRow_47, wX5_layRow_50, wX5_layRow_51, wX5_layRow_52, wX5_layRow_53, wX5_layRow_56, wX5_layRow_57, wX5_layRow_58, wX5_layRow_60, wX5_layRow_64, wX5_layRow_67, wX5_layRow_68, wX5_layRow_69, wX5_layRow_70, wX5_layRow_73, wX5_layRow_74, wX5_layRow_75, wX5_layRow_76, wX5_layRow_77, wX5_layRow_80, wX5_layRow_81, wX5_layRow_82, wX5_layRow_85, wX5_layRow_88, psh_some, psh_none, rf_86_2, rf_86_3, rf_86_5, rf_86_6, rf_86_8, rf_86_9, rf_86_11, rf_86_12, rf_86_14, rf_86_16, rf_86_17, rf_86_18, rf_86_21, rf_86_22, rf_86_23, rf_86_24, ln_87, ln_88, ln_89, ln_90, ln_91, ln_92, ln_93, ln_94, ln_95, ln_96, ln_97, ln_98, ln_99, ln_100, ln_101, ln_102, i0, iI_lt, iI_le, iI_eq, iI_in, iI_nat, iI_add, iI_sub]
    rw [if_pos (by omega)]
    exact ⟨trivial, ⟨g2, fun j hj => g3 j (by omega) hj⟩, g1⟩
  | succ k ih =>
    intro μ' hk e0 g1 g2 g3
    have e2 := rowOK_at ol (show k < l.length by omega)
    obtain ⟨e3, e4⟩ := vl_step (l := l.take k) hL e2
    rw [take_snoc (show k < l.length by omega)] at e3 e4
    have f := ih (u2 μ' 92 k (iI (l.getD k 0))) (by omega) (by rw [u2_c (by omega)]; exact e0) (g1.tr keepL.c) (by rw [u2_c (by omega)]; exact g2) (fun j hj hj2 => by
      by_cases cj : j = k
      · rw [cj, u2_s]
      · rw [u2_n cj]
        exact g3 j (by omega) hj2)
    have hv0 := (vl_rg hL (l.take (k + 1)).length (l.take (k + 1)) rfl (fun x hx => ol.2 x (List.mem_of_mem_take hx)))
    have hb := numL_bd (l := l.take (k + 1)) hL ⟨by rw [List.length_take]; omega, fun x hx => ol.2 x (List.mem_of_mem_take hx)⟩
    have hr := sh_rg hL (show (l.take (k + 1)).length ≤ 7 by rw [List.length_take]; omega)
    have hv1 : vl L (l.take (k + 1)) < 2147483648 := by
      unfold vl
      omega
    have e6 : μ' 86 0 = iI (L + 1) := e0
    have e7 : u2 μ' 92 k (iI (l.getD k 0)) 86 0 = iI (L + 1) := by rw [u2_c (by omega)]; exact e0
    have e5 : ((k + 1 : Nat) : Int) - 1 = k := by omega
    rw [wX5_layRow_59, e5]
    simp (disch := first | assumption | with_reducible exact kd_0 | with_reducible exact kd_1 | with_reducible exact kd_3 | with_reducible exact kd_25 | with_reducible exact kd_26 | with_reducible exact kd_32 | with_reducible exact kd_30 | with_reducible exact kd_37 | with_reducible exact kd_39 | with_reducible exact kd_41 | with_reducible exact kd_2 | with_reducible exact kd_4 | with_reducible exact kd_5 | with_reducible exact kd_6 | with_reducible exact kd_27 | with_reducible exact kd_28 | with_reducible exact kd_29 | with_reducible exact kd_31 | with_reducible exact kd_33 | with_reducible exact kd_34 | with_reducible exact kd_35 | with_reducible exact kd_36 | with_reducible exact kd_38 | with_reducible exact kd_40 | with_reducible exact kd_86 | with_reducible exact kd_87 | with_reducible exact kd_88 | with_reducible exact kd_89 | with_reducible exact kd_90 | with_reducible exact kd_91 | with_reducible exact kd_92 | with_reducible exact kd_93 | with_reducible exact kd_94 | with_reducible exact kd_95 | with_reducible exact kd_96 | with_reducible exact kd_97 | with_reducible exact kd_98 | with_reducible exact kd_99 | with_reducible exact kd_100 | with_reducible exact kd_101 | with_reducible exact kd_102 | with_reducible exact kq_4 | with_reducible exact kq_6 | with_reducible exact kq_25 | omega) only [wX5_layRow_0, wX5_layRow_1, wX5_layRow_2, wX5_layRow_5, wX5_layRow_6, wX5_layRow_9, wX5_layRow_11, wX5_layRow_14, wX5_layRow_15, wX5_layRow_16, wX5_layRow_17, wX5_layRow_20, wX5_layRow_21, wX5_layRow_22, wX5_layRow_25, wX5_layRow_28, wX5_layRow_29, wX5_layRow_29i, wX5_layRow_30, wX5_layRow_33, wX5_layRow_34, wX5_layRow_35, wX5_layRow_38, wX5_layRow_41, wX5_layRow_42, wX5_layRow_43, wX5_layRow_44, wX5_layRow_47, wX5_layRow_50, wX5_layRow_51, wX5_layRow_52, wX5_layRow_53, wX5_layRow_56, wX5_layRow_57, wX5_layRow_58, wX5_layRow_60, wX5_layRow_63, wX5_layRow_64, wX5_layRow_67, wX5_layRow_68, wX5_layRow_69, wX5_layRow_70, wX5_layRow_73, wX5_layRow_74, wX5_layRow_75, wX5_layRow_76, wX5_layRow_77, wX5_layRow_80, wX5_layRow_81, wX5_layRow_82, wX5_layRow_85, wX5_layRow_88, psh_some, psh_none, rf_86_2, rf_86_3, rf_86_5, rf_86_6, rf_86_8, rf_86_9, rf_86_11, rf_86_12, rf_86_14, rf_86_16, rf_86_17, rf_86_18, rf_86_21, rf_86_22, rf_86_23, rf_86_24, ln_87, ln_88, ln_89, ln_90, ln_91, ln_92, ln_93, ln_94, ln_95, ln_96, ln_97, ln_98, ln_99, ln_100, ln_101, ln_102, i0, iI_lt, iI_le, iI_eq, iI_in, iI_nat, iI_add, iI_sub, Int.toNat_natCast, iI_rem, iI_div, m_kinds e6, m_kinds e7, e3, e4, and_t, if_true, if_false, Int.reduceEq, Int.reduceLT, Int.reduceLE, not_true_eq_false, not_false_eq_true]
    rw [if_neg (by omega)]
    exact f
theorem m_layRow {z : Int} (e0 : μ 86 0 = iI (L + 1)) (hL : 1 ≤ L ∧ L ≤ 3) (ol : rowOK L l) (hz : z = numL L l) : Wp X (d + 2) 114 0 [.ref 86, .int (iI z), .retAddr 0, .retAddr 0] [] μ (fun v μ'' => v = none ∧ Ln μ'' l ∧ keepL μ μ'') := by
  subst hz
  have h6 := ol.1
  have f := m_layRow_loop1 (X := X) (d := d) (μ := μ) (w2 := .retAddr 0) (w3 := .retAddr 0) (P := fun v μ'' => v = none ∧ Ln μ'' l ∧ keepL μ μ'') e0 hL ol (by
    have e0' : u2 μ 86 10 (iI l.length) 86 0 = iI (L + 1) := by rw [u2_n (by omega)]; exact e0
    have f2 := m_layRow_loop2 (X := X) (d := d + 1) (μ := μ) (w1 := .int (iI (numL L l))) hL ol l.length (u2 μ 86 10 (iI l.length)) (by omega) e0' keepL.s (by rw [u2_s]) (fun j h1 h2 => by omega)
    rw [List.take_length] at f2
    unfold vl at f2
    simp (disch := first | assumption | with_reducible exact kd_0 | with_reducible exact kd_1 | with_reducible exact kd_3 | with_reducible exact kd_25 | with_reducible exact kd_26 | with_reducible exact kd_32 | with_reducible exact kd_30 | with_reducible exact kd_37 | with_reducible exact kd_39 | with_reducible exact kd_41 | with_reducible exact kd_2 | with_reducible exact kd_4 | with_reducible exact kd_5 | with_reducible exact kd_6 | with_reducible exact kd_27 | with_reducible exact kd_28 | with_reducible exact kd_29 | with_reducible exact kd_31 | with_reducible exact kd_33 | with_reducible exact kd_34 | with_reducible exact kd_35 | with_reducible exact kd_36 | with_reducible exact kd_38 | with_reducible exact kd_40 | with_reducible exact kd_86 | with_reducible exact kd_87 | with_reducible exact kd_88 | with_reducible exact kd_89 | with_reducible exact kd_90 | with_reducible exact kd_91 | with_reducible exact kd_92 | with_reducible exact kd_93 | with_reducible exact kd_94 | with_reducible exact kd_95 | with_reducible exact kd_96 | with_reducible exact kd_97 | with_reducible exact kd_98 | with_reducible exact kd_99 | with_reducible exact kd_100 | with_reducible exact kd_101 | with_reducible exact kd_102 | with_reducible exact kq_4 | with_reducible exact kq_6 | with_reducible exact kq_25 | omega) only [wX5_layRow_0, wX5_layRow_1, wX5_layRow_2, wX5_layRow_6, wX5_layRow_9, wX5_layRow_11, wX5_layRow_14, wX5_layRow_15, wX5_layRow_16, wX5_layRow_17, wX5_layRow_20, wX5_layRow_21, wX5_layRow_22, wX5_layRow_25, wX5_layRow_28, wX5_layRow_29, wX5_layRow_29i, wX5_layRow_30, wX5_layRow_33, wX5_layRow_34, wX5_layRow_35, wX5_layRow_38, wX5_layRow_41, wX5_layRow_42, wX5_layRow_43, wX5_layRow_44, wX5_layRow_47, wX5_layRow_50, wX5_layRow_51, wX5_layRow_52, wX5_layRow_53, wX5_layRow_56, wX5_layRow_57, wX5_layRow_58, wX5_layRow_60, wX5_layRow_63, wX5_layRow_64, wX5_layRow_67, wX5_layRow_68, wX5_layRow_69, wX5_layRow_70, wX5_layRow_73, wX5_layRow_74, wX5_layRow_75, wX5_layRow_76, wX5_layRow_77, wX5_layRow_80, wX5_layRow_81, wX5_layRow_82, wX5_layRow_85, wX5_layRow_88, psh_some, psh_none, rf_86_2, rf_86_3, rf_86_5, rf_86_6, rf_86_8, rf_86_9, rf_86_11, rf_86_12, rf_86_14, rf_86_16, rf_86_17, rf_86_18, rf_86_21, rf_86_22, rf_86_23, rf_86_24, ln_87, ln_88, ln_89, ln_90, ln_91, ln_92, ln_93, ln_94, ln_95, ln_96, ln_97, ln_98, ln_99, ln_100, ln_101, ln_102, i0, iI_lt, iI_le, iI_eq, iI_in, iI_nat, iI_add, iI_sub, u2_s, m_shorter (n := l.length) e0', f2]) l.length 0 (by omega)
  rw [Int.natCast_zero] at f
  simp (disch := first | assumption | with_reducible exact kd_0 | with_reducible exact kd_1 | with_reducible exact kd_3 | with_reducible exact kd_25 | with_reducible exact kd_26 | with_reducible exact kd_32 | with_reducible exact kd_30 | with_reducible exact kd_37 | with_reducible exact kd_39 | with_reducible exact kd_41 | with_reducible exact kd_2 | with_reducible exact kd_4 | with_reducible exact kd_5 | with_reducible exact kd_6 | with_reducible exact kd_27 | with_reducible exact kd_28 | with_reducible exact kd_29 | with_reducible exact kd_31 | with_reducible exact kd_33 | with_reducible exact kd_34 | with_reducible exact kd_35 | with_reducible exact kd_36 | with_reducible exact kd_38 | with_reducible exact kd_40 | with_reducible exact kd_86 | with_reducible exact kd_87 | with_reducible exact kd_88 | with_reducible exact kd_89 | with_reducible exact kd_90 | with_reducible exact kd_91 | with_reducible exact kd_92 | with_reducible exact kd_93 | with_reducible exact kd_94 | with_reducible exact kd_95 | with_reducible exact kd_96 | with_reducible exact kd_97 | with_reducible exact kd_98 | with_reducible exact kd_99 | with_reducible exact kd_100 | with_reducible exact kd_101 | with_reducible exact kd_102 | with_reducible exact kq_4 | with_reducible exact kq_6 | with_reducible exact kq_25 | omega) only [wX5_layRow_0, wX5_layRow_1, wX5_layRow_2, wX5_layRow_6, wX5_layRow_9, wX5_layRow_11, wX5_layRow_14, wX5_layRow_15, wX5_layRow_16, wX5_layRow_17, wX5_layRow_20, wX5_layRow_21, wX5_layRow_22, wX5_layRow_25, wX5_layRow_28, wX5_layRow_29, wX5_layRow_29i, wX5_layRow_30, wX5_layRow_33, wX5_layRow_34, wX5_layRow_35, wX5_layRow_38, wX5_layRow_41, wX5_layRow_42, wX5_layRow_43, wX5_layRow_44, wX5_layRow_47, wX5_layRow_50, wX5_layRow_51, wX5_layRow_52, wX5_layRow_53, wX5_layRow_56, wX5_layRow_57, wX5_layRow_58, wX5_layRow_60, wX5_layRow_63, wX5_layRow_64, wX5_layRow_67, wX5_layRow_68, wX5_layRow_69, wX5_layRow_70, wX5_layRow_73, wX5_layRow_74, wX5_layRow_75, wX5_layRow_76, wX5_layRow_77, wX5_layRow_80, wX5_layRow_81, wX5_layRow_82, wX5_layRow_85, wX5_layRow_88, psh_some, psh_none, rf_86_2, rf_86_3, rf_86_5, rf_86_6, rf_86_8, rf_86_9, rf_86_11, rf_86_12, rf_86_14, rf_86_16, rf_86_17, rf_86_18, rf_86_21, rf_86_22, rf_86_23, rf_86_24, ln_87, ln_88, ln_89, ln_90, ln_91, ln_92, ln_93, ln_94, ln_95, ln_96, ln_97, ln_98, ln_99, ln_100, ln_101, ln_102, f]
end MN
