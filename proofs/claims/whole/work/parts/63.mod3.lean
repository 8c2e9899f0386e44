/-! the model: the pad read; men taught; scraps -/
theorem ps63 {L c : Int} (hL : 1 ≤ L ∧ L ≤ 3) (h : 33 ≤ c) : padSign L c = -1 ↔ c = 63 := by
  unfold padSign
  (repeat' split) <;> omega
def cnt63 : List Int → Int
  | [] => 0
  | c :: r => (if c = 63 then 1 else 0) + cnt63 r
theorem cnt63_rg : ∀ l, 0 ≤ cnt63 l ∧ cnt63 l ≤ l.length
  | [] => ⟨Int.le_refl _, Int.le_refl _⟩
  | c :: r => by
    have h := cnt63_rg r
    rw [cnt63, List.length_cons, Int.natCast_add]
    split <;> omega
theorem cnt63_mem {L : Int} (hL : 1 ≤ L ∧ L ≤ 3) : ∀ l, (∀ c ∈ l, 33 ≤ c) → (0 < cnt63 l ↔ (-1) ∈ sgn L l)
  | [], _ => ⟨fun h => absurd h (by decide), fun h => (by cases h)⟩
  | c :: r, h => by
    have ih := cnt63_mem hL r (fun x hx => h x (List.mem_cons_of_mem _ hx))
    have hc := ps63 hL (h c List.mem_cons_self)
    have hr := cnt63_rg r
    rw [cnt63]
    show _ ↔ -1 ∈ padSign L c :: sgn L r
    rw [List.mem_cons, ← ih]
    by_cases e : c = 63
    · rw [if_pos e]
      exact ⟨fun _ => Or.inl (hc.mpr e).symm, fun _ => by omega⟩
    · rw [if_neg e]
      constructor
      · exact fun z => Or.inr (by omega)
      · rintro (z | z)
        · exact absurd (hc.mp z.symm) e
        · omega
def PdM (μ : Mem) (L : Int) (l : List Int) : Prop := μ 86 0 = iI (L + 1) ∧ μ 86 7 = iI l.length ∧ ∀ k, k < l.length → μ 91 k = iI (l.getD k 0)
theorem MS.pdm {μ : Mem} {σ : Sg} (h : MS μ σ) : PdM μ σ.1.1 σ.2.1 := ⟨h.1.1, h.2.1, h.2.2.1⟩
section MD
variable {X : Env0} {d : Nat} {μ : Mem} {P : Option Value → Mem → Prop} {L : Int} {l : List Int}
theorem m_fault_loop (h : PdM μ L l) (hL : 1 ≤ L ∧ L ≤ 3) (ho : padOK l) : ∀ (k i : Nat) (n : Int) (w : Value), k + i = l.length → 0 ≤ n → n ≤ 3 →
    Wp X (d + 2) 105 4 [.ref 86, .int (iI n), .int (iI i), w] [] μ P = P (some (.int (iI (fltF L (l.drop i) i n)))) μ := by
  obtain ⟨e0, e1, e2⟩ := h
  intro k
  induction k with
  | zero =>
    intro i n w hi h0 h1
    have ho1 := ho.1
    rw [wX5_faultOf_4]
    simp (disch := first | assumption | with_reducible exact kd_0 | with_reducible exact kd_1 | with_reducible exact kd_3 | with_reducible exact kd_25 | with_reducible exact kd_26 | with_reducible exact kd_32 | with_reducible exact kd_30 | with_reducible exact kd_37 | with_reducible exact kd_39 | with_reducible exact kd_41 | with_reducible exact kd_2 | with_reducible exact kd_4 | with_reducible exact kd_5 | with_reducible exact kd_6 | with_reducible exact kd_27 | with_reducible exact kd_28 | with_reducible exact kd_29 | with_reducible exact kd_31 | with_reducible exact kd_33 | with_reducible exact kd_34 | with_reducible exact kd_35 | with_reducible exact kd_36 | with_reducible exact kd_38 | with_reducible exact kd_40 | with_reducible exact kd_86 | with_reducible exact kd_87 | with_reducible exact kd_88 | with_reducible exact kd_89 | with_reducible exact kd_90 | with_reducible exact kd_91 | with_reducible exact kd_92 | with_reducible exact kd_93 | with_reducible exact kd_94 | with_reducible exact kd_95 | with_reducible exact kd_96 | with_reducible exact kd_97 | with_reducible exact kd_98 | with_reducible exact kd_99 | with_reducible exact kd_100 | with_reducible exact kd_101 | with_reducible exact kd_102 | with_reducible exact kq_4 | with_reducible exact kq_6 | with_reducible exact kq_25 | omega) only [wX5_faultOf_0, wX5_faultOf_1, wX5_faultOf_2, wX5_faultOf_3, wX5_faultOf_5, wX5_faultOf_6, wX5_faultOf_9, wX5_faultOf_12, wX5_faultOf_13, wX5_faultOf_14, wX5_faultOf_17, wX5_faultOf_18, wX5_faultOf_19, wX5_faultOf_21, wX5_faultOf_24, wX5_faultOf_25, wX5_faultOf_28, wX5_faultOf_29, wX5_faultOf_30, wX5_faultOf_31, wX5_faultOf_32, wX5_faultOf_34, wX5_faultOf_37, wX5_faultOf_38, wX5_faultOf_39, wX5_faultOf_42, wX5_faultOf_43, wX5_faultOf_44, wX5_faultOf_47, wX5_faultOf_50, wX5_faultOf_51, wX5_faultOf_54, wX5_faultOf_55, wX5_faultOf_56, wX5_faultOf_58, wX5_faultOf_61, wX5_faultOf_62, wX5_faultOf_63, wX5_faultOf_66, wX5_faultOf_67, wX5_faultOf_70, wX5_faultOf_71, wX5_faultOf_72, wX5_faultOf_73, wX5_faultOf_76, wX5_faultOf_77, wX5_faultOf_78, wX5_faultOf_81, wX5_faultOf_84, wX5_faultOf_86, psh_some, psh_none, rf_86_2, rf_86_3, rf_86_5, rf_86_6, rf_86_8, rf_86_9, rf_86_11, rf_86_12, rf_86_14, rf_86_16, rf_86_17, rf_86_18, rf_86_21, rf_86_22, rf_86_23, rf_86_24, ln_87, ln_88, ln_89, ln_90, ln_91, ln_92, ln_93, ln_94, ln_95, ln_96, ln_97, ln_98, ln_99, ln_100, ln_101, ln_102, i0, iI_lt, iI_le, iI_eq, iI_in, iI_nat, iI_add, iI_sub, e1]
    rw [if_pos (by omega), List.drop_of_length_le (by omega)]
    rfl
  | succ k ih =>
    intro i n w hi h0 h1
    have ho1 := ho.1
    have e3 := ho.2 _ (getD_mem (show i < l.length by omega))
    have e4 := e2 i (by omega)
    have e5 := ps63 hL e3.1
    have e6 := padSign_lo (c := l.getD i 0) hL
    rw [wX5_faultOf_4, drop_cons (by omega), fltF]
    by_cases c : l.getD i 0 = 63
    · rw [c] at e4 e5 e6
      have e7 : padSign L 63 = -1 := e5.mpr rfl
      have e8 : sgO L 63 = -6 := by unfold sgO; rw [e7]; rfl
      simp (disch := first | assumption | with_reducible exact kd_0 | with_reducible exact kd_1 | with_reducible exact kd_3 | with_reducible exact kd_25 | with_reducible exact kd_26 | with_reducible exact kd_32 | with_reducible exact kd_30 | with_reducible exact kd_37 | with_reducible exact kd_39 | with_reducible exact kd_41 | with_reducible exact kd_2 | with_reducible exact kd_4 | with_reducible exact kd_5 | with_reducible exact kd_6 | with_reducible exact kd_27 | with_reducible exact kd_28 | with_reducible exact kd_29 | with_reducible exact kd_31 | with_reducible exact kd_33 | with_reducible exact kd_34 | with_reducible exact kd_35 | with_reducible exact kd_36 | with_reducible exact kd_38 | with_reducible exact kd_40 | with_reducible exact kd_86 | with_reducible exact kd_87 | with_reducible exact kd_88 | with_reducible exact kd_89 | with_reducible exact kd_90 | with_reducible exact kd_91 | with_reducible exact kd_92 | with_reducible exact kd_93 | with_reducible exact kd_94 | with_reducible exact kd_95 | with_reducible exact kd_96 | with_reducible exact kd_97 | with_reducible exact kd_98 | with_reducible exact kd_99 | with_reducible exact kd_100 | with_reducible exact kd_101 | with_reducible exact kd_102 | with_reducible exact kq_4 | with_reducible exact kq_6 | with_reducible exact kq_25 | omega) only [wX5_faultOf_0, wX5_faultOf_1, wX5_faultOf_2, wX5_faultOf_3, wX5_faultOf_5, wX5_faultOf_6, wX5_faultOf_9, wX5_faultOf_12, wX5_faultOf_13, wX5_faultOf_14, wX5_faultOf_17, wX5_faultOf_18, wX5_faultOf_19, wX5_faultOf_21, wX5_faultOf_24, wX5_faultOf_25, wX5_faultOf_28, wX5_faultOf_29, wX5_faultOf_30, wX5_faultOf_31, wX5_faultOf_32, wX5_faultOf_34, wX5_faultOf_37, wX5_faultOf_38, wX5_faultOf_39, wX5_faultOf_42, wX5_faultOf_43, wX5_faultOf_44, wX5_faultOf_47, wX5_faultOf_50, wX5_faultOf_51, wX5_faultOf_54, wX5_faultOf_55, wX5_faultOf_56, wX5_faultOf_58, wX5_faultOf_61, wX5_faultOf_62, wX5_faultOf_63, wX5_faultOf_66, wX5_faultOf_67, wX5_faultOf_70, wX5_faultOf_71, wX5_faultOf_72, wX5_faultOf_73, wX5_faultOf_76, wX5_faultOf_77, wX5_faultOf_78, wX5_faultOf_81, wX5_faultOf_84, wX5_faultOf_86, psh_some, psh_none, rf_86_2, rf_86_3, rf_86_5, rf_86_6, rf_86_8, rf_86_9, rf_86_11, rf_86_12, rf_86_14, rf_86_16, rf_86_17, rf_86_18, rf_86_21, rf_86_22, rf_86_23, rf_86_24, ln_87, ln_88, ln_89, ln_90, ln_91, ln_92, ln_93, ln_94, ln_95, ln_96, ln_97, ln_98, ln_99, ln_100, ln_101, ln_102, i0, iI_lt, iI_le, iI_eq, iI_in, iI_nat, iI_add, iI_sub, e1, Int.toNat_natCast, e4, m_signOf e0 hL, e8, and_t, if_true, if_false, Int.reduceEq, Int.reduceLT, Int.reduceLE, not_true_eq_false, not_false_eq_true]
      rw [c, e7, if_neg (by omega)]
      by_cases c2 : 6 ≤ i ∨ 3 < n + 1
      · rw [if_pos (show (-1 : Int) = -2 ∨ 6 ≤ (i : Int) ∨ 3 < (if (-1 : Int) = -1 then n + 1 else n) by rw [if_pos rfl]; omega)]
        by_cases c3 : 6 ≤ i
        · rw [if_pos (by omega)]
        · rw [if_neg (by omega), if_pos (by omega)]
      · rw [if_neg (show ¬ ((-1 : Int) = -2 ∨ 6 ≤ (i : Int) ∨ 3 < (if (-1 : Int) = -1 then n + 1 else n)) by rw [if_pos rfl]; omega)]
        have f := ih (i + 1) (n + 1) (.int (iI 1)) (by omega) (by omega) (by omega)
        rw [Int.natCast_add, Int.natCast_one] at f
        rw [if_neg (by omega), if_neg (by omega), if_pos rfl]
        exact f
    · have e7 : ¬ padSign L (l.getD i 0) = -1 := fun z => c (e5.mp z)
      have f := ih (i + 1) n (.int (iI 1)) (by omega) (by omega) (by omega)
      rw [Int.natCast_add, Int.natCast_one] at f
      have e9 : sgO L (l.getD i 0) < 0 ↔ padSign L (l.getD i 0) = -2 := by unfold sgO; split <;> omega
      have e10 : -6 ≤ sgO L (l.getD i 0) ∧ sgO L (l.getD i 0) < 100 := by unfold sgO; split <;> omega
      simp (disch := first | assumption | with_reducible exact kd_0 | with_reducible exact kd_1 | with_reducible exact kd_3 | with_reducible exact kd_25 | with_reducible exact kd_26 | with_reducible exact kd_32 | with_reducible exact kd_30 | with_reducible exact kd_37 | with_reducible exact kd_39 | with_reducible exact kd_41 | with_reducible exact kd_2 | with_reducible exact kd_4 | with_reducible exact kd_5 | with_reducible exact kd_6 | with_reducible exact kd_27 | with_reducible exact kd_28 | with_reducible exact kd_29 | with_reducible exact kd_31 | with_reducible exact kd_33 | with_reducible exact kd_34 | with_reducible exact kd_35 | with_reducible exact kd_36 | with_reducible exact kd_38 | with_reducible exact kd_40 | with_reducible exact kd_86 | with_reducible exact kd_87 | with_reducible exact kd_88 | with_reducible exact kd_89 | with_reducible exact kd_90 | with_reducible exact kd_91 | with_reducible exact kd_92 | with_reducible exact kd_93 | with_reducible exact kd_94 | with_reducible exact kd_95 | with_reducible exact kd_96 | with_reducible exact kd_97 | with_reducible exact kd_98 | with_reducible exact kd_99 | with_reducible exact kd_100 | with_reducible exact kd_101 | with_reducible exact kd_102 | with_reducible exact kq_4 | with_reducible exact kq_6 | with_reducible exact kq_25 | omega) only [wX5_faultOf_0, wX5_faultOf_1, wX5_faultOf_2, wX5_faultOf_3, wX5_faultOf_5, wX5_faultOf_6, wX5_faultOf_9, wX5_faultOf_12, wX5_faultOf_13, wX5_faultOf_14, wX5_faultOf_17, wX5_faultOf_18, wX5_faultOf_19, wX5_faultOf_21, wX5_faultOf_24, wX5_faultOf_25, wX5_faultOf_28, wX5_faultOf_29, wX5_faultOf_30, wX5_faultOf_31, wX5_faultOf_32, wX5_faultOf_34, wX5_faultOf_37, wX5_faultOf_38, wX5_faultOf_39, wX5_faultOf_42, wX5_faultOf_43, wX5_faultOf_44, wX5_faultOf_47, wX5_faultOf_50, wX5_faultOf_51, wX5_faultOf_54, wX5_faultOf_55, wX5_faultOf_56, wX5_faultOf_58, wX5_faultOf_61, wX5_faultOf_62, wX5_faultOf_63, wX5_faultOf_66, wX5_faultOf_67, wX5_faultOf_70, wX5_faultOf_71, wX5_faultOf_72, wX5_faultOf_73, wX5_faultOf_76, wX5_faultOf_77, wX5_faultOf_78, wX5_faultOf_81, wX5_faultOf_84, wX5_faultOf_86, psh_some, psh_none, rf_86_2, rf_86_3, rf_86_5, rf_86_6, rf_86_8, rf_86_9, rf_86_11, rf_86_12, rf_86_14, rf_86_16, rf_86_17, rf_86_18, rf_86_21, rf_86_22, rf_86_23, rf_86_24, ln_87, ln_88, ln_89, ln_90, ln_91, ln_92, ln_93, ln_94, ln_95, ln_96, ln_97, ln_98, ln_99, ln_100, ln_101, ln_102, i0, iI_lt, iI_le, iI_eq, iI_in, iI_nat, iI_add, iI_sub, e1, Int.toNat_natCast, e4, m_signOf e0 hL, Int.add_zero, f, and_t, if_true, if_false, Int.reduceEq, Int.reduceLT, Int.reduceLE, not_true_eq_false, not_false_eq_true, c]
      generalize sgO L (l.getD i 0) = so at e9 e10 ⊢
      rw [if_neg (by omega), if_neg e7]
      by_cases c2 : padSign L (l.getD i 0) = -2 ∨ 6 ≤ (i : Int) ∨ 3 < n
      · rw [if_pos c2]
        by_cases c3 : 6 ≤ i
        · rw [if_pos (by omega)]
        · rw [if_neg (by omega), if_neg (by omega)]
      · rw [if_neg c2]
        rw [if_neg (by omega), if_pos (by omega)]
theorem m_faultOf (h : PdM μ L l) (hL : 1 ≤ L ∧ L ≤ 3) (ho : padOK l) : Wp X (d + 2) 105 0 [.ref 86, .retAddr 0, .retAddr 0, .retAddr 0] [] μ P = P (some (.int (iI (fltF L l 0 0)))) μ := by
  have f := m_fault_loop (X := X) (d := d) (P := P) h hL ho l.length 0 0 (.retAddr 0) (by omega) (by omega) (by omega)
  rw [Int.natCast_zero] at f
  simp (disch := first | assumption | with_reducible exact kd_0 | with_reducible exact kd_1 | with_reducible exact kd_3 | with_reducible exact kd_25 | with_reducible exact kd_26 | with_reducible exact kd_32 | with_reducible exact kd_30 | with_reducible exact kd_37 | with_reducible exact kd_39 | with_reducible exact kd_41 | with_reducible exact kd_2 | with_reducible exact kd_4 | with_reducible exact kd_5 | with_reducible exact kd_6 | with_reducible exact kd_27 | with_reducible exact kd_28 | with_reducible exact kd_29 | with_reducible exact kd_31 | with_reducible exact kd_33 | with_reducible exact kd_34 | with_reducible exact kd_35 | with_reducible exact kd_36 | with_reducible exact kd_38 | with_reducible exact kd_40 | with_reducible exact kd_86 | with_reducible exact kd_87 | with_reducible exact kd_88 | with_reducible exact kd_89 | with_reducible exact kd_90 | with_reducible exact kd_91 | with_reducible exact kd_92 | with_reducible exact kd_93 | with_reducible exact kd_94 | with_reducible exact kd_95 | with_reducible exact kd_96 | with_reducible exact kd_97 | with_reducible exact kd_98 | with_reducible exact kd_99 | with_reducible exact kd_100 | with_reducible exact kd_101 | with_reducible exact kd_102 | with_reducible exact kq_4 | with_reducible exact kq_6 | with_reducible exact kq_25 | omega) only [wX5_faultOf_0, wX5_faultOf_1, wX5_faultOf_2, wX5_faultOf_3, wX5_faultOf_5, wX5_faultOf_6, wX5_faultOf_9, wX5_faultOf_12, wX5_faultOf_13, wX5_faultOf_14, wX5_faultOf_17, wX5_faultOf_18, wX5_faultOf_19, wX5_faultOf_21, wX5_faultOf_24, wX5_faultOf_25, wX5_faultOf_28, wX5_faultOf_29, wX5_faultOf_30, wX5_faultOf_31, wX5_faultOf_32, wX5_faultOf_34, wX5_faultOf_37, wX5_faultOf_38, wX5_faultOf_39, wX5_faultOf_42, wX5_faultOf_43, wX5_faultOf_44, wX5_faultOf_47, wX5_faultOf_50, wX5_faultOf_51, wX5_faultOf_54, wX5_faultOf_55, wX5_faultOf_56, wX5_faultOf_58, wX5_faultOf_61, wX5_faultOf_62, wX5_faultOf_63, wX5_faultOf_66, wX5_faultOf_67, wX5_faultOf_70, wX5_faultOf_71, wX5_faultOf_72, wX5_faultOf_73, wX5_faultOf_76, wX5_faultOf_77, wX5_faultOf_78, wX5_faultOf_81, wX5_faultOf_84, wX5_faultOf_86, psh_some, psh_none, f]
  rfl
theorem m_opens_loop (h : PdM μ L l) (ho : padOK l) : ∀ (k i : Nat) (n : Int), k + i = l.length → 0 ≤ n → n ≤ i →
    Wp X d 107 4 [.ref 86, .int (iI n), .int (iI i)] [] μ P = P (some (.int (iI (n + cnt63 (l.drop i))))) μ := by
  obtain ⟨e0, e1, e2⟩ := h
  intro k
  induction k with
  | zero =>
    intro i n hi h0 h1
    have ho1 := ho.1
    rw [wX5_opens_4]
    simp (disch := first | assumption | with_reducible exact kd_0 | with_reducible exact kd_1 | with_reducible exact kd_3 | with_reducible exact kd_25 | with_reducible exact kd_26 | with_reducible exact kd_32 | with_reducible exact kd_30 | with_reducible exact kd_37 | with_reducible exact kd_39 | with_reducible exact kd_41 | with_reducible exact kd_2 | with_reducible exact kd_4 | with_reducible exact kd_5 | with_reducible exact kd_6 | with_reducible exact kd_27 | with_reducible exact kd_28 | with_reducible exact kd_29 | with_reducible exact kd_31 | with_reducible exact kd_33 | with_reducible exact kd_34 | with_reducible exact kd_35 | with_reducible exact kd_36 | with_reducible exact kd_38 | with_reducible exact kd_40 | with_reducible exact kd_86 | with_reducible exact kd_87 | with_reducible exact kd_88 | with_reducible exact kd_89 | with_reducible exact kd_90 | with_reducible exact kd_91 | with_reducible exact kd_92 | with_reducible exact kd_93 | with_reducible exact kd_94 | with_reducible exact kd_95 | with_reducible exact kd_96 | with_reducible exact kd_97 | with_reducible exact kd_98 | with_reducible exact kd_99 | with_reducible exact kd_100 | with_reducible exact kd_101 | with_reducible exact kd_102 | with_reducible exact kq_4 | with_reducible exact kq_6 | with_reducible exact kq_25 | omega) only [wX5_opens_0, wX5_opens_1, wX5_opens_2, wX5_opens_3, wX5_opens_5, wX5_opens_6, wX5_opens_9, wX5_opens_12, wX5_opens_13, wX5_opens_14, wX5_opens_17, wX5_opens_18, wX5_opens_19, wX5_opens_21, wX5_opens_24, wX5_opens_25, wX5_opens_28, wX5_opens_29, wX5_opens_30, wX5_opens_31, wX5_opens_34, wX5_opens_37, wX5_opens_38, psh_some, psh_none, rf_86_2, rf_86_3, rf_86_5, rf_86_6, rf_86_8, rf_86_9, rf_86_11, rf_86_12, rf_86_14, rf_86_16, rf_86_17, rf_86_18, rf_86_21, rf_86_22, rf_86_23, rf_86_24, ln_87, ln_88, ln_89, ln_90, ln_91, ln_92, ln_93, ln_94, ln_95, ln_96, ln_97, ln_98, ln_99, ln_100, ln_101, ln_102, i0, iI_lt, iI_le, iI_eq, iI_in, iI_nat, iI_add, iI_sub, e1]
    rw [if_pos (by omega), List.drop_of_length_le (by omega), cnt63, Int.add_zero]
  | succ k ih =>
    intro i n hi h0 h1
    have ho1 := ho.1
    have e3 := ho.2 _ (getD_mem (show i < l.length by omega))
    have e4 := e2 i (by omega)
    have f := ih (i + 1) (n + 1) (by omega) (by omega) (by omega)
    have f2 := ih (i + 1) n (by omega) (by omega) (by omega)
    rw [Int.natCast_add, Int.natCast_one] at f f2
    rw [wX5_opens_4, drop_cons (by omega), cnt63]
    simp (disch := first | assumption | with_reducible exact kd_0 | with_reducible exact kd_1 | with_reducible exact kd_3 | with_reducible exact kd_25 | with_reducible exact kd_26 | with_reducible exact kd_32 | with_reducible exact kd_30 | with_reducible exact kd_37 | with_reducible exact kd_39 | with_reducible exact kd_41 | with_reducible exact kd_2 | with_reducible exact kd_4 | with_reducible exact kd_5 | with_reducible exact kd_6 | with_reducible exact kd_27 | with_reducible exact kd_28 | with_reducible exact kd_29 | with_reducible exact kd_31 | with_reducible exact kd_33 | with_reducible exact kd_34 | with_reducible exact kd_35 | with_reducible exact kd_36 | with_reducible exact kd_38 | with_reducible exact kd_40 | with_reducible exact kd_86 | with_reducible exact kd_87 | with_reducible exact kd_88 | with_reducible exact kd_89 | with_reducible exact kd_90 | with_reducible exact kd_91 | with_reducible exact kd_92 | with_reducible exact kd_93 | with_reducible exact kd_94 | with_reducible exact kd_95 | with_reducible exact kd_96 | with_reducible exact kd_97 | with_reducible exact kd_98 | with_reducible exact kd_99 | with_reducible exact kd_100 | with_reducible exact kd_101 | with_reducible exact kd_102 | with_reducible exact kq_4 | with_reducible exact kq_6 | with_reducible exact kq_25 | omega) only [wX5_opens_0, wX5_opens_1, wX5_opens_2, wX5_opens_3, wX5_opens_5, wX5_opens_6, wX5_opens_9, wX5_opens_12, wX5_opens_13, wX5_opens_14, wX5_opens_17, wX5_opens_18, wX5_opens_19, wX5_opens_21, wX5_opens_24, wX5_opens_25, wX5_opens_28, wX5_opens_29, wX5_opens_30, wX5_opens_31, wX5_opens_34, wX5_opens_37, wX5_opens_38, psh_some, psh_none, rf_86_2, rf_86_3, rf_86_5, rf_86_6, rf_86_8, rf_86_9, rf_86_11, rf_86_12, rf_86_14, rf_86_16, rf_86_17, rf_86_18, rf_86_21, rf_86_22, rf_86_23, rf_86_24, ln_87, ln_88, ln_89, ln_90, ln_91, ln_92, ln_93, ln_94, ln_95, ln_96, ln_97, ln_98, ln_99, ln_100, ln_101, ln_102, i0, iI_lt, iI_le, iI_eq, iI_in, iI_nat, iI_add, iI_sub, e1, Int.toNat_natCast, e4, and_t, if_true, if_false, Int.reduceEq, Int.reduceLT, Int.reduceLE, not_true_eq_false, not_false_eq_true, f, f2, Int.add_zero]
    rw [if_neg (by omega)]
    by_cases c : l.getD i 0 = 63
    · rw [if_pos c, if_pos c, Int.add_assoc]
    · rw [if_neg c, if_neg c, Int.zero_add]
theorem m_opens (h : PdM μ L l) (ho : padOK l) : Wp X d 107 0 [.ref 86, .retAddr 0, .retAddr 0] [] μ P = P (some (.int (iI (cnt63 l)))) μ := by
  have f := m_opens_loop (X := X) (d := d) (P := P) h ho l.length 0 0 (by omega) (by omega) (by omega)
  rw [Int.natCast_zero, Int.zero_add] at f
  simp (disch := first | assumption | with_reducible exact kd_0 | with_reducible exact kd_1 | with_reducible exact kd_3 | with_reducible exact kd_25 | with_reducible exact kd_26 | with_reducible exact kd_32 | with_reducible exact kd_30 | with_reducible exact kd_37 | with_reducible exact kd_39 | with_reducible exact kd_41 | with_reducible exact kd_2 | with_reducible exact kd_4 | with_reducible exact kd_5 | with_reducible exact kd_6 | with_reducible exact kd_27 | with_reducible exact kd_28 | with_reducible exact kd_29 | with_reducible exact kd_31 | with_reducible exact kd_33 | with_reducible exact kd_34 | with_reducible exact kd_35 | with_reducible exact kd_36 | with_reducible exact kd_38 | with_reducible exact kd_40 | with_reducible exact kd_86 | with_reducible exact kd_87 | with_reducible exact kd_88 | with_reducible exact kd_89 | with_reducible exact kd_90 | with_reducible exact kd_91 | with_reducible exact kd_92 | with_reducible exact kd_93 | with_reducible exact kd_94 | with_reducible exact kd_95 | with_reducible exact kd_96 | with_reducible exact kd_97 | with_reducible exact kd_98 | with_reducible exact kd_99 | with_reducible exact kd_100 | with_reducible exact kd_101 | with_reducible exact kd_102 | with_reducible exact kq_4 | with_reducible exact kq_6 | with_reducible exact kq_25 | omega) only [wX5_opens_0, wX5_opens_1, wX5_opens_2, wX5_opens_3, wX5_opens_5, wX5_opens_6, wX5_opens_9, wX5_opens_12, wX5_opens_13, wX5_opens_14, wX5_opens_17, wX5_opens_18, wX5_opens_19, wX5_opens_21, wX5_opens_24, wX5_opens_25, wX5_opens_28, wX5_opens_29, wX5_opens_30, wX5_opens_31, wX5_opens_34, wX5_opens_37, wX5_opens_38, psh_some, psh_none, f]
  rfl
theorem m_bar (h : PdM μ L l) (hL : 1 ≤ L ∧ L ≤ 3) (ho : padOK l) : Wp X (d + 3) 108 0 [.ref 86] [] μ P = P (some (.int (iI (if aRd L l < 0 then aRd L l else 0)))) μ := by
  have ho1 := ho.1
  have h1 := fltF_rg (L := L) l 0 0 (by omega)
  have h2 := cnt63_rg l
  have h3 := cnt63_mem hL l (fun c hc => (ho.2 c hc).1)
  simp (disch := first | assumption | with_reducible exact kd_0 | with_reducible exact kd_1 | with_reducible exact kd_3 | with_reducible exact kd_25 | with_reducible exact kd_26 | with_reducible exact kd_32 | with_reducible exact kd_30 | with_reducible exact kd_37 | with_reducible exact kd_39 | with_reducible exact kd_41 | with_reducible exact kd_2 | with_reducible exact kd_4 | with_reducible exact kd_5 | with_reducible exact kd_6 | with_reducible exact kd_27 | with_reducible exact kd_28 | with_reducible exact kd_29 | with_reducible exact kd_31 | with_reducible exact kd_33 | with_reducible exact kd_34 | with_reducible exact kd_35 | with_reducible exact kd_36 | with_reducible exact kd_38 | with_reducible exact kd_40 | with_reducible exact kd_86 | with_reducible exact kd_87 | with_reducible exact kd_88 | with_reducible exact kd_89 | with_reducible exact kd_90 | with_reducible exact kd_91 | with_reducible exact kd_92 | with_reducible exact kd_93 | with_reducible exact kd_94 | with_reducible exact kd_95 | with_reducible exact kd_96 | with_reducible exact kd_97 | with_reducible exact kd_98 | with_reducible exact kd_99 | with_reducible exact kd_100 | with_reducible exact kd_101 | with_reducible exact kd_102 | with_reducible exact kq_4 | with_reducible exact kq_6 | with_reducible exact kq_25 | omega) only [wX5_barOfPad_0, wX5_barOfPad_1, wX5_barOfPad_4, wX5_barOfPad_7, wX5_barOfPad_9, wX5_barOfPad_12, wX5_barOfPad_13, wX5_barOfPad_16, wX5_barOfPad_19, wX5_barOfPad_21, wX5_barOfPad_24, wX5_barOfPad_25, psh_some, psh_none, rf_86_2, rf_86_3, rf_86_5, rf_86_6, rf_86_8, rf_86_9, rf_86_11, rf_86_12, rf_86_14, rf_86_16, rf_86_17, rf_86_18, rf_86_21, rf_86_22, rf_86_23, rf_86_24, ln_87, ln_88, ln_89, ln_90, ln_91, ln_92, ln_93, ln_94, ln_95, ln_96, ln_97, ln_98, ln_99, ln_100, ln_101, ln_102, i0, iI_lt, iI_le, iI_eq, iI_in, iI_nat, iI_add, iI_sub, m_faultOf h hL ho, m_opens h ho]
  unfold aRd
  by_cases c : fltF L l 0 0 = -6
  · rw [if_pos c, if_pos (by omega)]
    by_cases c2 : -1 ∈ sgn L l
    · rw [if_pos c2, if_neg (by have := h3.mpr c2; omega), if_pos (by decide)]
    · rw [if_neg c2, if_pos (by have : ¬ 0 < cnt63 l := fun z => c2 (h3.mp z); omega), if_neg (by omega)]
  · rw [if_neg c, if_neg (by omega), if_pos (by decide)]
/-- the pad's signs go into a man's row -/
theorem m_teach_loop {m : Nat} {z : Int} {w : Value} (h : PdM μ L l) (hL : 1 ≤ L ∧ L ≤ 3) (ho : padOK l) (hf : fltF L l 0 0 = -6) (h1 : ¬ -1 ∈ sgn L l) (hm : m < 6) (hz : z = m)
    (hk : ∀ μ', (∀ c, ¬ c = 87 → μ' c = μ c) → (∀ j, j < 6 * m ∨ 6 * m + 6 ≤ j → μ' 87 j = μ 87 j) → (∀ j, j < l.length → μ' 87 (6 * m + j) = iI ((sgn L l).getD j 0)) → Wp X (d + 2) 109 59 [.ref 86, .int (iI z), w, .int (iI l.length)] [] μ' P) : ∀ (k i : Nat) (μ' : Mem), k + i = l.length → (∀ c, ¬ c = 87 → μ' c = μ c) → (∀ j, j < 6 * m ∨ 6 * m + 6 ≤ j → μ' 87 j = μ 87 j) → (∀ j, j < i → μ' 87 (6 * m + j) = iI ((sgn L l).getD j 0)) →
    Wp X (d + 2) 109 24 [.ref 86, .int (iI z), w, .int (iI i)] [] μ' P := by
  obtain ⟨e0, e1, e2⟩ := h
  have ok := flt_ok hf
  subst hz
  intro k
  induction k with
  | zero =>
    intro i μ' hi g1 g2 g3
    have ho1 := ho.1
    have e1' : μ' 86 7 = iI l.length := by rw [g1 86 (by omega)]; exact e1
    rw [wX5_teach_24]
    have hi2 : i = l.length := by omega
    subst hi2
    have f := hk μ' g1 g2 g3
    simp (disch := first | assumption | with_reducible exact kd_0 | with_reducible exact kd_1 | with_reducible exact kd_3 | with_reducible exact kd_25 | with_reducible exact kd_26 | with_reducible exact kd_32 | with_reducible exact kd_30 | with_reducible exact kd_37 | with_reducible exact kd_39 | with_reducible exact kd_41 | with_reducible exact kd_2 | with_reducible exact kd_4 | with_reducible exact kd_5 | with_reducible exact kd_6 | with_reducible exact kd_27 | with_reducible exact kd_28 | with_reducible exact kd_29 | with_reducible exact kd_31 | with_reducible exact kd_33 | with_reducible exact kd_34 | with_reducible exact kd_35 | with_reducible exact kd_36 | with_reducible exact kd_38 | with_reducible exact kd_40 | with_reducible exact kd_86 | with_reducible exact kd_87 | with_reducible exact kd_88 | with_reducible exact kd_89 | with_reducible exact kd_90 | with_reducible exact kd_91 | with_reducible exact kd_92 | with_reducible exact kd_93 | with_reducible exact kd_94 | with_reducible exact kd_95 | with_reducible exact kd_96 | with_reducible exact kd_97 | with_reducible exact kd_98 | with_reducible exact kd_99 | with_reducible exact kd_100 | with_reducible exact kd_101 | with_reducible exact kd_102 | with_reducible exact kq_4 | with_reducible exact kq_6 | with_reducible exact kq_25 | omega) only [wX5_teach_0, wX5_teach_1, wX5_teach_2, wX5_teach_3, wX5_teach_6, wX5_teach_9, wX5_teach_10, wX5_teach_11, wX5_teach_12, wX5_teach_15, wX5_teach_16, wX5_teach_17, wX5_teach_20, wX5_teach_21, wX5_teach_22, wX5_teach_23, wX5_teach_25, wX5_teach_26, wX5_teach_29, wX5_teach_32, wX5_teach_33, wX5_teach_36, wX5_teach_38, wX5_teach_39, wX5_teach_40, wX5_teach_41, wX5_teach_42, wX5_teach_43, wX5_teach_44, wX5_teach_47, wX5_teach_48, wX5_teach_49, wX5_teach_52, wX5_teach_53, wX5_teach_56, wX5_teach_60, wX5_teach_63, wX5_teach_64, wX5_teach_65, wX5_teach_68, wX5_teach_69, wX5_teach_70, wX5_teach_70i, wX5_teach_71, wX5_teach_74, wX5_teach_75, wX5_teach_76, wX5_teach_77, wX5_teach_78, wX5_teach_81, wX5_teach_82, wX5_teach_83, wX5_teach_86, wX5_teach_87, wX5_teach_90, wX5_teach_91, wX5_teach_92, psh_some, psh_none, rf_86_2, rf_86_3, rf_86_5, rf_86_6, rf_86_8, rf_86_9, rf_86_11, rf_86_12, rf_86_14, rf_86_16, rf_86_17, rf_86_18, rf_86_21, rf_86_22, rf_86_23, rf_86_24, ln_87, ln_88, ln_89, ln_90, ln_91, ln_92, ln_93, ln_94, ln_95, ln_96, ln_97, ln_98, ln_99, ln_100, ln_101, ln_102, i0, iI_lt, iI_le, iI_eq, iI_in, iI_nat, iI_add, iI_sub, e1']
    rw [if_pos (by omega)]
    exact f
  | succ k ih =>
    intro i μ' hi g1 g2 g3
    have ho1 := ho.1
    have e1' : μ' 86 7 = iI l.length := by rw [g1 86 (by omega)]; exact e1
    have e0' : μ' 86 0 = iI (L + 1) := by rw [g1 86 (by omega)]; exact e0
    have e3 := ho.2 _ (getD_mem (show i < l.length by omega))
    have e4 : μ' 91 i = iI (l.getD i 0) := by rw [g1 91 (by omega)]; exact e2 i (by omega)
    have e5 : ¬ padSign L (l.getD i 0) = -1 := fun y => h1 (by
      rw [← y, ← sgn_getD (show i < l.length by omega)]
      exact getD_mem (by unfold sgn; rw [List.length_map]; omega))
    have e6 := ok.2.1 _ (getD_mem (show i < l.length by omega))
    have e7 := padSign_lo (c := l.getD i 0) hL
    have e8 : sgO L (l.getD i 0) = (sgn L l).getD i 0 := by
      rw [sgn_getD (show i < l.length by omega)]
      unfold sgO
      rw [if_neg (by omega)]
    have e9 : (6 * (m : Int) + (i : Int)).toNat = 6 * m + i := by omega
    have f := ih (i + 1) (u2 μ' 87 (6 * m + i) (iI ((sgn L l).getD i 0))) (by omega) (fun c hc => by rw [u2_cell hc, g1 c hc]) (fun j hj => by rw [u2_n (by omega)]; exact g2 j hj) (fun j hj => by
      by_cases cj : j = i
      · rw [cj, u2_s]
      · rw [u2_n (by omega)]
        exact g3 j (by omega))
    rw [Int.natCast_add, Int.natCast_one] at f
    rw [wX5_teach_24]
    simp (disch := first | assumption | with_reducible exact kd_0 | with_reducible exact kd_1 | with_reducible exact kd_3 | with_reducible exact kd_25 | with_reducible exact kd_26 | with_reducible exact kd_32 | with_reducible exact kd_30 | with_reducible exact kd_37 | with_reducible exact kd_39 | with_reducible exact kd_41 | with_reducible exact kd_2 | with_reducible exact kd_4 | with_reducible exact kd_5 | with_reducible exact kd_6 | with_reducible exact kd_27 | with_reducible exact kd_28 | with_reducible exact kd_29 | with_reducible exact kd_31 | with_reducible exact kd_33 | with_reducible exact kd_34 | with_reducible exact kd_35 | with_reducible exact kd_36 | with_reducible exact kd_38 | with_reducible exact kd_40 | with_reducible exact kd_86 | with_reducible exact kd_87 | with_reducible exact kd_88 | with_reducible exact kd_89 | with_reducible exact kd_90 | with_reducible exact kd_91 | with_reducible exact kd_92 | with_reducible exact kd_93 | with_reducible exact kd_94 | with_reducible exact kd_95 | with_reducible exact kd_96 | with_reducible exact kd_97 | with_reducible exact kd_98 | with_reducible exact kd_99 | with_reducible exact kd_100 | with_reducible exact kd_101 | with_reducible exact kd_102 | with_reducible exact kq_4 | with_reducible exact kq_6 | with_reducible exact kq_25 | omega) only [wX5_teach_0, wX5_teach_1, wX5_teach_2, wX5_teach_3, wX5_teach_6, wX5_teach_9, wX5_teach_10, wX5_teach_11, wX5_teach_12, wX5_teach_15, wX5_teach_16, wX5_teach_17, wX5_teach_20, wX5_teach_21, wX5_teach_22, wX5_teach_23, wX5_teach_25, wX5_teach_26, wX5_teach_29, wX5_teach_32, wX5_teach_33, wX5_teach_36, wX5_teach_38, wX5_teach_39, wX5_teach_40, wX5_teach_41, wX5_teach_42, wX5_teach_43, wX5_teach_44, wX5_teach_47, wX5_teach_48, wX5_teach_49, wX5_teach_52, wX5_teach_53, wX5_teach_56, wX5_teach_59, wX5_teach_60, wX5_teach_63, wX5_teach_64, wX5_teach_65, wX5_teach_68, wX5_teach_69, wX5_teach_70, wX5_teach_70i, wX5_teach_71, wX5_teach_74, wX5_teach_75, wX5_teach_76, wX5_teach_77, wX5_teach_78, wX5_teach_81, wX5_teach_82, wX5_teach_83, wX5_teach_86, wX5_teach_87, wX5_teach_90, wX5_teach_91, wX5_teach_92, psh_some, psh_none, rf_86_2, rf_86_3, rf_86_5, rf_86_6, rf_86_8, rf_86_9, rf_86_11, rf_86_12, rf_86_14, rf_86_16, rf_86_17, rf_86_18, rf_86_21, rf_86_22, rf_86_23, rf_86_24, ln_87, ln_88, ln_89, ln_90, ln_91, ln_92, ln_93, ln_94, ln_95, ln_96, ln_97, ln_98, ln_99, ln_100, ln_101, ln_102, i0, iI_lt, iI_le, iI_eq, iI_in, iI_nat, iI_add, iI_sub, iI_mul, e1', Int.toNat_natCast, e4, m_signOf e0' hL, e8, e9, and_t, if_true, if_false, Int.reduceEq, Int.reduceLT, Int.reduceLE, not_true_eq_false, not_false_eq_true]
    rw [if_neg (by omega)]
    exact f
end MD
theorem M_fault {X : Env0} {d : Nat} {μ : Mem} {σ : Sg} (w : WF σ) (h : MS μ σ) : Wp X (d + 3) 106 0 [.ref 86] [] μ (MPost μ σ (fltF σ.1.1 σ.2.1 0 0)) := by
  simp (disch := first | assumption | with_reducible exact kd_0 | with_reducible exact kd_1 | with_reducible exact kd_3 | with_reducible exact kd_25 | with_reducible exact kd_26 | with_reducible exact kd_32 | with_reducible exact kd_30 | with_reducible exact kd_37 | with_reducible exact kd_39 | with_reducible exact kd_41 | with_reducible exact kd_2 | with_reducible exact kd_4 | with_reducible exact kd_5 | with_reducible exact kd_6 | with_reducible exact kd_27 | with_reducible exact kd_28 | with_reducible exact kd_29 | with_reducible exact kd_31 | with_reducible exact kd_33 | with_reducible exact kd_34 | with_reducible exact kd_35 | with_reducible exact kd_36 | with_reducible exact kd_38 | with_reducible exact kd_40 | with_reducible exact kd_86 | with_reducible exact kd_87 | with_reducible exact kd_88 | with_reducible exact kd_89 | with_reducible exact kd_90 | with_reducible exact kd_91 | with_reducible exact kd_92 | with_reducible exact kd_93 | with_reducible exact kd_94 | with_reducible exact kd_95 | with_reducible exact kd_96 | with_reducible exact kd_97 | with_reducible exact kd_98 | with_reducible exact kd_99 | with_reducible exact kd_100 | with_reducible exact kd_101 | with_reducible exact kd_102 | with_reducible exact kq_4 | with_reducible exact kq_6 | with_reducible exact kq_25 | omega) only [wX5_fault_0, wX5_fault_1, wX5_fault_4, psh_some, psh_none, rf_86_2, rf_86_3, rf_86_5, rf_86_6, rf_86_8, rf_86_9, rf_86_11, rf_86_12, rf_86_14, rf_86_16, rf_86_17, rf_86_18, rf_86_21, rf_86_22, rf_86_23, rf_86_24, ln_87, ln_88, ln_89, ln_90, ln_91, ln_92, ln_93, ln_94, ln_95, ln_96, ln_97, ln_98, ln_99, ln_100, ln_101, ln_102, m_faultOf h.pdm w.1.1 w.2.1]
  exact MPost.of h keepR.rf
theorem M_teach {X : Env0} {d : Nat} {μ : Mem} {σ : Sg} {z : Int} (w : WF σ) (h : MS μ σ) (h1 : -2147483648 ≤ z) (h2 : z < 2147483648) : Wp X (d + 4) 109 0 [.ref 86, .int (iI z), .retAddr 0, .retAddr 0] [] μ (MPost μ (sTeach σ z) (aTeach σ z)) := by
  have hrg := aRd_rg (L := σ.1.1) (l := σ.2.1)
  have hl40 := w.2.1.1
  unfold aTeach sTeach
  by_cases c : 0 ≤ z ∧ z < 6
  · rw [if_pos c, if_pos c]
    by_cases c2 : 0 ≤ aRd σ.1.1 σ.2.1
    · rw [if_pos c2]
      obtain ⟨hf, hno, hlen⟩ := aRd_0 c2
      have ok := flt_ok hf
      have hsl : (sgn σ.1.1 σ.2.1).length = σ.2.1.length := by unfold sgn; rw [List.length_map]
      have e0 := h.1.2.1
      have eb := set_b (menB σ.1) (m := z.toNat) (by omega)
      rw [Int.toNat_of_nonneg c.1] at eb
      have f := m_teach_loop (X := X) (d := d + 2) (P := MPost μ ((σ.1.1, sMen σ.1.2.1 z.toNat (some (sgn σ.1.1 σ.2.1)), σ.1.2.2), [], σ.2.2) (aRd σ.1.1 σ.2.1)) (m := z.toNat) (z := z) (w := .int (iI (if aRd σ.1.1 σ.2.1 < 0 then aRd σ.1.1 σ.2.1 else 0))) h.pdm w.1.1 w.2.1 hf hno (by omega) (by omega) (fun μ' g1 g2 g3 => ?_) σ.2.1.length 0 μ (by omega) (fun _ _ => rfl) (fun _ _ => rfl) (fun j hj => absurd hj (Nat.not_lt_zero j))
      · rw [Int.natCast_zero] at f
        simp (disch := first | assumption | with_reducible exact kd_0 | with_reducible exact kd_1 | with_reducible exact kd_3 | with_reducible exact kd_25 | with_reducible exact kd_26 | with_reducible exact kd_32 | with_reducible exact kd_30 | with_reducible exact kd_37 | with_reducible exact kd_39 | with_reducible exact kd_41 | with_reducible exact kd_2 | with_reducible exact kd_4 | with_reducible exact kd_5 | with_reducible exact kd_6 | with_reducible exact kd_27 | with_reducible exact kd_28 | with_reducible exact kd_29 | with_reducible exact kd_31 | with_reducible exact kd_33 | with_reducible exact kd_34 | with_reducible exact kd_35 | with_reducible exact kd_36 | with_reducible exact kd_38 | with_reducible exact kd_40 | with_reducible exact kd_86 | with_reducible exact kd_87 | with_reducible exact kd_88 | with_reducible exact kd_89 | with_reducible exact kd_90 | with_reducible exact kd_91 | with_reducible exact kd_92 | with_reducible exact kd_93 | with_reducible exact kd_94 | with_reducible exact kd_95 | with_reducible exact kd_96 | with_reducible exact kd_97 | with_reducible exact kd_98 | with_reducible exact kd_99 | with_reducible exact kd_100 | with_reducible exact kd_101 | with_reducible exact kd_102 | with_reducible exact kq_4 | with_reducible exact kq_6 | with_reducible exact kq_25 | omega) only [wX5_teach_0, wX5_teach_1, wX5_teach_2, wX5_teach_3, wX5_teach_6, wX5_teach_9, wX5_teach_10, wX5_teach_11, wX5_teach_12, wX5_teach_15, wX5_teach_16, wX5_teach_17, wX5_teach_20, wX5_teach_21, wX5_teach_22, wX5_teach_23, wX5_teach_25, wX5_teach_26, wX5_teach_29, wX5_teach_32, wX5_teach_33, wX5_teach_36, wX5_teach_38, wX5_teach_39, wX5_teach_40, wX5_teach_41, wX5_teach_42, wX5_teach_43, wX5_teach_44, wX5_teach_47, wX5_teach_48, wX5_teach_49, wX5_teach_52, wX5_teach_53, wX5_teach_56, wX5_teach_59, wX5_teach_60, wX5_teach_63, wX5_teach_64, wX5_teach_65, wX5_teach_68, wX5_teach_69, wX5_teach_70, wX5_teach_70i, wX5_teach_71, wX5_teach_74, wX5_teach_75, wX5_teach_76, wX5_teach_77, wX5_teach_78, wX5_teach_81, wX5_teach_82, wX5_teach_83, wX5_teach_86, wX5_teach_87, wX5_teach_90, wX5_teach_91, wX5_teach_92, psh_some, psh_none, rf_86_2, rf_86_3, rf_86_5, rf_86_6, rf_86_8, rf_86_9, rf_86_11, rf_86_12, rf_86_14, rf_86_16, rf_86_17, rf_86_18, rf_86_21, rf_86_22, rf_86_23, rf_86_24, ln_87, ln_88, ln_89, ln_90, ln_91, ln_92, ln_93, ln_94, ln_95, ln_96, ln_97, ln_98, ln_99, ln_100, ln_101, ln_102, i0, iI_lt, iI_le, iI_eq, iI_in, iI_nat, iI_add, iI_sub, m_in, bz, m_bar h.pdm w.1.1 w.2.1, f, and_t, if_true, if_false, Int.reduceEq, Int.reduceLT, Int.reduceLE, not_true_eq_false, not_false_eq_true]
        rw [if_neg (fun y => y (by omega)), if_pos (by rw [if_neg (by omega)]; omega)]
        exact True.intro
      · have e1 : μ' 86 7 = iI σ.2.1.length := by rw [g1 86 (by omega)]; exact h.2.1
        have e2 : μ' 86 1 = iI (bN (menB σ.1) 6) := by rw [g1 86 (by omega)]; exact e0
        simp (disch := first | assumption | with_reducible exact kd_0 | with_reducible exact kd_1 | with_reducible exact kd_3 | with_reducible exact kd_25 | with_reducible exact kd_26 | with_reducible exact kd_32 | with_reducible exact kd_30 | with_reducible exact kd_37 | with_reducible exact kd_39 | with_reducible exact kd_41 | with_reducible exact kd_2 | with_reducible exact kd_4 | with_reducible exact kd_5 | with_reducible exact kd_6 | with_reducible exact kd_27 | with_reducible exact kd_28 | with_reducible exact kd_29 | with_reducible exact kd_31 | with_reducible exact kd_33 | with_reducible exact kd_34 | with_reducible exact kd_35 | with_reducible exact kd_36 | with_reducible exact kd_38 | with_reducible exact kd_40 | with_reducible exact kd_86 | with_reducible exact kd_87 | with_reducible exact kd_88 | with_reducible exact kd_89 | with_reducible exact kd_90 | with_reducible exact kd_91 | with_reducible exact kd_92 | with_reducible exact kd_93 | with_reducible exact kd_94 | with_reducible exact kd_95 | with_reducible exact kd_96 | with_reducible exact kd_97 | with_reducible exact kd_98 | with_reducible exact kd_99 | with_reducible exact kd_100 | with_reducible exact kd_101 | with_reducible exact kd_102 | with_reducible exact kq_4 | with_reducible exact kq_6 | with_reducible exact kq_25 | omega) only [wX5_teach_0, wX5_teach_1, wX5_teach_2, wX5_teach_3, wX5_teach_6, wX5_teach_9, wX5_teach_10, wX5_teach_11, wX5_teach_12, wX5_teach_15, wX5_teach_16, wX5_teach_17, wX5_teach_20, wX5_teach_21, wX5_teach_22, wX5_teach_23, wX5_teach_25, wX5_teach_26, wX5_teach_29, wX5_teach_32, wX5_teach_33, wX5_teach_36, wX5_teach_38, wX5_teach_39, wX5_teach_40, wX5_teach_41, wX5_teach_42, wX5_teach_43, wX5_teach_44, wX5_teach_47, wX5_teach_48, wX5_teach_49, wX5_teach_52, wX5_teach_53, wX5_teach_56, wX5_teach_59, wX5_teach_60, wX5_teach_63, wX5_teach_64, wX5_teach_65, wX5_teach_68, wX5_teach_69, wX5_teach_70, wX5_teach_70i, wX5_teach_71, wX5_teach_74, wX5_teach_75, wX5_teach_76, wX5_teach_77, wX5_teach_78, wX5_teach_81, wX5_teach_82, wX5_teach_83, wX5_teach_86, wX5_teach_87, wX5_teach_90, wX5_teach_91, wX5_teach_92, psh_some, psh_none, rf_86_2, rf_86_3, rf_86_5, rf_86_6, rf_86_8, rf_86_9, rf_86_11, rf_86_12, rf_86_14, rf_86_16, rf_86_17, rf_86_18, rf_86_21, rf_86_22, rf_86_23, rf_86_24, ln_87, ln_88, ln_89, ln_90, ln_91, ln_92, ln_93, ln_94, ln_95, ln_96, ln_97, ln_98, ln_99, ln_100, ln_101, ln_102, i0, iI_lt, iI_le, iI_eq, iI_in, iI_nat, iI_add, iI_sub, e1, e2, eb, u2_s, u2_c, and_t, if_true, if_false, Int.reduceEq, Int.reduceLT, Int.reduceLE, not_true_eq_false, not_false_eq_true]
        rw [hlen]
        refine ⟨rfl, ⟨⟨?_, ?_, ?_, fun k l2 hk hl2 => ?_, ?_⟩, ?_, fun k hk => absurd hk (Nat.not_lt_zero k), ?_⟩, ?_⟩
        · simp (disch := omega) only [u2_n, u2_c]
          rw [g1 86 (by omega)]
          exact h.1.1
        · simp (disch := omega) only [u2_n, u2_s]
          congr 2
          exact bN_ext 6 (fun k hk => by
            unfold menB sMen
            dsimp only
            by_cases ck : k = z.toNat
            · rw [if_pos ck, if_pos ck]
              rfl
            · rw [if_neg ck, if_neg ck])
        · simp (disch := omega) only [u2_n, u2_c]
          rw [g1 86 (by omega)]
          exact h.1.2.2.1
        · simp (disch := omega) only [u2_cell]
          unfold sMen at hl2
          dsimp only at hl2
          by_cases ck : k = z.toNat
          · rw [if_pos ck] at hl2
            cases hl2
            subst ck
            rw [u2_s, hsl]
            exact ⟨rfl, g3⟩
          · rw [if_neg ck] at hl2
            obtain ⟨q1, q2⟩ := h.1.2.2.2.1 k l2 hk hl2
            have q3 := (w.1.2.1 k l2 hk hl2).1
            rw [u2_n ck, g1 88 (by omega)]
            exact ⟨q1, fun i hi => by rw [g2 _ (by omega)]; exact q2 i hi⟩
        · simp (disch := omega) only [u2_cell]
          rw [g1 89 (by omega), g1 90 (by omega)]
          exact h.1.2.2.2.2
        · rw [u2_s]
          rfl
        · exact MI.all h.2.2.2 (by simp (disch := omega) only [u2_cell]; exact g1 101 (by omega)) (by simp (disch := omega) only [u2_cell]; exact g1 102 (by omega))
        · intro k hk
          simp (disch := omega) only [u2_cell]
          exact g1 k (by omega)
    · rw [if_neg c2]
      simp (disch := first | assumption | with_reducible exact kd_0 | with_reducible exact kd_1 | with_reducible exact kd_3 | with_reducible exact kd_25 | with_reducible exact kd_26 | with_reducible exact kd_32 | with_reducible exact kd_30 | with_reducible exact kd_37 | with_reducible exact kd_39 | with_reducible exact kd_41 | with_reducible exact kd_2 | with_reducible exact kd_4 | with_reducible exact kd_5 | with_reducible exact kd_6 | with_reducible exact kd_27 | with_reducible exact kd_28 | with_reducible exact kd_29 | with_reducible exact kd_31 | with_reducible exact kd_33 | with_reducible exact kd_34 | with_reducible exact kd_35 | with_reducible exact kd_36 | with_reducible exact kd_38 | with_reducible exact kd_40 | with_reducible exact kd_86 | with_reducible exact kd_87 | with_reducible exact kd_88 | with_reducible exact kd_89 | with_reducible exact kd_90 | with_reducible exact kd_91 | with_reducible exact kd_92 | with_reducible exact kd_93 | with_reducible exact kd_94 | with_reducible exact kd_95 | with_reducible exact kd_96 | with_reducible exact kd_97 | with_reducible exact kd_98 | with_reducible exact kd_99 | with_reducible exact kd_100 | with_reducible exact kd_101 | with_reducible exact kd_102 | with_reducible exact kq_4 | with_reducible exact kq_6 | with_reducible exact kq_25 | omega) only [wX5_teach_0, wX5_teach_1, wX5_teach_2, wX5_teach_3, wX5_teach_6, wX5_teach_9, wX5_teach_10, wX5_teach_11, wX5_teach_12, wX5_teach_15, wX5_teach_16, wX5_teach_17, wX5_teach_20, wX5_teach_21, wX5_teach_22, wX5_teach_23, wX5_teach_25, wX5_teach_26, wX5_teach_29, wX5_teach_32, wX5_teach_33, wX5_teach_36, wX5_teach_38, wX5_teach_39, wX5_teach_40, wX5_teach_41, wX5_teach_42, wX5_teach_43, wX5_teach_44, wX5_teach_47, wX5_teach_48, wX5_teach_49, wX5_teach_52, wX5_teach_53, wX5_teach_56, wX5_teach_59, wX5_teach_60, wX5_teach_63, wX5_teach_64, wX5_teach_65, wX5_teach_68, wX5_teach_69, wX5_teach_70, wX5_teach_70i, wX5_teach_71, wX5_teach_74, wX5_teach_75, wX5_teach_76, wX5_teach_77, wX5_teach_78, wX5_teach_81, wX5_teach_82, wX5_teach_83, wX5_teach_86, wX5_teach_87, wX5_teach_90, wX5_teach_91, wX5_teach_92, psh_some, psh_none, rf_86_2, rf_86_3, rf_86_5, rf_86_6, rf_86_8, rf_86_9, rf_86_11, rf_86_12, rf_86_14, rf_86_16, rf_86_17, rf_86_18, rf_86_21, rf_86_22, rf_86_23, rf_86_24, ln_87, ln_88, ln_89, ln_90, ln_91, ln_92, ln_93, ln_94, ln_95, ln_96, ln_97, ln_98, ln_99, ln_100, ln_101, ln_102, i0, iI_lt, iI_le, iI_eq, iI_in, iI_nat, iI_add, iI_sub, m_in, bz, m_bar h.pdm w.1.1 w.2.1]
      rw [if_neg (fun y => y (by omega)), if_neg (by rw [if_pos (by omega)]; omega), if_pos (by omega)]
      exact MPost.of h keepR.rf
  · rw [if_neg c, if_neg c]
    simp (disch := first | assumption | with_reducible exact kd_0 | with_reducible exact kd_1 | with_reducible exact kd_3 | with_reducible exact kd_25 | with_reducible exact kd_26 | with_reducible exact kd_32 | with_reducible exact kd_30 | with_reducible exact kd_37 | with_reducible exact kd_39 | with_reducible exact kd_41 | with_reducible exact kd_2 | with_reducible exact kd_4 | with_reducible exact kd_5 | with_reducible exact kd_6 | with_reducible exact kd_27 | with_reducible exact kd_28 | with_reducible exact kd_29 | with_reducible exact kd_31 | with_reducible exact kd_33 | with_reducible exact kd_34 | with_reducible exact kd_35 | with_reducible exact kd_36 | with_reducible exact kd_38 | with_reducible exact kd_40 | with_reducible exact kd_86 | with_reducible exact kd_87 | with_reducible exact kd_88 | with_reducible exact kd_89 | with_reducible exact kd_90 | with_reducible exact kd_91 | with_reducible exact kd_92 | with_reducible exact kd_93 | with_reducible exact kd_94 | with_reducible exact kd_95 | with_reducible exact kd_96 | with_reducible exact kd_97 | with_reducible exact kd_98 | with_reducible exact kd_99 | with_reducible exact kd_100 | with_reducible exact kd_101 | with_reducible exact kd_102 | with_reducible exact kq_4 | with_reducible exact kq_6 | with_reducible exact kq_25 | omega) only [wX5_teach_0, wX5_teach_1, wX5_teach_2, wX5_teach_3, wX5_teach_6, wX5_teach_9, wX5_teach_10, wX5_teach_20, wX5_teach_21, wX5_teach_22, wX5_teach_23, wX5_teach_25, wX5_teach_26, wX5_teach_29, wX5_teach_32, wX5_teach_33, wX5_teach_36, wX5_teach_38, wX5_teach_39, wX5_teach_40, wX5_teach_41, wX5_teach_42, wX5_teach_43, wX5_teach_44, wX5_teach_47, wX5_teach_48, wX5_teach_49, wX5_teach_52, wX5_teach_53, wX5_teach_56, wX5_teach_59, wX5_teach_60, wX5_teach_63, wX5_teach_64, wX5_teach_65, wX5_teach_68, wX5_teach_69, wX5_teach_70, wX5_teach_70i, wX5_teach_71, wX5_teach_74, wX5_teach_75, wX5_teach_76, wX5_teach_77, wX5_teach_78, wX5_teach_81, wX5_teach_82, wX5_teach_83, wX5_teach_86, wX5_teach_87, wX5_teach_90, wX5_teach_91, wX5_teach_92, psh_some, psh_none, rf_86_2, rf_86_3, rf_86_5, rf_86_6, rf_86_8, rf_86_9, rf_86_11, rf_86_12, rf_86_14, rf_86_16, rf_86_17, rf_86_18, rf_86_21, rf_86_22, rf_86_23, rf_86_24, ln_87, ln_88, ln_89, ln_90, ln_91, ln_92, ln_93, ln_94, ln_95, ln_96, ln_97, ln_98, ln_99, ln_100, ln_101, ln_102, i0, iI_lt, iI_le, iI_eq, iI_in, iI_nat, iI_add, iI_sub, m_in, bz]
    rw [if_pos (by omega)]
    exact MPost.of h keepR.rf
