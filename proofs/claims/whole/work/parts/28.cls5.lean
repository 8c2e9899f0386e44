/-! the class: the pad read; teach; scrap -/
def sgn (L : Int) (l : List Int) : List Int := l.map (padSign L)
theorem fltF_ok {L : Int} : ∀ (l : List Int) (i n : Int), fltF L l i n = -6 → 0 ≤ i → 0 ≤ n → n ≤ 3 → (l = [] ∨ l.length + i ≤ 6) ∧ (∀ c ∈ l, ¬ padSign L c = -2) ∧ (l = [] ∨ n + ((sgn L l).count (-1) : Nat) ≤ 3)
  | [], _, _, _, _, _, _ => ⟨Or.inl rfl, fun _ h => (by cases h), Or.inl rfl⟩
  | c :: r, i, n, h, hi, hn, hn3 => by
    rw [fltF] at h
    generalize hm : (if padSign L c = -1 then n + 1 else n) = m at h
    have hm0 : 0 ≤ m := by rw [← hm]; split <;> omega
    split at h
    · omega
    · rename_i hc
      have hc1 : ¬ padSign L c = -2 := fun z => hc (Or.inl z)
      have hc2 : i < 6 := by
        rcases Int.lt_or_le i 6 with z | z
        · exact z
        · exact absurd (Or.inr (Or.inl z)) hc
      have hc3 : m ≤ 3 := by
        rcases Int.lt_or_le 3 m with z | z
        · exact absurd (Or.inr (Or.inr z)) hc
        · exact z
      obtain ⟨a1, a2, a3⟩ := fltF_ok r (i + 1) m h (by omega) hm0 hc3
      have hcnt : n + ((sgn L (c :: r)).count (-1) : Nat) = m + ((sgn L r).count (-1) : Nat) := by
        unfold sgn
        rw [List.map_cons, List.count_cons, ← hm]
        by_cases z : padSign L c = -1
        · rw [if_pos z, if_pos (by simp [z])]
          omega
        · rw [if_neg z, if_neg (by simp [z])]
          omega
      refine ⟨Or.inr ?_, fun x hx => ?_, Or.inr ?_⟩
      · rw [List.length_cons]
        rcases a1 with a1 | a1
        · rw [a1, List.length_nil]
          omega
        · omega
      · rcases List.mem_cons.mp hx with rfl | hx
        · exact hc1
        · exact a2 x hx
      · rw [hcnt]
        rcases a3 with a3 | a3
        · rw [a3]
          have e : (sgn L ([] : List Int)).count (-1) = 0 := rfl
          rw [e]
          omega
        · exact a3
theorem fltF_rg {L : Int} : ∀ (l : List Int) (i n : Int), 0 ≤ i → fltF L l i n = -6 ∨ (0 ≤ fltF L l i n ∧ fltF L l i n < i + l.length)
  | [], _, _, _ => Or.inl rfl
  | c :: r, i, n, hi => by
    rw [fltF]
    generalize (if padSign L c = -1 then n + 1 else n) = m
    split
    · rw [List.length_cons]
      exact Or.inr (by omega)
    · have h := fltF_rg (L := L) r (i + 1) m (by omega)
      rw [List.length_cons]
      rcases h with h | h
      · exact Or.inl h
      · exact Or.inr (by omega)
theorem flt_ok {L : Int} {l : List Int} (h : fltF L l 0 0 = -6) : l.length ≤ 6 ∧ (∀ c ∈ l, ¬ padSign L c = -2) ∧ (sgn L l).count (-1) ≤ 3 := by
  obtain ⟨a, b, c⟩ := fltF_ok l 0 0 h (by omega) (by omega) (by omega)
  refine ⟨?_, b, ?_⟩
  · rcases a with rfl | a
    · exact Nat.zero_le _
    · omega
  · rcases c with rfl | c
    · exact Nat.zero_le _
    · omega
def aRd (L : Int) (l : List Int) : Int := if fltF L l 0 0 = -6 then (if (-1) ∈ sgn L l then -3 else l.length) else -5
def bi (b : Bool) : Int := if b = true then 1 else 0
theorem sgn_getD {L : Int} {l : List Int} {i : Nat} (h : i < l.length) : (sgn L l).getD i 0 = padSign L (l.getD i 0) := by
  unfold sgn
  simp [List.getD_eq_getElem?_getD, List.getElem?_eq_getElem h]
theorem take_snoc {l : List Int} {i : Nat} (h : i < l.length) : l.take i ++ [l.getD i 0] = l.take (i + 1) := by
  rw [List.getD_eq_getElem?_getD, List.getElem?_eq_getElem h, Option.getD_some, List.take_append_getElem]
theorem readPad_loop {X : Env0} {d : Nat} {μ : Mem} {L : Int} {l : List Int} (h : μ 3 0 = iI (L + 1)) (hL : 1 ≤ L ∧ L ≤ 3) (hp : Rw μ 1 l) (ho : padOK l) (hl : l.length ≤ 6) : ∀ (k i : Nat) (μ' : Mem) (w : Value), k + i = l.length → Rw μ' 37 ((sgn L l).take i) → (∀ c, ¬ c = 37 → ¬ c = 38 → μ' c = μ c) →
    Wp X (d + 1) 82 23 [.ref 0, .int (iI (bi (decide ((-1) ∈ (sgn L l).take i)))), .int (iI i), w] [] μ' (fun v μ'' => v = some (.int (iI (if (-1) ∈ sgn L l then -3 else l.length))) ∧ Rw μ'' 37 (sgn L l) ∧ ∀ c, ¬ c = 37 → ¬ c = 38 → μ'' c = μ c) := by
  have hsl : (sgn L l).length = l.length := List.length_map _
  intro k
  induction k with
  | zero =>
    intro i μ' w hi hR hf
    rw [List.take_of_length_le (by omega)] at hR
    rw [List.take_of_length_le (by omega)]
    have e1 : μ' 1 1 = iI l.length := by rw [hf 1 (by omega) (by omega)]; exact hp.2.1
    have e2 := hR.2.1
    rw [hsl] at e2
    rw [wX4_readPad_23]
    simp (disch := first | assumption | with_reducible exact kd_0 | with_reducible exact kd_1 | with_reducible exact kd_3 | with_reducible exact kd_25 | with_reducible exact kd_26 | with_reducible exact kd_32 | with_reducible exact kd_30 | with_reducible exact kd_37 | with_reducible exact kd_39 | with_reducible exact kd_41 | with_reducible exact kd_2 | with_reducible exact kd_4 | with_reducible exact kd_5 | with_reducible exact kd_6 | with_reducible exact kd_27 | with_reducible exact kd_28 | with_reducible exact kd_29 | with_reducible exact kd_31 | with_reducible exact kd_33 | with_reducible exact kd_34 | with_reducible exact kd_35 | with_reducible exact kd_36 | with_reducible exact kd_38 | with_reducible exact kd_40 | with_reducible exact kd_86 | with_reducible exact kd_87 | with_reducible exact kd_88 | with_reducible exact kd_89 | with_reducible exact kd_90 | with_reducible exact kd_91 | with_reducible exact kd_92 | with_reducible exact kd_93 | with_reducible exact kd_94 | with_reducible exact kd_95 | with_reducible exact kd_96 | with_reducible exact kd_97 | with_reducible exact kd_98 | with_reducible exact kd_99 | with_reducible exact kd_100 | with_reducible exact kd_101 | with_reducible exact kd_102 | with_reducible exact kq_4 | with_reducible exact kq_6 | with_reducible exact kq_25 | omega) only [wX4_readPad_0, wX4_readPad_1, wX4_readPad_4, wX4_readPad_6, wX4_readPad_9, wX4_readPad_11, wX4_readPad_12, wX4_readPad_13, wX4_readPad_14, wX4_readPad_15, wX4_readPad_18, wX4_readPad_21, wX4_readPad_22, wX4_readPad_24, wX4_readPad_25, wX4_readPad_28, wX4_readPad_31, wX4_readPad_34, wX4_readPad_35, wX4_readPad_38, wX4_readPad_39, wX4_readPad_42, wX4_readPad_43, wX4_readPad_46, wX4_readPad_49, wX4_readPad_52, wX4_readPad_53, wX4_readPad_54, wX4_readPad_57, wX4_readPad_58, wX4_readPad_59, wX4_readPad_62, wX4_readPad_63, wX4_readPad_66, wX4_readPad_67, wX4_readPad_68, wX4_readPad_69, wX4_readPad_72, wX4_readPad_73, wX4_readPad_76, wX4_readPad_77, wX4_readPad_80, wX4_readPad_83, wX4_readPad_84, wX4_readPad_87, wX4_readPad_89, wX4_readPad_92, wX4_readPad_93, wX4_readPad_96, wX4_readPad_99, psh_some, psh_none, rf_0_0, rf_0_1, rf_0_2, rf_0_3, rf_0_4, rf_0_5, rf_0_6, rf_0_7, rf_1_0, ln_2, rf_3_1, rf_3_2, rf_3_3, ln_4, ln_5, ln_6, rf_25_0, rf_25_1, ln_25, rf_26_0, rf_26_1, rf_26_2, rf_26_3, ln_27, ln_28, ln_29, rf_30_0, ln_31, rf_32_0, rf_32_1, rf_32_2, rf_32_3, ln_33, ln_34, ln_35, ln_36, rf_37_0, ln_38, rf_39_0, ln_40, ln_41, i0, iI_lt, iI_le, iI_eq, iI_in, iI_nat, iI_add, iI_sub, e1, e2]
    rw [if_pos (by omega)]
    unfold bi
    by_cases c : (-1) ∈ sgn L l
    · have c2 : decide ((-1) ∈ sgn L l) = true := decide_eq_true c
      rw [c2]
      simp only [if_true, if_pos c]
      (try simp (disch := omega) only [iI_eq])
      exact ⟨by trivial, hR, hf⟩
    · have c2 : decide ((-1) ∈ sgn L l) = false := decide_eq_false c
      rw [c2]
      simp only [if_neg c]
      (try simp (disch := omega) only [iI_eq])
      exact ⟨by trivial, hR, hf⟩
  | succ k ih =>
    intro i μ' w hi hR hf
    have hl40 := ho.1
    have e1 : μ' 1 1 = iI l.length := by rw [hf 1 (by omega) (by omega)]; exact hp.2.1
    have hp' : Rw μ' 1 l := hp.fr (hf 1 (by omega) (by omega)) (hf 2 (by omega) (by omega))
    have h0 : μ' 3 0 = iI (L + 1) := by rw [hf 3 (by omega) (by omega)]; exact h
    have e3 := atL_nat (show i < l.length by omega)
    have e4 := ho.2 _ (getD_mem (show i < l.length by omega))
    have e5 := padSign_lo (c := l.getD i 0) hL
    have e6 : ((sgn L l).take i).length = i := by rw [List.length_take]; omega
    have hlt : ((sgn L l).take i).length < ln (37 + 1) := by rw [e6]; show i < 6; omega
    have hP := hR.push (x := (sgn L l).getD i 0) hlt
    rw [take_snoc (by omega), e6] at hP
    have e7 : ((-1) ∈ (sgn L l).take (i + 1)) ↔ ((-1) ∈ (sgn L l).take i ∨ padSign L (l.getD i 0) = -1) := by
      rw [← take_snoc (by omega), List.mem_append, List.mem_singleton, sgn_getD (by omega)]
      constructor
      · rintro (h | h)
        · exact Or.inl h
        · exact Or.inr h.symm
      · rintro (h | h)
        · exact Or.inl h
        · exact Or.inr h.symm
    have f := fun w => ih (i + 1) _ w (by omega) hP (fun c h1 h2 => by rw [u2_cell h1, u2_cell h2]; exact hf c h1 h2)
    rw [sgn_getD (by omega), Int.natCast_add, Int.natCast_one] at f
    rw [wX4_readPad_23]
    generalize hps : padSign L (l.getD i 0) = ps at e5 e7 f ⊢
    simp (disch := first | assumption | with_reducible exact kd_0 | with_reducible exact kd_1 | with_reducible exact kd_3 | with_reducible exact kd_25 | with_reducible exact kd_26 | with_reducible exact kd_32 | with_reducible exact kd_30 | with_reducible exact kd_37 | with_reducible exact kd_39 | with_reducible exact kd_41 | with_reducible exact kd_2 | with_reducible exact kd_4 | with_reducible exact kd_5 | with_reducible exact kd_6 | with_reducible exact kd_27 | with_reducible exact kd_28 | with_reducible exact kd_29 | with_reducible exact kd_31 | with_reducible exact kd_33 | with_reducible exact kd_34 | with_reducible exact kd_35 | with_reducible exact kd_36 | with_reducible exact kd_38 | with_reducible exact kd_40 | with_reducible exact kd_86 | with_reducible exact kd_87 | with_reducible exact kd_88 | with_reducible exact kd_89 | with_reducible exact kd_90 | with_reducible exact kd_91 | with_reducible exact kd_92 | with_reducible exact kd_93 | with_reducible exact kd_94 | with_reducible exact kd_95 | with_reducible exact kd_96 | with_reducible exact kd_97 | with_reducible exact kd_98 | with_reducible exact kd_99 | with_reducible exact kd_100 | with_reducible exact kd_101 | with_reducible exact kd_102 | with_reducible exact kq_4 | with_reducible exact kq_6 | with_reducible exact kq_25 | omega) only [wX4_readPad_0, wX4_readPad_1, wX4_readPad_4, wX4_readPad_6, wX4_readPad_9, wX4_readPad_11, wX4_readPad_12, wX4_readPad_13, wX4_readPad_14, wX4_readPad_15, wX4_readPad_18, wX4_readPad_21, wX4_readPad_22, wX4_readPad_24, wX4_readPad_25, wX4_readPad_28, wX4_readPad_31, wX4_readPad_34, wX4_readPad_35, wX4_readPad_38, wX4_readPad_39, wX4_readPad_42, wX4_readPad_43, wX4_readPad_46, wX4_readPad_49, wX4_readPad_52, wX4_readPad_53, wX4_readPad_54, wX4_readPad_57, wX4_readPad_58, wX4_readPad_59, wX4_readPad_62, wX4_readPad_63, wX4_readPad_66, wX4_readPad_67, wX4_readPad_68, wX4_readPad_69, wX4_readPad_72, wX4_readPad_73, wX4_readPad_76, wX4_readPad_77, wX4_readPad_80, wX4_readPad_83, wX4_readPad_84, wX4_readPad_87, wX4_readPad_89, wX4_readPad_92, wX4_readPad_93, wX4_readPad_96, wX4_readPad_99, psh_some, psh_none, rf_0_0, rf_0_1, rf_0_2, rf_0_3, rf_0_4, rf_0_5, rf_0_6, rf_0_7, rf_1_0, ln_2, rf_3_1, rf_3_2, rf_3_3, ln_4, ln_5, ln_6, rf_25_0, rf_25_1, ln_25, rf_26_0, rf_26_1, rf_26_2, rf_26_3, ln_27, ln_28, ln_29, rf_30_0, ln_31, rf_32_0, rf_32_1, rf_32_2, rf_32_3, ln_33, ln_34, ln_35, ln_36, rf_37_0, ln_38, rf_39_0, ln_40, ln_41, i0, iI_lt, iI_le, iI_eq, iI_in, iI_nat, iI_add, iI_sub, e1, at_spec isRw_1 hp', e3, letters_spec h0, signOf_spec hL, hps, add_spec isRw_37 hR hlt, e6]
    rw [if_neg (by omega)]
    unfold bi at f ⊢
    by_cases c1 : (-1) ∈ (sgn L l).take i
    · have d1 : decide ((-1) ∈ (sgn L l).take i) = true := decide_eq_true c1
      have d2 : decide ((-1) ∈ (sgn L l).take (i + 1)) = true := decide_eq_true (e7.mpr (Or.inl c1))
      rw [d1]
      rw [d2] at f
      simp only [if_true] at f ⊢
      (try simp (disch := omega) only [iI_eq])
      exact f _
    · have d1 : decide ((-1) ∈ (sgn L l).take i) = false := decide_eq_false c1
      rw [d1]
      by_cases c2 : ps = -1
      · have d2 : decide ((-1) ∈ (sgn L l).take (i + 1)) = true := decide_eq_true (e7.mpr (Or.inr c2))
        rw [d2] at f
        simp only [if_true, c2] at f ⊢
        (try simp (disch := omega) only [iI_eq])
        exact f _
      · have d2 : decide ((-1) ∈ (sgn L l).take (i + 1)) = false := decide_eq_false (fun z => (e7.mp z).elim c1 c2)
        rw [d2] at f
        simp only [c2, if_false] at f ⊢
        (try simp (disch := omega) only [iI_eq])
        exact f _
theorem readPad_spec {X : Env0} {d : Nat} {μ : Mem} {L : Int} {l : List Int} (h : μ 3 0 = iI (L + 1)) (hL : 1 ≤ L ∧ L ≤ 3) (hp : Rw μ 1 l) (ho : padOK l) :
    Wp X (d + 2) 82 0 [.ref 0, .retAddr 0, .retAddr 0, .retAddr 0] [] μ (fun v μ'' => v = some (.int (iI (aRd L l))) ∧ (fltF L l 0 0 = -6 → Rw μ'' 37 (sgn L l)) ∧ ∀ c, ¬ c = 37 → ¬ c = 38 → μ'' c = μ c) := by
  have hl40 := ho.1
  have e1 := fltF_rg (L := L) l 0 0 (by omega)
  unfold aRd
  by_cases c : fltF L l 0 0 = -6
  · have hok := flt_ok c
    have f := readPad_loop (X := X) (d := d + 1) h hL hp ho hok.1 l.length 0 (u2 μ 37 1 (iI 0)) (.retAddr 0) (by omega) Rw.empty (fun c h1 h2 => u2_cell h1)
    rw [List.take_zero, show decide ((-1 : Int) ∈ ([] : List Int)) = false from rfl, show bi false = 0 from rfl, Int.natCast_zero] at f
    rw [if_pos c]
    simp (disch := first | assumption | with_reducible exact kd_0 | with_reducible exact kd_1 | with_reducible exact kd_3 | with_reducible exact kd_25 | with_reducible exact kd_26 | with_reducible exact kd_32 | with_reducible exact kd_30 | with_reducible exact kd_37 | with_reducible exact kd_39 | with_reducible exact kd_41 | with_reducible exact kd_2 | with_reducible exact kd_4 | with_reducible exact kd_5 | with_reducible exact kd_6 | with_reducible exact kd_27 | with_reducible exact kd_28 | with_reducible exact kd_29 | with_reducible exact kd_31 | with_reducible exact kd_33 | with_reducible exact kd_34 | with_reducible exact kd_35 | with_reducible exact kd_36 | with_reducible exact kd_38 | with_reducible exact kd_40 | with_reducible exact kd_86 | with_reducible exact kd_87 | with_reducible exact kd_88 | with_reducible exact kd_89 | with_reducible exact kd_90 | with_reducible exact kd_91 | with_reducible exact kd_92 | with_reducible exact kd_93 | with_reducible exact kd_94 | with_reducible exact kd_95 | with_reducible exact kd_96 | with_reducible exact kd_97 | with_reducible exact kd_98 | with_reducible exact kd_99 | with_reducible exact kd_100 | with_reducible exact kd_101 | with_reducible exact kd_102 | with_reducible exact kq_4 | with_reducible exact kq_6 | with_reducible exact kq_25 | omega) only [wX4_readPad_0, wX4_readPad_1, wX4_readPad_4, wX4_readPad_6, wX4_readPad_9, wX4_readPad_11, wX4_readPad_12, wX4_readPad_13, wX4_readPad_14, wX4_readPad_15, wX4_readPad_18, wX4_readPad_21, wX4_readPad_22, wX4_readPad_24, wX4_readPad_25, wX4_readPad_28, wX4_readPad_31, wX4_readPad_34, wX4_readPad_35, wX4_readPad_38, wX4_readPad_39, wX4_readPad_42, wX4_readPad_43, wX4_readPad_46, wX4_readPad_49, wX4_readPad_52, wX4_readPad_53, wX4_readPad_54, wX4_readPad_57, wX4_readPad_58, wX4_readPad_59, wX4_readPad_62, wX4_readPad_63, wX4_readPad_66, wX4_readPad_67, wX4_readPad_68, wX4_readPad_69, wX4_readPad_72, wX4_readPad_73, wX4_readPad_76, wX4_readPad_77, wX4_readPad_80, wX4_readPad_83, wX4_readPad_84, wX4_readPad_87, wX4_readPad_89, wX4_readPad_92, wX4_readPad_93, wX4_readPad_96, wX4_readPad_99, psh_some, psh_none, rf_0_0, rf_0_1, rf_0_2, rf_0_3, rf_0_4, rf_0_5, rf_0_6, rf_0_7, rf_1_0, ln_2, rf_3_1, rf_3_2, rf_3_3, ln_4, ln_5, ln_6, rf_25_0, rf_25_1, ln_25, rf_26_0, rf_26_1, rf_26_2, rf_26_3, ln_27, ln_28, ln_29, rf_30_0, ln_31, rf_32_0, rf_32_1, rf_32_2, rf_32_3, ln_33, ln_34, ln_35, ln_36, rf_37_0, ln_38, rf_39_0, ln_40, ln_41, i0, iI_lt, iI_le, iI_eq, iI_in, iI_nat, iI_add, iI_sub, fault_spec h hL hp ho, c, Int.reduceLE, Int.reduceLT, Int.reduceAdd, Int.reduceSub, Int.reduceToNat, Int.reduceEq, reduceIte, empty_spec isRw_37]
    refine f.mono ?_
    rintro v μ'' ⟨a1, a2, a3⟩
    exact ⟨a1, fun _ => a2, a3⟩
  · rw [if_neg c]
    simp (disch := first | assumption | with_reducible exact kd_0 | with_reducible exact kd_1 | with_reducible exact kd_3 | with_reducible exact kd_25 | with_reducible exact kd_26 | with_reducible exact kd_32 | with_reducible exact kd_30 | with_reducible exact kd_37 | with_reducible exact kd_39 | with_reducible exact kd_41 | with_reducible exact kd_2 | with_reducible exact kd_4 | with_reducible exact kd_5 | with_reducible exact kd_6 | with_reducible exact kd_27 | with_reducible exact kd_28 | with_reducible exact kd_29 | with_reducible exact kd_31 | with_reducible exact kd_33 | with_reducible exact kd_34 | with_reducible exact kd_35 | with_reducible exact kd_36 | with_reducible exact kd_38 | with_reducible exact kd_40 | with_reducible exact kd_86 | with_reducible exact kd_87 | with_reducible exact kd_88 | with_reducible exact kd_89 | with_reducible exact kd_90 | with_reducible exact kd_91 | with_reducible exact kd_92 | with_reducible exact kd_93 | with_reducible exact kd_94 | with_reducible exact kd_95 | with_reducible exact kd_96 | with_reducible exact kd_97 | with_reducible exact kd_98 | with_reducible exact kd_99 | with_reducible exact kd_100 | with_reducible exact kd_101 | with_reducible exact kd_102 | with_reducible exact kq_4 | with_reducible exact kq_6 | with_reducible exact kq_25 | omega) only [wX4_readPad_0, wX4_readPad_1, wX4_readPad_4, wX4_readPad_6, wX4_readPad_9, wX4_readPad_11, wX4_readPad_12, wX4_readPad_13, wX4_readPad_14, wX4_readPad_15, wX4_readPad_18, wX4_readPad_21, wX4_readPad_22, wX4_readPad_24, wX4_readPad_25, wX4_readPad_28, wX4_readPad_31, wX4_readPad_34, wX4_readPad_35, wX4_readPad_38, wX4_readPad_39, wX4_readPad_42, wX4_readPad_43, wX4_readPad_46, wX4_readPad_49, wX4_readPad_52, wX4_readPad_53, wX4_readPad_54, wX4_readPad_57, wX4_readPad_58, wX4_readPad_59, wX4_readPad_62, wX4_readPad_63, wX4_readPad_66, wX4_readPad_67, wX4_readPad_68, wX4_readPad_69, wX4_readPad_72, wX4_readPad_73, wX4_readPad_76, wX4_readPad_77, wX4_readPad_80, wX4_readPad_83, wX4_readPad_84, wX4_readPad_87, wX4_readPad_89, wX4_readPad_92, wX4_readPad_93, wX4_readPad_96, wX4_readPad_99, psh_some, psh_none, rf_0_0, rf_0_1, rf_0_2, rf_0_3, rf_0_4, rf_0_5, rf_0_6, rf_0_7, rf_1_0, ln_2, rf_3_1, rf_3_2, rf_3_3, ln_4, ln_5, ln_6, rf_25_0, rf_25_1, ln_25, rf_26_0, rf_26_1, rf_26_2, rf_26_3, ln_27, ln_28, ln_29, rf_30_0, ln_31, rf_32_0, rf_32_1, rf_32_2, rf_32_3, ln_33, ln_34, ln_35, ln_36, rf_37_0, ln_38, rf_39_0, ln_40, ln_41, i0, iI_lt, iI_le, iI_eq, iI_in, iI_nat, iI_add, iI_sub, fault_spec h hL hp ho]
    rw [if_neg c]
    exact ⟨by trivial, fun z => absurd z c, fun c _ _ => (by trivial)⟩
