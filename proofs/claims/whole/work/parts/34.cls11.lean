/-! the class: who -/
def cpl : List Int → List Int → Nat
  | [], _ => 0
  | _ :: _, [] => 0
  | a :: s, b :: l => if a = b then cpl s l + 1 else 0
theorem cpl_le : ∀ (s l : List Int), cpl s l ≤ s.length
  | [], _ => Nat.le_refl _
  | _ :: _, [] => Nat.zero_le _
  | a :: s, b :: l => by
    rw [cpl, List.length_cons]
    have := cpl_le s l
    split <;> omega
def plF (s l : List Int) : Nat → Nat → Option Nat
  | 0, _ => none
  | k + 1, p => if cpl s (l.drop p) = s.length then some p else plF s l k (p + 1)
def hasF (l : List Int) : List (List Int) → Nat → Bool
  | [], _ => true
  | s :: r, p => match plF s l (l.length + 1 - s.length - p) p with
    | none => false
    | some e => hasF l r (e + s.length)
theorem plF_rg {s l : List Int} : ∀ (k p e : Nat), plF s l k p = some e → p ≤ e ∧ e < p + k
  | 0, _, _, h => by cases h
  | k + 1, p, e, h => by
    rw [plF] at h
    split at h
    · cases h
      omega
    · have := plF_rg k (p + 1) e h
      omega
section PL
variable {X : Env0} {d rs rl : Nat} {μ : Mem} {P : Option Value → Mem → Prop} {L : Int} {s l : List Int}
theorem alike_loop {p : Nat} {w : Value} (hrs : isRw rs) (hrl : isRw rl) (hs : Rw μ rs s) (hl : Rw μ rl l) (os : rowOK L s) (ol : rowOK L l) (hL : 1 ≤ L ∧ L ≤ 3) (hp : p + s.length ≤ l.length) : ∀ (k j : Nat), k + j = s.length →
    Wp X (d + 1) 90 18 [.ref rs, .ref rl, w, .int (iI p), .int (iI j)] [] μ P = Wp X (d + 1) 90 50 [.ref rs, .ref rl, w, .int (iI p), .int (iI ((j + cpl (s.drop j) (l.drop (p + j)) : Nat)))] [] μ P := by
  have e1 := hrs.1
  have e2 := hrl.1
  have e3 := hs.2.1
  have e4 := hl.2.1
  have e5 := os.1
  have e6 := ol.1
  intro k
  induction k with
  | zero =>
    intro j hj
    have h0 : s.drop j = [] := List.drop_of_length_le (by omega)
    rw [wX4_placeOf_18, h0, cpl]
    simp only [Nat.add_zero]
    simp (disch := first | assumption | with_reducible exact kd_0 | with_reducible exact kd_1 | with_reducible exact kd_3 | with_reducible exact kd_25 | with_reducible exact kd_26 | with_reducible exact kd_32 | with_reducible exact kd_30 | with_reducible exact kd_37 | with_reducible exact kd_39 | with_reducible exact kd_41 | with_reducible exact kd_2 | with_reducible exact kd_4 | with_reducible exact kd_5 | with_reducible exact kd_6 | with_reducible exact kd_27 | with_reducible exact kd_28 | with_reducible exact kd_29 | with_reducible exact kd_31 | with_reducible exact kd_33 | with_reducible exact kd_34 | with_reducible exact kd_35 | with_reducible exact kd_36 | with_reducible exact kd_38 | with_reducible exact kd_40 | with_reducible exact kd_86 | with_reducible exact kd_87 | with_reducible exact kd_88 | with_reducible exact kd_89 | with_reducible exact kd_90 | with_reducible exact kd_91 | with_reducible exact kd_92 | with_reducible exact kd_93 | with_reducible exact kd_94 | with_reducible exact kd_95 | with_reducible exact kd_96 | with_reducible exact kd_97 | with_reducible exact kd_98 | with_reducible exact kd_99 | with_reducible exact kd_100 | with_reducible exact kd_101 | with_reducible exact kd_102 | with_reducible exact kq_4 | with_reducible exact kq_6 | with_reducible exact kq_25 | omega) only [wX4_placeOf_0, wX4_placeOf_1, wX4_placeOf_3, wX4_placeOf_3n, wX4_placeOf_4, wX4_placeOf_7, wX4_placeOf_8, wX4_placeOf_8n, wX4_placeOf_9, wX4_placeOf_12, wX4_placeOf_15, wX4_placeOf_16, wX4_placeOf_20, wX4_placeOf_20n, wX4_placeOf_21, wX4_placeOf_24, wX4_placeOf_27, wX4_placeOf_27n, wX4_placeOf_28, wX4_placeOf_30, wX4_placeOf_33, wX4_placeOf_33n, wX4_placeOf_34, wX4_placeOf_35, wX4_placeOf_37, wX4_placeOf_38, wX4_placeOf_41, wX4_placeOf_44, wX4_placeOf_47, wX4_placeOf_52, wX4_placeOf_52n, wX4_placeOf_53, wX4_placeOf_56, wX4_placeOf_59, wX4_placeOf_60, wX4_placeOf_61, wX4_placeOf_64, wX4_placeOf_67, wX4_placeOf_69, psh_some, psh_none, i0, iI_lt, iI_le, iI_eq, iI_in, iI_nat, iI_add, iI_sub, e3]
    rw [if_pos (by omega)]
  | succ k ih =>
    intro j hj
    have f := ih (j + 1) (by omega)
    have b1 := atL_nat (l := s) (i := j) (by omega)
    have b2 := atL_nat (l := l) (i := p + j) (by omega)
    have b3 := rowOK_at os (i := j) (by omega)
    have b4 := rowOK_at ol (i := p + j) (by omega)
    rw [Int.natCast_add, Int.natCast_one] at f
    rw [Int.natCast_add] at b2
    rw [drop_cons (l := s) (i := j) (by omega), drop_cons (l := l) (i := p + j) (by omega), cpl, wX4_placeOf_18]
    simp (disch := first | assumption | with_reducible exact kd_0 | with_reducible exact kd_1 | with_reducible exact kd_3 | with_reducible exact kd_25 | with_reducible exact kd_26 | with_reducible exact kd_32 | with_reducible exact kd_30 | with_reducible exact kd_37 | with_reducible exact kd_39 | with_reducible exact kd_41 | with_reducible exact kd_2 | with_reducible exact kd_4 | with_reducible exact kd_5 | with_reducible exact kd_6 | with_reducible exact kd_27 | with_reducible exact kd_28 | with_reducible exact kd_29 | with_reducible exact kd_31 | with_reducible exact kd_33 | with_reducible exact kd_34 | with_reducible exact kd_35 | with_reducible exact kd_36 | with_reducible exact kd_38 | with_reducible exact kd_40 | with_reducible exact kd_86 | with_reducible exact kd_87 | with_reducible exact kd_88 | with_reducible exact kd_89 | with_reducible exact kd_90 | with_reducible exact kd_91 | with_reducible exact kd_92 | with_reducible exact kd_93 | with_reducible exact kd_94 | with_reducible exact kd_95 | with_reducible exact kd_96 | with_reducible exact kd_97 | with_reducible exact kd_98 | with_reducible exact kd_99 | with_reducible exact kd_100 | with_reducible exact kd_101 | with_reducible exact kd_102 | with_reducible exact kq_4 | with_reducible exact kq_6 | with_reducible exact kq_25 | omega) only [wX4_placeOf_0, wX4_placeOf_1, wX4_placeOf_3, wX4_placeOf_3n, wX4_placeOf_4, wX4_placeOf_7, wX4_placeOf_8, wX4_placeOf_8n, wX4_placeOf_9, wX4_placeOf_12, wX4_placeOf_15, wX4_placeOf_16, wX4_placeOf_20, wX4_placeOf_20n, wX4_placeOf_21, wX4_placeOf_24, wX4_placeOf_27, wX4_placeOf_27n, wX4_placeOf_28, wX4_placeOf_30, wX4_placeOf_33, wX4_placeOf_33n, wX4_placeOf_34, wX4_placeOf_35, wX4_placeOf_37, wX4_placeOf_38, wX4_placeOf_41, wX4_placeOf_44, wX4_placeOf_47, wX4_placeOf_52, wX4_placeOf_52n, wX4_placeOf_53, wX4_placeOf_56, wX4_placeOf_59, wX4_placeOf_60, wX4_placeOf_61, wX4_placeOf_64, wX4_placeOf_67, wX4_placeOf_69, psh_some, psh_none, i0, iI_lt, iI_le, iI_eq, iI_in, iI_nat, iI_add, iI_sub, e3, at_spec hrs hs, at_spec hrl hl, b1, b2, f]
    rw [if_neg (by omega)]
    by_cases c : s.getD j 0 = l.getD (p + j) 0
    · rw [if_pos c, if_pos c]
      rw [show j + 1 + cpl (s.drop (j + 1)) (l.drop (p + (j + 1))) = j + (cpl (s.drop (j + 1)) (l.drop (p + j + 1)) + 1) by rw [Nat.add_assoc p j 1]; omega]
    · rw [if_neg c, if_neg c]
      simp only [Nat.add_zero]
def plI (o : Option Nat) : Int := match o with
  | none => -6
  | some e => e
theorem place_loop {w w2 : Value} (hrs : isRw rs) (hrl : isRw rl) (hs : Rw μ rs s) (hl : Rw μ rl l) (os : rowOK L s) (ol : rowOK L l) (hL : 1 ≤ L ∧ L ≤ 3) : ∀ (k p : Nat) (w2 : Value), k = l.length + 1 - s.length - p → p ≤ 100 →
    Wp X (d + 1) 90 2 [.ref rs, .ref rl, w, .int (iI p), w2] [] μ P = P (some (.int (iI (plI (plF s l k p))))) μ := by
  have e1 := hrs.1
  have e2 := hrl.1
  have e3 := hs.2.1
  have e4 := hl.2.1
  have e5 := os.1
  have e6 := ol.1
  intro k
  induction k with
  | zero =>
    intro p w2 hp hp2
    rw [wX4_placeOf_2, plF]
    simp (disch := first | assumption | with_reducible exact kd_0 | with_reducible exact kd_1 | with_reducible exact kd_3 | with_reducible exact kd_25 | with_reducible exact kd_26 | with_reducible exact kd_32 | with_reducible exact kd_30 | with_reducible exact kd_37 | with_reducible exact kd_39 | with_reducible exact kd_41 | with_reducible exact kd_2 | with_reducible exact kd_4 | with_reducible exact kd_5 | with_reducible exact kd_6 | with_reducible exact kd_27 | with_reducible exact kd_28 | with_reducible exact kd_29 | with_reducible exact kd_31 | with_reducible exact kd_33 | with_reducible exact kd_34 | with_reducible exact kd_35 | with_reducible exact kd_36 | with_reducible exact kd_38 | with_reducible exact kd_40 | with_reducible exact kd_86 | with_reducible exact kd_87 | with_reducible exact kd_88 | with_reducible exact kd_89 | with_reducible exact kd_90 | with_reducible exact kd_91 | with_reducible exact kd_92 | with_reducible exact kd_93 | with_reducible exact kd_94 | with_reducible exact kd_95 | with_reducible exact kd_96 | with_reducible exact kd_97 | with_reducible exact kd_98 | with_reducible exact kd_99 | with_reducible exact kd_100 | with_reducible exact kd_101 | with_reducible exact kd_102 | with_reducible exact kq_4 | with_reducible exact kq_6 | with_reducible exact kq_25 | omega) only [wX4_placeOf_0, wX4_placeOf_1, wX4_placeOf_3, wX4_placeOf_3n, wX4_placeOf_4, wX4_placeOf_7, wX4_placeOf_8, wX4_placeOf_8n, wX4_placeOf_9, wX4_placeOf_12, wX4_placeOf_15, wX4_placeOf_16, wX4_placeOf_20, wX4_placeOf_20n, wX4_placeOf_21, wX4_placeOf_24, wX4_placeOf_27, wX4_placeOf_27n, wX4_placeOf_28, wX4_placeOf_30, wX4_placeOf_33, wX4_placeOf_33n, wX4_placeOf_34, wX4_placeOf_35, wX4_placeOf_37, wX4_placeOf_38, wX4_placeOf_41, wX4_placeOf_44, wX4_placeOf_47, wX4_placeOf_52, wX4_placeOf_52n, wX4_placeOf_53, wX4_placeOf_56, wX4_placeOf_59, wX4_placeOf_60, wX4_placeOf_61, wX4_placeOf_64, wX4_placeOf_67, wX4_placeOf_69, psh_some, psh_none, i0, iI_lt, iI_le, iI_eq, iI_in, iI_nat, iI_add, iI_sub, e3, e4]
    rw [if_pos (by omega)]
    rfl
  | succ k ih =>
    intro p w2 hp hp2
    have c1 := cpl_le s (l.drop p)
    have f := fun w2 => ih (p + 1) w2 (by omega) (by omega)
    have g := alike_loop (X := X) (d := d) (P := P) (p := p) (w := w) hrs hrl hs hl os ol hL (by omega) s.length 0 (by omega)
    simp only [Int.natCast_zero, List.drop_zero, Nat.zero_add, Nat.add_zero] at g
    rw [Int.natCast_add, Int.natCast_one] at f
    rw [wX4_placeOf_2, plF]
    simp (disch := first | assumption | with_reducible exact kd_0 | with_reducible exact kd_1 | with_reducible exact kd_3 | with_reducible exact kd_25 | with_reducible exact kd_26 | with_reducible exact kd_32 | with_reducible exact kd_30 | with_reducible exact kd_37 | with_reducible exact kd_39 | with_reducible exact kd_41 | with_reducible exact kd_2 | with_reducible exact kd_4 | with_reducible exact kd_5 | with_reducible exact kd_6 | with_reducible exact kd_27 | with_reducible exact kd_28 | with_reducible exact kd_29 | with_reducible exact kd_31 | with_reducible exact kd_33 | with_reducible exact kd_34 | with_reducible exact kd_35 | with_reducible exact kd_36 | with_reducible exact kd_38 | with_reducible exact kd_40 | with_reducible exact kd_86 | with_reducible exact kd_87 | with_reducible exact kd_88 | with_reducible exact kd_89 | with_reducible exact kd_90 | with_reducible exact kd_91 | with_reducible exact kd_92 | with_reducible exact kd_93 | with_reducible exact kd_94 | with_reducible exact kd_95 | with_reducible exact kd_96 | with_reducible exact kd_97 | with_reducible exact kd_98 | with_reducible exact kd_99 | with_reducible exact kd_100 | with_reducible exact kd_101 | with_reducible exact kd_102 | with_reducible exact kq_4 | with_reducible exact kq_6 | with_reducible exact kq_25 | omega) only [wX4_placeOf_0, wX4_placeOf_1, wX4_placeOf_3, wX4_placeOf_3n, wX4_placeOf_4, wX4_placeOf_7, wX4_placeOf_8, wX4_placeOf_8n, wX4_placeOf_9, wX4_placeOf_12, wX4_placeOf_15, wX4_placeOf_16, wX4_placeOf_20, wX4_placeOf_20n, wX4_placeOf_21, wX4_placeOf_24, wX4_placeOf_27, wX4_placeOf_27n, wX4_placeOf_28, wX4_placeOf_30, wX4_placeOf_33, wX4_placeOf_33n, wX4_placeOf_34, wX4_placeOf_35, wX4_placeOf_37, wX4_placeOf_38, wX4_placeOf_41, wX4_placeOf_44, wX4_placeOf_47, wX4_placeOf_50, wX4_placeOf_52, wX4_placeOf_52n, wX4_placeOf_53, wX4_placeOf_56, wX4_placeOf_59, wX4_placeOf_60, wX4_placeOf_61, wX4_placeOf_64, wX4_placeOf_67, wX4_placeOf_69, psh_some, psh_none, i0, iI_lt, iI_le, iI_eq, iI_in, iI_nat, iI_add, iI_sub, e3, e4, g, f]
    rw [if_neg (by omega)]
    by_cases c : cpl s (l.drop p) = s.length
    · rw [if_pos (by omega), if_pos c]
      rfl
    · rw [if_neg (by omega), if_neg c]
theorem placeOf_spec {p : Nat} (hrs : isRw rs) (hrl : isRw rl) (hs : Rw μ rs s) (hl : Rw μ rl l) (os : rowOK L s) (ol : rowOK L l) (hL : 1 ≤ L ∧ L ≤ 3) (hp : p ≤ 100) :
    Wp X (d + 1) 90 0 [.ref rs, .ref rl, .int (iI p), .retAddr 0, .retAddr 0] [] μ P = P (some (.int (iI (plI (plF s l (l.length + 1 - s.length - p) p))))) μ := by
  have f := place_loop (X := X) (d := d) (P := P) (w := .int (iI p)) (w2 := .retAddr 0) hrs hrl hs hl os ol hL _ p (.retAddr 0) rfl hp
  simp (disch := first | assumption | with_reducible exact kd_0 | with_reducible exact kd_1 | with_reducible exact kd_3 | with_reducible exact kd_25 | with_reducible exact kd_26 | with_reducible exact kd_32 | with_reducible exact kd_30 | with_reducible exact kd_37 | with_reducible exact kd_39 | with_reducible exact kd_41 | with_reducible exact kd_2 | with_reducible exact kd_4 | with_reducible exact kd_5 | with_reducible exact kd_6 | with_reducible exact kd_27 | with_reducible exact kd_28 | with_reducible exact kd_29 | with_reducible exact kd_31 | with_reducible exact kd_33 | with_reducible exact kd_34 | with_reducible exact kd_35 | with_reducible exact kd_36 | with_reducible exact kd_38 | with_reducible exact kd_40 | with_reducible exact kd_86 | with_reducible exact kd_87 | with_reducible exact kd_88 | with_reducible exact kd_89 | with_reducible exact kd_90 | with_reducible exact kd_91 | with_reducible exact kd_92 | with_reducible exact kd_93 | with_reducible exact kd_94 | with_reducible exact kd_95 | with_reducible exact kd_96 | with_reducible exact kd_97 | with_reducible exact kd_98 | with_reducible exact kd_99 | with_reducible exact kd_100 | with_reducible exact kd_101 | with_reducible exact kd_102 | with_reducible exact kq_4 | with_reducible exact kq_6 | with_reducible exact kq_25 | omega) only [wX4_placeOf_0, wX4_placeOf_1, wX4_placeOf_3, wX4_placeOf_3n, wX4_placeOf_4, wX4_placeOf_7, wX4_placeOf_8, wX4_placeOf_8n, wX4_placeOf_9, wX4_placeOf_12, wX4_placeOf_15, wX4_placeOf_16, wX4_placeOf_20, wX4_placeOf_20n, wX4_placeOf_21, wX4_placeOf_24, wX4_placeOf_27, wX4_placeOf_27n, wX4_placeOf_28, wX4_placeOf_30, wX4_placeOf_33, wX4_placeOf_33n, wX4_placeOf_34, wX4_placeOf_35, wX4_placeOf_37, wX4_placeOf_38, wX4_placeOf_41, wX4_placeOf_44, wX4_placeOf_47, wX4_placeOf_52, wX4_placeOf_52n, wX4_placeOf_53, wX4_placeOf_56, wX4_placeOf_59, wX4_placeOf_60, wX4_placeOf_61, wX4_placeOf_64, wX4_placeOf_67, wX4_placeOf_69, psh_some, psh_none, f]
end PL
theorem scrapAt_spec {X : Env0} {d i : Nat} {μ : Mem} {P : Option Value → Mem → Prop} {q : Co} (h : CoP μ 3 q) (hi : i < q.2.2.length) : Wp X d 9 0 [.ref 3, .int (iI i)] [] μ P = P (some (.ref (19 + 2 * i))) μ := by
  have h1 := h.2.2.2.2.2.1
  have h2 : μ 3 4 = iI q.2.2.length := h.2.2.2.2.2.2.1
  have h3 : rf 6 i = 19 + 2 * i := rfScr (Or.inl rfl : isCo 3) i (by omega)
  simp (disch := first | assumption | with_reducible exact kd_0 | with_reducible exact kd_1 | with_reducible exact kd_3 | with_reducible exact kd_25 | with_reducible exact kd_26 | with_reducible exact kd_32 | with_reducible exact kd_30 | with_reducible exact kd_37 | with_reducible exact kd_39 | with_reducible exact kd_41 | with_reducible exact kd_2 | with_reducible exact kd_4 | with_reducible exact kd_5 | with_reducible exact kd_6 | with_reducible exact kd_27 | with_reducible exact kd_28 | with_reducible exact kd_29 | with_reducible exact kd_31 | with_reducible exact kd_33 | with_reducible exact kd_34 | with_reducible exact kd_35 | with_reducible exact kd_36 | with_reducible exact kd_38 | with_reducible exact kd_40 | with_reducible exact kd_86 | with_reducible exact kd_87 | with_reducible exact kd_88 | with_reducible exact kd_89 | with_reducible exact kd_90 | with_reducible exact kd_91 | with_reducible exact kd_92 | with_reducible exact kd_93 | with_reducible exact kd_94 | with_reducible exact kd_95 | with_reducible exact kd_96 | with_reducible exact kd_97 | with_reducible exact kd_98 | with_reducible exact kd_99 | with_reducible exact kd_100 | with_reducible exact kd_101 | with_reducible exact kd_102 | with_reducible exact kq_4 | with_reducible exact kq_6 | with_reducible exact kq_25 | omega) only [wX0_scrapAt_0, wX0_scrapAt_1, wX0_scrapAt_4, wX0_scrapAt_5, wX0_scrapAt_6, wX0_scrapAt_9, wX0_scrapAt_12, wX0_scrapAt_13, wX0_scrapAt_14, wX0_scrapAt_17, wX0_scrapAt_18, wX0_scrapAt_21, wX0_scrapAt_22, wX0_scrapAt_23, wX0_scrapAt_26, wX0_scrapAt_27, wX0_scrapAt_27n, psh_some, psh_none, rf_0_0, rf_0_1, rf_0_2, rf_0_3, rf_0_4, rf_0_5, rf_0_6, rf_0_7, rf_1_0, ln_2, rf_3_1, rf_3_2, rf_3_3, ln_4, ln_5, ln_6, rf_25_0, rf_25_1, ln_25, rf_26_0, rf_26_1, rf_26_2, rf_26_3, ln_27, ln_28, ln_29, rf_30_0, ln_31, rf_32_0, rf_32_1, rf_32_2, rf_32_3, ln_33, ln_34, ln_35, ln_36, rf_37_0, ln_38, rf_39_0, ln_40, ln_41, i0, iI_lt, iI_le, iI_eq, iI_in, iI_nat, iI_add, iI_sub, h2, Int.toNat_natCast, h3]
  rw [if_neg (by omega), if_neg (by omega), if_neg (by omega), and_t (by omega)]
theorem dropS_cons {l : List (List Int)} {i : Nat} (h : i < l.length) : l.drop i = l.getD i [] :: l.drop (i + 1) := by
  rw [List.getD_eq_getElem?_getD, List.getElem?_eq_getElem h]
  exact List.drop_eq_getElem_cons h
theorem scraps_loop {X : Env0} {d r : Nat} {μ : Mem} {P : Option Value → Mem → Prop} {q : Co} {l : List Int} (h : CoP μ 3 q) (hr : isRw r) (hl : Rw μ r l) (ol : rowOK q.1 l) : ∀ (k i p : Nat) (w1 w2 : Value), k + i = q.2.2.length → p ≤ 12 →
    Wp X (d + 2) 89 4 [.ref 0, .ref r, .int (iI p), .int (iI i), w1, w2] [] μ P = P (some (.int (iI (if hasF l (q.2.2.drop i) p then 1 else 0)))) μ := by
  have h1 := h.2.2.2.2.2.1
  have h2 : μ 3 4 = iI q.2.2.length := h.2.2.2.2.2.2.1
  have e1 := hr.1
  have e2 := ol.1
  intro k
  induction k with
  | zero =>
    intro i p w1 w2 hi hp
    have h0 : q.2.2.drop i = [] := List.drop_of_length_le (by omega)
    rw [wX4_hasAllScraps_4, h0]
    simp (disch := first | assumption | with_reducible exact kd_0 | with_reducible exact kd_1 | with_reducible exact kd_3 | with_reducible exact kd_25 | with_reducible exact kd_26 | with_reducible exact kd_32 | with_reducible exact kd_30 | with_reducible exact kd_37 | with_reducible exact kd_39 | with_reducible exact kd_41 | with_reducible exact kd_2 | with_reducible exact kd_4 | with_reducible exact kd_5 | with_reducible exact kd_6 | with_reducible exact kd_27 | with_reducible exact kd_28 | with_reducible exact kd_29 | with_reducible exact kd_31 | with_reducible exact kd_33 | with_reducible exact kd_34 | with_reducible exact kd_35 | with_reducible exact kd_36 | with_reducible exact kd_38 | with_reducible exact kd_40 | with_reducible exact kd_86 | with_reducible exact kd_87 | with_reducible exact kd_88 | with_reducible exact kd_89 | with_reducible exact kd_90 | with_reducible exact kd_91 | with_reducible exact kd_92 | with_reducible exact kd_93 | with_reducible exact kd_94 | with_reducible exact kd_95 | with_reducible exact kd_96 | with_reducible exact kd_97 | with_reducible exact kd_98 | with_reducible exact kd_99 | with_reducible exact kd_100 | with_reducible exact kd_101 | with_reducible exact kd_102 | with_reducible exact kq_4 | with_reducible exact kq_6 | with_reducible exact kq_25 | omega) only [wX4_hasAllScraps_0, wX4_hasAllScraps_1, wX4_hasAllScraps_2, wX4_hasAllScraps_3, wX4_hasAllScraps_5, wX4_hasAllScraps_6, wX4_hasAllScraps_9, wX4_hasAllScraps_12, wX4_hasAllScraps_15, wX4_hasAllScraps_16, wX4_hasAllScraps_19, wX4_hasAllScraps_20, wX4_hasAllScraps_23, wX4_hasAllScraps_23n, wX4_hasAllScraps_25, wX4_hasAllScraps_25n, wX4_hasAllScraps_27, wX4_hasAllScraps_27n, wX4_hasAllScraps_30, wX4_hasAllScraps_32, wX4_hasAllScraps_35, wX4_hasAllScraps_35n, wX4_hasAllScraps_37, wX4_hasAllScraps_37n, wX4_hasAllScraps_38, wX4_hasAllScraps_39, wX4_hasAllScraps_42, wX4_hasAllScraps_44, wX4_hasAllScraps_44n, wX4_hasAllScraps_46, wX4_hasAllScraps_46n, wX4_hasAllScraps_49, wX4_hasAllScraps_51, wX4_hasAllScraps_53, wX4_hasAllScraps_56, wX4_hasAllScraps_57_0, wX4_hasAllScraps_57_1, wX4_hasAllScraps_58, wX4_hasAllScraps_60, wX4_hasAllScraps_60n, wX4_hasAllScraps_62, wX4_hasAllScraps_65, wX4_hasAllScraps_66, wX4_hasAllScraps_67, wX4_hasAllScraps_70, wX4_hasAllScraps_73, wX4_hasAllScraps_74_0, wX4_hasAllScraps_74_1, psh_some, psh_none, rf_0_0, rf_0_1, rf_0_2, rf_0_3, rf_0_4, rf_0_5, rf_0_6, rf_0_7, rf_1_0, ln_2, rf_3_1, rf_3_2, rf_3_3, ln_4, ln_5, ln_6, rf_25_0, rf_25_1, ln_25, rf_26_0, rf_26_1, rf_26_2, rf_26_3, ln_27, ln_28, ln_29, rf_30_0, ln_31, rf_32_0, rf_32_1, rf_32_2, rf_32_3, ln_33, ln_34, ln_35, ln_36, rf_37_0, ln_38, rf_39_0, ln_40, ln_41, i0, iI_lt, iI_le, iI_eq, iI_in, iI_nat, iI_add, iI_sub, h2]
    rw [if_pos (by omega)]
    rfl
  | succ k ih =>
    intro i p w1 w2 hi hp
    obtain ⟨a1, a2, a3⟩ := h.2.2.2.2.2.2.2.1 i (by omega)
    change Rw μ (19 + 2 * i) _ at a1
    have a4 : isRw (19 + 2 * i) := (rwScr (Or.inl rfl : isCo 3) i (by omega)).1
    have a5 := a4.1
    have a6 := a2.1
    have a7 := a1.2.1
    rw [dropS_cons (show i < q.2.2.length by omega), hasF, wX4_hasAllScraps_4]
    generalize hs : q.2.2.getD i [] = s at *
    have hpl := plF_rg (s := s) (l := l) (l.length + 1 - s.length - p) p
    cases ho : plF s l (l.length + 1 - s.length - p) p with
    | none =>
      have c : plI none = -6 := rfl
      simp (disch := first | assumption | with_reducible exact kd_0 | with_reducible exact kd_1 | with_reducible exact kd_3 | with_reducible exact kd_25 | with_reducible exact kd_26 | with_reducible exact kd_32 | with_reducible exact kd_30 | with_reducible exact kd_37 | with_reducible exact kd_39 | with_reducible exact kd_41 | with_reducible exact kd_2 | with_reducible exact kd_4 | with_reducible exact kd_5 | with_reducible exact kd_6 | with_reducible exact kd_27 | with_reducible exact kd_28 | with_reducible exact kd_29 | with_reducible exact kd_31 | with_reducible exact kd_33 | with_reducible exact kd_34 | with_reducible exact kd_35 | with_reducible exact kd_36 | with_reducible exact kd_38 | with_reducible exact kd_40 | with_reducible exact kd_86 | with_reducible exact kd_87 | with_reducible exact kd_88 | with_reducible exact kd_89 | with_reducible exact kd_90 | with_reducible exact kd_91 | with_reducible exact kd_92 | with_reducible exact kd_93 | with_reducible exact kd_94 | with_reducible exact kd_95 | with_reducible exact kd_96 | with_reducible exact kd_97 | with_reducible exact kd_98 | with_reducible exact kd_99 | with_reducible exact kd_100 | with_reducible exact kd_101 | with_reducible exact kd_102 | with_reducible exact kq_4 | with_reducible exact kq_6 | with_reducible exact kq_25 | omega) only [wX4_hasAllScraps_0, wX4_hasAllScraps_1, wX4_hasAllScraps_2, wX4_hasAllScraps_3, wX4_hasAllScraps_5, wX4_hasAllScraps_6, wX4_hasAllScraps_9, wX4_hasAllScraps_12, wX4_hasAllScraps_15, wX4_hasAllScraps_16, wX4_hasAllScraps_19, wX4_hasAllScraps_20, wX4_hasAllScraps_23, wX4_hasAllScraps_23n, wX4_hasAllScraps_25, wX4_hasAllScraps_25n, wX4_hasAllScraps_27, wX4_hasAllScraps_27n, wX4_hasAllScraps_30, wX4_hasAllScraps_32, wX4_hasAllScraps_35, wX4_hasAllScraps_35n, wX4_hasAllScraps_37, wX4_hasAllScraps_37n, wX4_hasAllScraps_38, wX4_hasAllScraps_39, wX4_hasAllScraps_42, wX4_hasAllScraps_44, wX4_hasAllScraps_44n, wX4_hasAllScraps_46, wX4_hasAllScraps_46n, wX4_hasAllScraps_49, wX4_hasAllScraps_51, wX4_hasAllScraps_53, wX4_hasAllScraps_56, wX4_hasAllScraps_57_0, wX4_hasAllScraps_57_1, wX4_hasAllScraps_58, wX4_hasAllScraps_60, wX4_hasAllScraps_60n, wX4_hasAllScraps_62, wX4_hasAllScraps_65, wX4_hasAllScraps_66, wX4_hasAllScraps_67, wX4_hasAllScraps_70, wX4_hasAllScraps_73, wX4_hasAllScraps_74_0, wX4_hasAllScraps_74_1, psh_some, psh_none, rf_0_0, rf_0_1, rf_0_2, rf_0_3, rf_0_4, rf_0_5, rf_0_6, rf_0_7, rf_1_0, ln_2, rf_3_1, rf_3_2, rf_3_3, ln_4, ln_5, ln_6, rf_25_0, rf_25_1, ln_25, rf_26_0, rf_26_1, rf_26_2, rf_26_3, ln_27, ln_28, ln_29, rf_30_0, ln_31, rf_32_0, rf_32_1, rf_32_2, rf_32_3, ln_33, ln_34, ln_35, ln_36, rf_37_0, ln_38, rf_39_0, ln_40, ln_41, i0, iI_lt, iI_le, iI_eq, iI_in, iI_nat, iI_add, iI_sub, h2, scrapAt_spec h, placeOf_spec a4 hr a1 hl a2 ol h.1, ho, c]
      rw [if_neg (by omega)]
      simp
    | some e =>
      have hpe := hpl e ho
      have c : plI (some e) = e := rfl
      have f' := fun w1 w2 => ih (i + 1) (e + s.length) w1 w2 (by omega) (by omega)
      simp only [Int.natCast_add, Int.natCast_one] at f'
      simp (disch := first | assumption | with_reducible exact kd_0 | with_reducible exact kd_1 | with_reducible exact kd_3 | with_reducible exact kd_25 | with_reducible exact kd_26 | with_reducible exact kd_32 | with_reducible exact kd_30 | with_reducible exact kd_37 | with_reducible exact kd_39 | with_reducible exact kd_41 | with_reducible exact kd_2 | with_reducible exact kd_4 | with_reducible exact kd_5 | with_reducible exact kd_6 | with_reducible exact kd_27 | with_reducible exact kd_28 | with_reducible exact kd_29 | with_reducible exact kd_31 | with_reducible exact kd_33 | with_reducible exact kd_34 | with_reducible exact kd_35 | with_reducible exact kd_36 | with_reducible exact kd_38 | with_reducible exact kd_40 | with_reducible exact kd_86 | with_reducible exact kd_87 | with_reducible exact kd_88 | with_reducible exact kd_89 | with_reducible exact kd_90 | with_reducible exact kd_91 | with_reducible exact kd_92 | with_reducible exact kd_93 | with_reducible exact kd_94 | with_reducible exact kd_95 | with_reducible exact kd_96 | with_reducible exact kd_97 | with_reducible exact kd_98 | with_reducible exact kd_99 | with_reducible exact kd_100 | with_reducible exact kd_101 | with_reducible exact kd_102 | with_reducible exact kq_4 | with_reducible exact kq_6 | with_reducible exact kq_25 | omega) only [wX4_hasAllScraps_0, wX4_hasAllScraps_1, wX4_hasAllScraps_2, wX4_hasAllScraps_3, wX4_hasAllScraps_5, wX4_hasAllScraps_6, wX4_hasAllScraps_9, wX4_hasAllScraps_12, wX4_hasAllScraps_15, wX4_hasAllScraps_16, wX4_hasAllScraps_19, wX4_hasAllScraps_20, wX4_hasAllScraps_23, wX4_hasAllScraps_23n, wX4_hasAllScraps_25, wX4_hasAllScraps_25n, wX4_hasAllScraps_27, wX4_hasAllScraps_27n, wX4_hasAllScraps_30, wX4_hasAllScraps_32, wX4_hasAllScraps_35, wX4_hasAllScraps_35n, wX4_hasAllScraps_37, wX4_hasAllScraps_37n, wX4_hasAllScraps_38, wX4_hasAllScraps_39, wX4_hasAllScraps_42, wX4_hasAllScraps_44, wX4_hasAllScraps_44n, wX4_hasAllScraps_46, wX4_hasAllScraps_46n, wX4_hasAllScraps_49, wX4_hasAllScraps_51, wX4_hasAllScraps_53, wX4_hasAllScraps_56, wX4_hasAllScraps_57_0, wX4_hasAllScraps_57_1, wX4_hasAllScraps_58, wX4_hasAllScraps_60, wX4_hasAllScraps_60n, wX4_hasAllScraps_62, wX4_hasAllScraps_65, wX4_hasAllScraps_66, wX4_hasAllScraps_67, wX4_hasAllScraps_70, wX4_hasAllScraps_73, wX4_hasAllScraps_74_0, wX4_hasAllScraps_74_1, psh_some, psh_none, rf_0_0, rf_0_1, rf_0_2, rf_0_3, rf_0_4, rf_0_5, rf_0_6, rf_0_7, rf_1_0, ln_2, rf_3_1, rf_3_2, rf_3_3, ln_4, ln_5, ln_6, rf_25_0, rf_25_1, ln_25, rf_26_0, rf_26_1, rf_26_2, rf_26_3, ln_27, ln_28, ln_29, rf_30_0, ln_31, rf_32_0, rf_32_1, rf_32_2, rf_32_3, ln_33, ln_34, ln_35, ln_36, rf_37_0, ln_38, rf_39_0, ln_40, ln_41, i0, iI_lt, iI_le, iI_eq, iI_in, iI_nat, iI_add, iI_sub, h2, scrapAt_spec h, placeOf_spec a4 hr a1 hl a2 ol h.1, ho, c, a7, f']
      rw [if_neg (by omega), if_neg (by omega)]
theorem hasAll_spec {X : Env0} {d r : Nat} {μ : Mem} {P : Option Value → Mem → Prop} {q : Co} {l : List Int} (h : CoP μ 3 q) (hr : isRw r) (hl : Rw μ r l) (ol : rowOK q.1 l) :
    Wp X (d + 2) 89 0 [.ref 0, .ref r, .retAddr 0, .retAddr 0, .retAddr 0, .retAddr 0] [] μ P = P (some (.int (iI (if hasF l q.2.2 0 then 1 else 0)))) μ := by
  have f := scraps_loop (X := X) (d := d) (P := P) h hr hl ol q.2.2.length 0 0 (.retAddr 0) (.retAddr 0) (by omega) (by omega)
  rw [Int.natCast_zero, List.drop_zero] at f
  simp (disch := first | assumption | with_reducible exact kd_0 | with_reducible exact kd_1 | with_reducible exact kd_3 | with_reducible exact kd_25 | with_reducible exact kd_26 | with_reducible exact kd_32 | with_reducible exact kd_30 | with_reducible exact kd_37 | with_reducible exact kd_39 | with_reducible exact kd_41 | with_reducible exact kd_2 | with_reducible exact kd_4 | with_reducible exact kd_5 | with_reducible exact kd_6 | with_reducible exact kd_27 | with_reducible exact kd_28 | with_reducible exact kd_29 | with_reducible exact kd_31 | with_reducible exact kd_33 | with_reducible exact kd_34 | with_reducible exact kd_35 | with_reducible exact kd_36 | with_reducible exact kd_38 | with_reducible exact kd_40 | with_reducible exact kd_86 | with_reducible exact kd_87 | with_reducible exact kd_88 | with_reducible exact kd_89 | with_reducible exact kd_90 | with_reducible exact kd_91 | with_reducible exact kd_92 | with_reducible exact kd_93 | with_reducible exact kd_94 | with_reducible exact kd_95 | with_reducible exact kd_96 | with_reducible exact kd_97 | with_reducible exact kd_98 | with_reducible exact kd_99 | with_reducible exact kd_100 | with_reducible exact kd_101 | with_reducible exact kd_102 | with_reducible exact kq_4 | with_reducible exact kq_6 | with_reducible exact kq_25 | omega) only [wX4_hasAllScraps_0, wX4_hasAllScraps_1, wX4_hasAllScraps_2, wX4_hasAllScraps_3, wX4_hasAllScraps_5, wX4_hasAllScraps_6, wX4_hasAllScraps_9, wX4_hasAllScraps_12, wX4_hasAllScraps_15, wX4_hasAllScraps_16, wX4_hasAllScraps_19, wX4_hasAllScraps_20, wX4_hasAllScraps_23, wX4_hasAllScraps_23n, wX4_hasAllScraps_25, wX4_hasAllScraps_25n, wX4_hasAllScraps_27, wX4_hasAllScraps_27n, wX4_hasAllScraps_30, wX4_hasAllScraps_32, wX4_hasAllScraps_35, wX4_hasAllScraps_35n, wX4_hasAllScraps_37, wX4_hasAllScraps_37n, wX4_hasAllScraps_38, wX4_hasAllScraps_39, wX4_hasAllScraps_42, wX4_hasAllScraps_44, wX4_hasAllScraps_44n, wX4_hasAllScraps_46, wX4_hasAllScraps_46n, wX4_hasAllScraps_49, wX4_hasAllScraps_51, wX4_hasAllScraps_53, wX4_hasAllScraps_56, wX4_hasAllScraps_57_0, wX4_hasAllScraps_57_1, wX4_hasAllScraps_58, wX4_hasAllScraps_60, wX4_hasAllScraps_60n, wX4_hasAllScraps_62, wX4_hasAllScraps_65, wX4_hasAllScraps_66, wX4_hasAllScraps_67, wX4_hasAllScraps_70, wX4_hasAllScraps_73, wX4_hasAllScraps_74_0, wX4_hasAllScraps_74_1, psh_some, psh_none, f]
def whoB (q : Co) (m : Nat) : Bool := match q.2.1 m with
  | none => false
  | some l => hasF l q.2.2 0
theorem who_loop {X : Env0} {d : Nat} {μ : Mem} {P : Option Value → Mem → Prop} {q : Co} (h : CoP μ 3 q) : ∀ (k i : Nat) (w : Value), k + i = 6 →
    Wp X (d + 3) 65 4 [.ref 0, .int (iI (bN (whoB q) i)), .int (iI i), w] [] μ P = P (some (.int (iI (bN (whoB q) 6)))) μ := by
  intro k
  induction k with
  | zero =>
    intro i w hi
    rw [wX4_who_4]
    simp (disch := first | assumption | with_reducible exact kd_0 | with_reducible exact kd_1 | with_reducible exact kd_3 | with_reducible exact kd_25 | with_reducible exact kd_26 | with_reducible exact kd_32 | with_reducible exact kd_30 | with_reducible exact kd_37 | with_reducible exact kd_39 | with_reducible exact kd_41 | with_reducible exact kd_2 | with_reducible exact kd_4 | with_reducible exact kd_5 | with_reducible exact kd_6 | with_reducible exact kd_27 | with_reducible exact kd_28 | with_reducible exact kd_29 | with_reducible exact kd_31 | with_reducible exact kd_33 | with_reducible exact kd_34 | with_reducible exact kd_35 | with_reducible exact kd_36 | with_reducible exact kd_38 | with_reducible exact kd_40 | with_reducible exact kd_86 | with_reducible exact kd_87 | with_reducible exact kd_88 | with_reducible exact kd_89 | with_reducible exact kd_90 | with_reducible exact kd_91 | with_reducible exact kd_92 | with_reducible exact kd_93 | with_reducible exact kd_94 | with_reducible exact kd_95 | with_reducible exact kd_96 | with_reducible exact kd_97 | with_reducible exact kd_98 | with_reducible exact kd_99 | with_reducible exact kd_100 | with_reducible exact kd_101 | with_reducible exact kd_102 | with_reducible exact kq_4 | with_reducible exact kq_6 | with_reducible exact kq_25 | omega) only [wX4_who_0, wX4_who_1, wX4_who_2, wX4_who_3, wX4_who_5, wX4_who_7, wX4_who_10, wX4_who_11, wX4_who_14, wX4_who_15, wX4_who_18, wX4_who_18n, wX4_who_19, wX4_who_19n, wX4_who_20, wX4_who_20n, wX4_who_23, wX4_who_24, wX4_who_24n, wX4_who_25, wX4_who_28, wX4_who_31, wX4_who_32, wX4_who_33, wX4_who_34, wX4_who_35, wX4_who_36, wX4_who_37, wX4_who_40, wX4_who_43, wX4_who_44, psh_some, psh_none, rf_0_0, rf_0_1, rf_0_2, rf_0_3, rf_0_4, rf_0_5, rf_0_6, rf_0_7, rf_1_0, ln_2, rf_3_1, rf_3_2, rf_3_3, ln_4, ln_5, ln_6, rf_25_0, rf_25_1, ln_25, rf_26_0, rf_26_1, rf_26_2, rf_26_3, ln_27, ln_28, ln_29, rf_30_0, ln_31, rf_32_0, rf_32_1, rf_32_2, rf_32_3, ln_33, ln_34, ln_35, ln_36, rf_37_0, ln_38, rf_39_0, ln_40, ln_41, i0, iI_lt, iI_le, iI_eq, iI_in, iI_nat, iI_add, iI_sub]
    rw [if_pos (by omega), show i = 6 by omega]
  | succ k ih =>
    intro i w hi
    have f := fun w => ih (i + 1) w (by omega)
    rw [Int.natCast_add, Int.natCast_one] at f
    have e3 := or_bit (show i < 6 by omega) (bN_lt (whoB q) i)
    have hi6 : ((i : Int)).toNat = i := Int.toNat_natCast i
    have him : manOf q i = q.2.1 i := by
      unfold manOf
      rw [if_pos (by omega), hi6]
    rw [wX4_who_4]
    rw [bN] at f
    cases hm : q.2.1 i with
    | none =>
      rw [hm] at him
      have e4 : whoB q i = false := by unfold whoB; rw [hm]
      rw [if_neg (by rw [e4]; decide)] at f
      simp only [Nat.add_zero] at f
      simp (disch := first | assumption | with_reducible exact kd_0 | with_reducible exact kd_1 | with_reducible exact kd_3 | with_reducible exact kd_25 | with_reducible exact kd_26 | with_reducible exact kd_32 | with_reducible exact kd_30 | with_reducible exact kd_37 | with_reducible exact kd_39 | with_reducible exact kd_41 | with_reducible exact kd_2 | with_reducible exact kd_4 | with_reducible exact kd_5 | with_reducible exact kd_6 | with_reducible exact kd_27 | with_reducible exact kd_28 | with_reducible exact kd_29 | with_reducible exact kd_31 | with_reducible exact kd_33 | with_reducible exact kd_34 | with_reducible exact kd_35 | with_reducible exact kd_36 | with_reducible exact kd_38 | with_reducible exact kd_40 | with_reducible exact kd_86 | with_reducible exact kd_87 | with_reducible exact kd_88 | with_reducible exact kd_89 | with_reducible exact kd_90 | with_reducible exact kd_91 | with_reducible exact kd_92 | with_reducible exact kd_93 | with_reducible exact kd_94 | with_reducible exact kd_95 | with_reducible exact kd_96 | with_reducible exact kd_97 | with_reducible exact kd_98 | with_reducible exact kd_99 | with_reducible exact kd_100 | with_reducible exact kd_101 | with_reducible exact kd_102 | with_reducible exact kq_4 | with_reducible exact kq_6 | with_reducible exact kq_25 | omega) only [wX4_who_0, wX4_who_1, wX4_who_2, wX4_who_3, wX4_who_5, wX4_who_7, wX4_who_10, wX4_who_11, wX4_who_14, wX4_who_15, wX4_who_18, wX4_who_18n, wX4_who_19, wX4_who_19n, wX4_who_20, wX4_who_20n, wX4_who_23, wX4_who_24, wX4_who_24n, wX4_who_25, wX4_who_28, wX4_who_31, wX4_who_32, wX4_who_33, wX4_who_34, wX4_who_35, wX4_who_36, wX4_who_37, wX4_who_40, wX4_who_43, wX4_who_44, psh_some, psh_none, rf_0_0, rf_0_1, rf_0_2, rf_0_3, rf_0_4, rf_0_5, rf_0_6, rf_0_7, rf_1_0, ln_2, rf_3_1, rf_3_2, rf_3_3, ln_4, ln_5, ln_6, rf_25_0, rf_25_1, ln_25, rf_26_0, rf_26_1, rf_26_2, rf_26_3, ln_27, ln_28, ln_29, rf_30_0, ln_31, rf_32_0, rf_32_1, rf_32_2, rf_32_3, ln_33, ln_34, ln_35, ln_36, rf_37_0, ln_38, rf_39_0, ln_40, ln_41, i0, iI_lt, iI_le, iI_eq, iI_in, iI_nat, iI_add, iI_sub, rowOf_n h, him, f]
      rw [if_neg (by omega)]
    | some l =>
      rw [hm] at him
      obtain ⟨a1, a2, a3, a4, a5, -⟩ := rowOf_s (X := X) (d := 0) (P := fun _ _ => True) h him
      have a6 := fun (d : Nat) P => (rowOf_s (X := X) (d := d) (P := P) h him).2.2.2.2.2
      have e4 : whoB q i = hasF l q.2.2 0 := by unfold whoB; rw [hm]
      rw [e4] at f
      simp (disch := first | assumption | with_reducible exact kd_0 | with_reducible exact kd_1 | with_reducible exact kd_3 | with_reducible exact kd_25 | with_reducible exact kd_26 | with_reducible exact kd_32 | with_reducible exact kd_30 | with_reducible exact kd_37 | with_reducible exact kd_39 | with_reducible exact kd_41 | with_reducible exact kd_2 | with_reducible exact kd_4 | with_reducible exact kd_5 | with_reducible exact kd_6 | with_reducible exact kd_27 | with_reducible exact kd_28 | with_reducible exact kd_29 | with_reducible exact kd_31 | with_reducible exact kd_33 | with_reducible exact kd_34 | with_reducible exact kd_35 | with_reducible exact kd_36 | with_reducible exact kd_38 | with_reducible exact kd_40 | with_reducible exact kd_86 | with_reducible exact kd_87 | with_reducible exact kd_88 | with_reducible exact kd_89 | with_reducible exact kd_90 | with_reducible exact kd_91 | with_reducible exact kd_92 | with_reducible exact kd_93 | with_reducible exact kd_94 | with_reducible exact kd_95 | with_reducible exact kd_96 | with_reducible exact kd_97 | with_reducible exact kd_98 | with_reducible exact kd_99 | with_reducible exact kd_100 | with_reducible exact kd_101 | with_reducible exact kd_102 | with_reducible exact kq_4 | with_reducible exact kq_6 | with_reducible exact kq_25 | omega) only [wX4_who_0, wX4_who_1, wX4_who_2, wX4_who_3, wX4_who_5, wX4_who_7, wX4_who_10, wX4_who_11, wX4_who_14, wX4_who_15, wX4_who_18, wX4_who_18n, wX4_who_19, wX4_who_19n, wX4_who_20, wX4_who_20n, wX4_who_23, wX4_who_24, wX4_who_24n, wX4_who_25, wX4_who_28, wX4_who_31, wX4_who_32, wX4_who_33, wX4_who_34, wX4_who_35, wX4_who_36, wX4_who_37, wX4_who_40, wX4_who_43, wX4_who_44, psh_some, psh_none, rf_0_0, rf_0_1, rf_0_2, rf_0_3, rf_0_4, rf_0_5, rf_0_6, rf_0_7, rf_1_0, ln_2, rf_3_1, rf_3_2, rf_3_3, ln_4, ln_5, ln_6, rf_25_0, rf_25_1, ln_25, rf_26_0, rf_26_1, rf_26_2, rf_26_3, ln_27, ln_28, ln_29, rf_30_0, ln_31, rf_32_0, rf_32_1, rf_32_2, rf_32_3, ln_33, ln_34, ln_35, ln_36, rf_37_0, ln_38, rf_39_0, ln_40, ln_41, i0, iI_lt, iI_le, iI_eq, iI_in, iI_nat, iI_add, iI_sub, a6, hasAll_spec h a5 a3 a4, e3]
      rw [if_neg (by omega)]
      cases hh : hasF l q.2.2 0 with
      | false =>
        rw [hh, if_neg (by decide)] at f
        simp only [Nat.add_zero] at f
        rw [if_pos (by decide)]
        exact f _
      | true =>
        rw [hh, if_pos rfl] at f
        rw [if_neg (by decide)]
        exact f _
def aWho (q : Co) : Int := bN (whoB q) 6
theorem C_who {X : Env0} {d : Nat} {μ : Mem} {σ : Sg} (h : CS μ σ) : Wp X (d + 3) 65 0 [.ref 0, .retAddr 0, .retAddr 0, .retAddr 0] [] μ (CPost μ σ (aWho σ.1)) := by
  have f := who_loop (X := X) (d := d) (P := CPost μ σ (aWho σ.1)) h.1 6 0 (.retAddr 0) (by omega)
  rw [Int.natCast_zero, bN, Int.natCast_zero] at f
  simp (disch := first | assumption | with_reducible exact kd_0 | with_reducible exact kd_1 | with_reducible exact kd_3 | with_reducible exact kd_25 | with_reducible exact kd_26 | with_reducible exact kd_32 | with_reducible exact kd_30 | with_reducible exact kd_37 | with_reducible exact kd_39 | with_reducible exact kd_41 | with_reducible exact kd_2 | with_reducible exact kd_4 | with_reducible exact kd_5 | with_reducible exact kd_6 | with_reducible exact kd_27 | with_reducible exact kd_28 | with_reducible exact kd_29 | with_reducible exact kd_31 | with_reducible exact kd_33 | with_reducible exact kd_34 | with_reducible exact kd_35 | with_reducible exact kd_36 | with_reducible exact kd_38 | with_reducible exact kd_40 | with_reducible exact kd_86 | with_reducible exact kd_87 | with_reducible exact kd_88 | with_reducible exact kd_89 | with_reducible exact kd_90 | with_reducible exact kd_91 | with_reducible exact kd_92 | with_reducible exact kd_93 | with_reducible exact kd_94 | with_reducible exact kd_95 | with_reducible exact kd_96 | with_reducible exact kd_97 | with_reducible exact kd_98 | with_reducible exact kd_99 | with_reducible exact kd_100 | with_reducible exact kd_101 | with_reducible exact kd_102 | with_reducible exact kq_4 | with_reducible exact kq_6 | with_reducible exact kq_25 | omega) only [wX4_who_0, wX4_who_1, wX4_who_2, wX4_who_3, wX4_who_5, wX4_who_7, wX4_who_10, wX4_who_11, wX4_who_14, wX4_who_15, wX4_who_18, wX4_who_18n, wX4_who_19, wX4_who_19n, wX4_who_20, wX4_who_20n, wX4_who_23, wX4_who_24, wX4_who_24n, wX4_who_25, wX4_who_28, wX4_who_31, wX4_who_32, wX4_who_33, wX4_who_34, wX4_who_35, wX4_who_36, wX4_who_37, wX4_who_40, wX4_who_43, wX4_who_44, psh_some, psh_none, f]
  exact ⟨rfl, h, keepX.rf⟩
