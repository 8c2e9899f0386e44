/-! the class: its state; the plain calls -/
abbrev Sg : Type := Co × List Int × (Nat → Option Co)
theorem CoP.fr {μ μ' : Mem} {c : Nat} {q : Co} (h : CoP μ c q) (hf : ∀ c', c ≤ c' → c' ≤ c + 21 → μ' c' = μ c') : CoP μ' c q := by
  obtain ⟨h1, h2, h3, h4, h5, h6, h7, h8, h9⟩ := h
  refine ⟨h1, by rw [hf c (by omega) (by omega)]; exact h2, fun m hm => by rw [hf _ (by omega) (by omega)]; exact h3 m hm, fun m l hm hl => ⟨(h4 m l hm hl).1.fr (hf _ (by omega) (by omega)) (hf _ (by omega) (by omega)), (h4 m l hm hl).2⟩,
    fun m hm => ?_, h6, by rw [hf c (by omega) (by omega)]; exact h7, fun i hi => ⟨(h8 i hi).1.fr (hf _ (by omega) (by omega)) (hf _ (by omega) (by omega)), (h8 i hi).2⟩, fun i hi => ?_⟩
  · obtain ⟨l, hl⟩ := h5 m hm
    exact ⟨l, hl.fr (hf _ (by omega) (by omega)) (hf _ (by omega) (by omega))⟩
  · obtain ⟨l, hl⟩ := h9 i hi
    exact ⟨l, hl.fr (hf _ (by omega) (by omega)) (hf _ (by omega) (by omega))⟩
def ImP (μ : Mem) (n : Nat) (o : Option Co) : Prop := match o with
  | none => μ (42 + 22 * n) 5 = iI 0
  | some q => μ (42 + 22 * n) 5 = iI 1 ∧ CoP μ (42 + 22 * n) q
theorem ImP.fr {μ μ' : Mem} {n : Nat} {o : Option Co} (h : ImP μ n o) (hf : ∀ c', 42 + 22 * n ≤ c' → c' ≤ 42 + 22 * n + 21 → μ' c' = μ c') : ImP μ' n o := by
  unfold ImP at h ⊢
  cases o with
  | none =>
    dsimp only at h ⊢
    rw [hf _ (by omega) (by omega)]
    exact h
  | some q =>
    dsimp only at h ⊢
    rw [hf _ (by omega) (by omega)]
    exact ⟨h.1, h.2.fr hf⟩
def CS (μ : Mem) (σ : Sg) : Prop := CoP μ 3 σ.1 ∧ Rw μ 1 σ.2.1 ∧ padOK σ.2.1 ∧ ∀ n, n < 2 → ImP μ n (σ.2.2 n)
/-- scratch cells apart, nothing changed -/
theorem CS.fr {μ μ' : Mem} {σ : Sg} (h : CS μ σ) (hf : ∀ c, (1 ≤ c ∧ c ≤ 25) ∨ (42 ≤ c ∧ c ≤ 85) → μ' c = μ c) : CS μ' σ :=
  ⟨h.1.fr (fun c h1 h2 => hf c (by omega)), h.2.1.fr (hf 1 (by omega)) (hf 2 (by omega)), h.2.2.1, fun n hn => (h.2.2.2 n hn).fr (fun c h1 h2 => hf c (by omega))⟩
theorem CS.pad {μ μ' : Mem} {σ : Sg} {l : List Int} (h : CS μ σ) (hf : ∀ c, (3 ≤ c ∧ c ≤ 25) ∨ (42 ≤ c ∧ c ≤ 85) → μ' c = μ c) (h1 : Rw μ' 1 l) (h2 : padOK l) : CS μ' (σ.1, l, σ.2.2) :=
  ⟨h.1.fr (fun c h1 h2 => hf c (by omega)), h1, h2, fun n hn => (h.2.2.2 n hn).fr (fun c h1 h2 => hf c (by omega))⟩
theorem CS.now {μ μ' : Mem} {σ : Sg} {q : Co} (h : CS μ σ) (hf : ∀ c, (1 ≤ c ∧ c ≤ 2) ∨ (42 ≤ c ∧ c ≤ 85) → μ' c = μ c) (h1 : CoP μ' 3 q) : CS μ' (q, σ.2.1, σ.2.2) :=
  ⟨h1, h.2.1.fr (hf 1 (by omega)) (hf 2 (by omega)), h.2.2.1, fun n hn => (h.2.2.2 n hn).fr (fun c h1 h2 => hf c (by omega))⟩
def keepX (μ μ' : Mem) : Prop := ∀ c, (26 ≤ c ∧ c ≤ 31) ∨ 86 ≤ c → μ' c = μ c
def CPost (μ : Mem) (σ' : Sg) (a : Int) (v : Option Value) (μ' : Mem) : Prop := v = some (.int (iI a)) ∧ CS μ' σ' ∧ keepX μ μ'
theorem keepX.rf {μ : Mem} : keepX μ μ := fun _ _ => rfl
/-- a man's row, by a whole number -/
def manOf (q : Co) (z : Int) : Option (List Int) := if 0 ≤ z ∧ z < 6 then q.2.1 z.toNat else none
theorem rowOf_n {X : Env0} {d : Nat} {μ : Mem} {P : Option Value → Mem → Prop} {q : Co} {z : Int} (h : CoP μ 3 q) (h1 : -2147483648 ≤ z) (h2 : z < 2147483648) (hn : manOf q z = none) : Wp X d 5 0 [.ref 3, .int (iI z)] [] μ P = P (some .null) μ := by
  refine rowOf_none h h1 h2 ?_
  unfold manOf at hn
  by_cases c : 0 ≤ z ∧ z < 6
  · rw [if_pos c] at hn
    exact Or.inr (Or.inr hn)
  · omega
theorem rowOf_s {X : Env0} {d : Nat} {μ : Mem} {P : Option Value → Mem → Prop} {q : Co} {z : Int} {l : List Int} (h : CoP μ 3 q) (hn : manOf q z = some l) : 0 ≤ z ∧ z < 6 ∧ Rw μ (7 + 2 * z.toNat) l ∧ rowOK q.1 l ∧ isRw (7 + 2 * z.toNat) ∧ Wp X d 5 0 [.ref 3, .int (iI z)] [] μ P = P (some (.ref (7 + 2 * z.toNat))) μ := by
  unfold manOf at hn
  by_cases c : 0 ≤ z ∧ z < 6
  · rw [if_pos c] at hn
    have h4 := h.2.2.2.1 z.toNat l (by omega) hn
    have h5 := rwMan (Or.inl rfl) z.toNat (by omega)
    exact ⟨c.1, c.2, h4.1, h4.2, h5.1, rowOf_some h c.1 c.2 hn⟩
  · rw [if_neg c] at hn
    cases hn
theorem u2_ne {μ : Mem} {c s c' s' : Nat} {x : Int32} (h : ¬ (c' = c ∧ s' = s)) : u2 μ c s x c' s' = μ c' s' := if_neg h
theorem begin_loop {X : Env0} {d : Nat} {w : Value} : ∀ (k i : Nat) (μ : Mem), k + i = 6 → Wp X d 1 12 [.ref 3, w, .int (iI i)] [] μ (fun v μ' => v = none ∧ (∀ m, i ≤ m → m < 6 → μ' 5 m = iI 0) ∧ ∀ c s, ¬ (c = 5 ∧ i ≤ s) → μ' c s = μ c s) := by
  intro k
  induction k with
  | zero =>
    intro i μ hi
    rw [wX0_begin_12]
    simp (disch := first | assumption | with_reducible exact kd_0 | with_reducible exact kd_1 | with_reducible exact kd_3 | with_reducible exact kd_25 | with_reducible exact kd_26 | with_reducible exact kd_32 | with_reducible exact kd_30 | with_reducible exact kd_37 | with_reducible exact kd_39 | with_reducible exact kd_41 | with_reducible exact kd_2 | with_reducible exact kd_4 | with_reducible exact kd_5 | with_reducible exact kd_6 | with_reducible exact kd_27 | with_reducible exact kd_28 | with_reducible exact kd_29 | with_reducible exact kd_31 | with_reducible exact kd_33 | with_reducible exact kd_34 | with_reducible exact kd_35 | with_reducible exact kd_36 | with_reducible exact kd_38 | with_reducible exact kd_40 | with_reducible exact kd_86 | with_reducible exact kd_87 | with_reducible exact kd_88 | with_reducible exact kd_89 | with_reducible exact kd_90 | with_reducible exact kd_91 | with_reducible exact kd_92 | with_reducible exact kd_93 | with_reducible exact kd_94 | with_reducible exact kd_95 | with_reducible exact kd_96 | with_reducible exact kd_97 | with_reducible exact kd_98 | with_reducible exact kd_99 | with_reducible exact kd_100 | with_reducible exact kd_101 | with_reducible exact kd_102 | with_reducible exact kq_4 | with_reducible exact kq_6 | with_reducible exact kq_25 | omega) only [wX0_begin_0, wX0_begin_1, wX0_begin_2, wX0_begin_5, wX0_begin_6, wX0_begin_7, wX0_begin_10, wX0_begin_11, wX0_begin_13, wX0_begin_15, wX0_begin_18, wX0_begin_19, wX0_begin_22, wX0_begin_23, wX0_begin_24, wX0_begin_25, wX0_begin_28, wX0_begin_31, psh_some, psh_none, rf_0_0, rf_0_1, rf_0_2, rf_0_3, rf_0_4, rf_0_5, rf_0_6, rf_0_7, rf_1_0, ln_2, rf_3_1, rf_3_2, rf_3_3, ln_4, ln_5, ln_6, rf_25_0, rf_25_1, ln_25, rf_26_0, rf_26_1, rf_26_2, rf_26_3, ln_27, ln_28, ln_29, rf_30_0, ln_31, rf_32_0, rf_32_1, rf_32_2, rf_32_3, ln_33, ln_34, ln_35, ln_36, rf_37_0, ln_38, rf_39_0, ln_40, ln_41, i0, iI_lt, iI_le, iI_eq, iI_in, iI_nat, iI_add, iI_sub]
    rw [if_pos (by omega)]
    exact ⟨by trivial, fun m h1 h2 => (by omega), fun c s _ => (by trivial)⟩
  | succ k ih =>
    intro i μ hi
    rw [wX0_begin_12]
    simp (disch := first | assumption | with_reducible exact kd_0 | with_reducible exact kd_1 | with_reducible exact kd_3 | with_reducible exact kd_25 | with_reducible exact kd_26 | with_reducible exact kd_32 | with_reducible exact kd_30 | with_reducible exact kd_37 | with_reducible exact kd_39 | with_reducible exact kd_41 | with_reducible exact kd_2 | with_reducible exact kd_4 | with_reducible exact kd_5 | with_reducible exact kd_6 | with_reducible exact kd_27 | with_reducible exact kd_28 | with_reducible exact kd_29 | with_reducible exact kd_31 | with_reducible exact kd_33 | with_reducible exact kd_34 | with_reducible exact kd_35 | with_reducible exact kd_36 | with_reducible exact kd_38 | with_reducible exact kd_40 | with_reducible exact kd_86 | with_reducible exact kd_87 | with_reducible exact kd_88 | with_reducible exact kd_89 | with_reducible exact kd_90 | with_reducible exact kd_91 | with_reducible exact kd_92 | with_reducible exact kd_93 | with_reducible exact kd_94 | with_reducible exact kd_95 | with_reducible exact kd_96 | with_reducible exact kd_97 | with_reducible exact kd_98 | with_reducible exact kd_99 | with_reducible exact kd_100 | with_reducible exact kd_101 | with_reducible exact kd_102 | with_reducible exact kq_4 | with_reducible exact kq_6 | with_reducible exact kq_25 | omega) only [wX0_begin_0, wX0_begin_1, wX0_begin_2, wX0_begin_5, wX0_begin_6, wX0_begin_7, wX0_begin_10, wX0_begin_11, wX0_begin_13, wX0_begin_15, wX0_begin_18, wX0_begin_19, wX0_begin_22, wX0_begin_23, wX0_begin_24, wX0_begin_25, wX0_begin_28, wX0_begin_31, psh_some, psh_none, rf_0_0, rf_0_1, rf_0_2, rf_0_3, rf_0_4, rf_0_5, rf_0_6, rf_0_7, rf_1_0, ln_2, rf_3_1, rf_3_2, rf_3_3, ln_4, ln_5, ln_6, rf_25_0, rf_25_1, ln_25, rf_26_0, rf_26_1, rf_26_2, rf_26_3, ln_27, ln_28, ln_29, rf_30_0, ln_31, rf_32_0, rf_32_1, rf_32_2, rf_32_3, ln_33, ln_34, ln_35, ln_36, rf_37_0, ln_38, rf_39_0, ln_40, ln_41, i0, iI_lt, iI_le, iI_eq, iI_in, iI_nat, iI_add, iI_sub, Int.toNat_natCast]
    rw [if_neg (by omega)]
    refine ⟨Or.inl (by trivial), by omega, ?_⟩
    refine (ih (i + 1) _ (by omega)).mono ?_
    rintro v μ' ⟨h1, h2, h3⟩
    refine ⟨h1, fun m h4 h5 => ?_, fun c s h4 => ?_⟩
    · by_cases hm : m = i
      · subst hm
        rw [h3 5 m (by omega), u2_s]
      · exact h2 m (by omega) h5
    · rw [h3 c s (by omega), u2_ne (by omega)]
theorem begin_spec {X : Env0} {d : Nat} {μ : Mem} {z : Int} : Wp X d 1 0 [.ref 3, .int (iI z), .retAddr 0] [] μ (fun v μ' => v = none ∧ μ' 3 0 = iI z ∧ μ' 3 4 = iI 0 ∧ (∀ m, m < 6 → μ' 5 m = iI 0) ∧ ∀ c, ¬ c = 3 → ¬ c = 5 → μ' c = μ c) := by
  have h := begin_loop (X := X) (d := d) (w := .int (iI z)) 6 0 (u2 (u2 μ 3 0 (iI z)) 3 4 (iI 0)) (by omega)
  simp (disch := first | assumption | with_reducible exact kd_0 | with_reducible exact kd_1 | with_reducible exact kd_3 | with_reducible exact kd_25 | with_reducible exact kd_26 | with_reducible exact kd_32 | with_reducible exact kd_30 | with_reducible exact kd_37 | with_reducible exact kd_39 | with_reducible exact kd_41 | with_reducible exact kd_2 | with_reducible exact kd_4 | with_reducible exact kd_5 | with_reducible exact kd_6 | with_reducible exact kd_27 | with_reducible exact kd_28 | with_reducible exact kd_29 | with_reducible exact kd_31 | with_reducible exact kd_33 | with_reducible exact kd_34 | with_reducible exact kd_35 | with_reducible exact kd_36 | with_reducible exact kd_38 | with_reducible exact kd_40 | with_reducible exact kd_86 | with_reducible exact kd_87 | with_reducible exact kd_88 | with_reducible exact kd_89 | with_reducible exact kd_90 | with_reducible exact kd_91 | with_reducible exact kd_92 | with_reducible exact kd_93 | with_reducible exact kd_94 | with_reducible exact kd_95 | with_reducible exact kd_96 | with_reducible exact kd_97 | with_reducible exact kd_98 | with_reducible exact kd_99 | with_reducible exact kd_100 | with_reducible exact kd_101 | with_reducible exact kd_102 | with_reducible exact kq_4 | with_reducible exact kq_6 | with_reducible exact kq_25 | omega) only [wX0_begin_0, wX0_begin_1, wX0_begin_2, wX0_begin_5, wX0_begin_6, wX0_begin_7, wX0_begin_10, wX0_begin_11, wX0_begin_13, wX0_begin_15, wX0_begin_18, wX0_begin_19, wX0_begin_22, wX0_begin_23, wX0_begin_24, wX0_begin_25, wX0_begin_28, wX0_begin_31, psh_some, psh_none, rf_0_0, rf_0_1, rf_0_2, rf_0_3, rf_0_4, rf_0_5, rf_0_6, rf_0_7, rf_1_0, ln_2, rf_3_1, rf_3_2, rf_3_3, ln_4, ln_5, ln_6, rf_25_0, rf_25_1, ln_25, rf_26_0, rf_26_1, rf_26_2, rf_26_3, ln_27, ln_28, ln_29, rf_30_0, ln_31, rf_32_0, rf_32_1, rf_32_2, rf_32_3, ln_33, ln_34, ln_35, ln_36, rf_37_0, ln_38, rf_39_0, ln_40, ln_41, i0, iI_lt, iI_le, iI_eq, iI_in, iI_nat, iI_add, iI_sub]
  refine h.mono ?_
  rintro v μ' ⟨h1, h2, h3⟩
  refine ⟨h1, ?_, ?_, fun m hm => h2 m (by omega) hm, fun c h4 h5 => ?_⟩
  · rw [h3 3 0 (by omega), u2_ne (by omega), u2_s]
  · rw [h3 3 4 (by omega), u2_s]
  · funext s
    rw [h3 c s (by omega), u2_ne (by omega), u2_ne (by omega)]
def noMen : Nat → Option (List Int) := fun _ => none
def aCords (σ : Sg) (n : Int) : Int := if 2 ≤ n ∧ n ≤ 4 then σ.1.1 + 1 else -2
def sCords (σ : Sg) (n : Int) : Sg := if 2 ≤ n ∧ n ≤ 4 then ((n - 1, noMen, []), σ.2) else σ
theorem C_cords {X : Env0} {d : Nat} {μ : Mem} {σ : Sg} {z : Int} (h : CS μ σ) (h1 : -2147483648 ≤ z) (h2 : z < 2147483648) : Wp X (d + 1) 45 0 [.ref 0, .int (iI z), .retAddr 0] [] μ (CPost μ (sCords σ z) (aCords σ z)) := by
  have g0 := h.1.2.1
  simp (disch := first | assumption | with_reducible exact kd_0 | with_reducible exact kd_1 | with_reducible exact kd_3 | with_reducible exact kd_25 | with_reducible exact kd_26 | with_reducible exact kd_32 | with_reducible exact kd_30 | with_reducible exact kd_37 | with_reducible exact kd_39 | with_reducible exact kd_41 | with_reducible exact kd_2 | with_reducible exact kd_4 | with_reducible exact kd_5 | with_reducible exact kd_6 | with_reducible exact kd_27 | with_reducible exact kd_28 | with_reducible exact kd_29 | with_reducible exact kd_31 | with_reducible exact kd_33 | with_reducible exact kd_34 | with_reducible exact kd_35 | with_reducible exact kd_36 | with_reducible exact kd_38 | with_reducible exact kd_40 | with_reducible exact kd_86 | with_reducible exact kd_87 | with_reducible exact kd_88 | with_reducible exact kd_89 | with_reducible exact kd_90 | with_reducible exact kd_91 | with_reducible exact kd_92 | with_reducible exact kd_93 | with_reducible exact kd_94 | with_reducible exact kd_95 | with_reducible exact kd_96 | with_reducible exact kd_97 | with_reducible exact kd_98 | with_reducible exact kd_99 | with_reducible exact kd_100 | with_reducible exact kd_101 | with_reducible exact kd_102 | with_reducible exact kq_4 | with_reducible exact kq_6 | with_reducible exact kq_25 | omega) only [wX4_cords_0, wX4_cords_1, wX4_cords_2, wX4_cords_5, wX4_cords_6, wX4_cords_7, wX4_cords_10, wX4_cords_12, wX4_cords_13, wX4_cords_14, wX4_cords_17, wX4_cords_20, wX4_cords_21, wX4_cords_22, wX4_cords_25, wX4_cords_26, wX4_cords_29, wX4_cords_30, psh_some, psh_none, rf_0_0, rf_0_1, rf_0_2, rf_0_3, rf_0_4, rf_0_5, rf_0_6, rf_0_7, rf_1_0, ln_2, rf_3_1, rf_3_2, rf_3_3, ln_4, ln_5, ln_6, rf_25_0, rf_25_1, ln_25, rf_26_0, rf_26_1, rf_26_2, rf_26_3, ln_27, ln_28, ln_29, rf_30_0, ln_31, rf_32_0, rf_32_1, rf_32_2, rf_32_3, ln_33, ln_34, ln_35, ln_36, rf_37_0, ln_38, rf_39_0, ln_40, ln_41, i0, iI_lt, iI_le, iI_eq, iI_in, iI_nat, iI_add, iI_sub, g0]
  unfold aCords sCords
  by_cases c : 2 ≤ z ∧ z ≤ 4
  · rw [if_neg (by omega), if_pos (by omega), if_pos c, if_pos c]
    refine begin_spec.mono ?_
    rintro v μ' ⟨rfl, h3, h4, h5, h6⟩
    simp (disch := first | assumption | with_reducible exact kd_0 | with_reducible exact kd_1 | with_reducible exact kd_3 | with_reducible exact kd_25 | with_reducible exact kd_26 | with_reducible exact kd_32 | with_reducible exact kd_30 | with_reducible exact kd_37 | with_reducible exact kd_39 | with_reducible exact kd_41 | with_reducible exact kd_2 | with_reducible exact kd_4 | with_reducible exact kd_5 | with_reducible exact kd_6 | with_reducible exact kd_27 | with_reducible exact kd_28 | with_reducible exact kd_29 | with_reducible exact kd_31 | with_reducible exact kd_33 | with_reducible exact kd_34 | with_reducible exact kd_35 | with_reducible exact kd_36 | with_reducible exact kd_38 | with_reducible exact kd_40 | with_reducible exact kd_86 | with_reducible exact kd_87 | with_reducible exact kd_88 | with_reducible exact kd_89 | with_reducible exact kd_90 | with_reducible exact kd_91 | with_reducible exact kd_92 | with_reducible exact kd_93 | with_reducible exact kd_94 | with_reducible exact kd_95 | with_reducible exact kd_96 | with_reducible exact kd_97 | with_reducible exact kd_98 | with_reducible exact kd_99 | with_reducible exact kd_100 | with_reducible exact kd_101 | with_reducible exact kd_102 | with_reducible exact kq_4 | with_reducible exact kq_6 | with_reducible exact kq_25 | omega) only [wX4_cords_0, wX4_cords_1, wX4_cords_2, wX4_cords_5, wX4_cords_6, wX4_cords_7, wX4_cords_10, wX4_cords_12, wX4_cords_13, wX4_cords_14, wX4_cords_17, wX4_cords_20, wX4_cords_21, wX4_cords_22, wX4_cords_25, wX4_cords_26, wX4_cords_29, wX4_cords_30, psh_some, psh_none, rf_0_0, rf_0_1, rf_0_2, rf_0_3, rf_0_4, rf_0_5, rf_0_6, rf_0_7, rf_1_0, ln_2, rf_3_1, rf_3_2, rf_3_3, ln_4, ln_5, ln_6, rf_25_0, rf_25_1, ln_25, rf_26_0, rf_26_1, rf_26_2, rf_26_3, ln_27, ln_28, ln_29, rf_30_0, ln_31, rf_32_0, rf_32_1, rf_32_2, rf_32_3, ln_33, ln_34, ln_35, ln_36, rf_37_0, ln_38, rf_39_0, ln_40, ln_41, i0, iI_lt, iI_le, iI_eq, iI_in, iI_nat, iI_add, iI_sub]
    have hc := h.1
    refine ⟨rfl, ⟨⟨by dsimp only; omega, by rw [h3, show z - 1 + 1 = z by omega], fun m hm => h5 m hm, fun m l hm hl => (by cases hl), fun m hm => ?_, Nat.zero_le 3, h4, fun i hi => absurd hi (Nat.not_lt_zero i), fun i hi => ?_⟩, h.2.1.fr (h6 1 (by omega) (by omega)) (h6 2 (by omega) (by omega)), h.2.2.1, fun n hn => (h.2.2.2 n hn).fr (fun c h1 h2 => h6 c (by omega) (by omega))⟩, fun c hc => h6 c (by omega) (by omega)⟩
    · obtain ⟨l, hl⟩ := hc.2.2.2.2.1 m hm
      exact ⟨l, hl.fr (h6 _ (by omega) (by omega)) (h6 _ (by omega) (by omega))⟩
    · obtain ⟨l, hl⟩ := hc.2.2.2.2.2.2.2.2 i hi
      exact ⟨l, hl.fr (h6 _ (by omega) (by omega)) (h6 _ (by omega) (by omega))⟩
  · rw [if_neg c, if_neg c]
    have k : CPost μ σ (-2) (some (.int (iI (-2)))) μ := ⟨rfl, h, keepX.rf⟩
    (repeat' split) <;> first | exact k | (exfalso; omega)
def aSay (σ : Sg) (s : Int) : Int := if 33 ≤ s ∧ s ≤ 126 then (if σ.2.1.length = 40 then -4 else σ.2.1.length + 1) else -2
def sSay (σ : Sg) (s : Int) : Sg := if 33 ≤ s ∧ s ≤ 126 then (if σ.2.1.length = 40 then σ else (σ.1, σ.2.1 ++ [s], σ.2.2)) else σ
theorem C_say {X : Env0} {d : Nat} {μ : Mem} {σ : Sg} {z : Int} (h : CS μ σ) (h1 : -2147483648 ≤ z) (h2 : z < 2147483648) : Wp X (d + 1) 46 0 [.ref 0, .int (iI z)] [] μ (CPost μ (sSay σ z) (aSay σ z)) := by
  have hp := h.2.1
  have hl : σ.2.1.length ≤ 40 := h.2.2.1.1
  have hln : ln (1 + 1) = 40 := rfl
  unfold aSay sSay
  by_cases c : 33 ≤ z ∧ z ≤ 126
  · rw [if_pos c, if_pos c]
    by_cases cf : σ.2.1.length = 40
    · rw [if_pos cf, if_pos cf]
      simp (disch := first | assumption | with_reducible exact kd_0 | with_reducible exact kd_1 | with_reducible exact kd_3 | with_reducible exact kd_25 | with_reducible exact kd_26 | with_reducible exact kd_32 | with_reducible exact kd_30 | with_reducible exact kd_37 | with_reducible exact kd_39 | with_reducible exact kd_41 | with_reducible exact kd_2 | with_reducible exact kd_4 | with_reducible exact kd_5 | with_reducible exact kd_6 | with_reducible exact kd_27 | with_reducible exact kd_28 | with_reducible exact kd_29 | with_reducible exact kd_31 | with_reducible exact kd_33 | with_reducible exact kd_34 | with_reducible exact kd_35 | with_reducible exact kd_36 | with_reducible exact kd_38 | with_reducible exact kd_40 | with_reducible exact kd_86 | with_reducible exact kd_87 | with_reducible exact kd_88 | with_reducible exact kd_89 | with_reducible exact kd_90 | with_reducible exact kd_91 | with_reducible exact kd_92 | with_reducible exact kd_93 | with_reducible exact kd_94 | with_reducible exact kd_95 | with_reducible exact kd_96 | with_reducible exact kd_97 | with_reducible exact kd_98 | with_reducible exact kd_99 | with_reducible exact kd_100 | with_reducible exact kd_101 | with_reducible exact kd_102 | with_reducible exact kq_4 | with_reducible exact kq_6 | with_reducible exact kq_25 | omega) only [wX4_say_0, wX4_say_1, wX4_say_3, wX4_say_6, wX4_say_7, wX4_say_9, wX4_say_12, wX4_say_14, wX4_say_15, wX4_say_16, wX4_say_19, wX4_say_20, wX4_say_23, wX4_say_26, wX4_say_27, wX4_say_30, wX4_say_33, wX4_say_36, wX4_say_38, psh_some, psh_none, rf_0_0, rf_0_1, rf_0_2, rf_0_3, rf_0_4, rf_0_5, rf_0_6, rf_0_7, rf_1_0, ln_2, rf_3_1, rf_3_2, rf_3_3, ln_4, ln_5, ln_6, rf_25_0, rf_25_1, ln_25, rf_26_0, rf_26_1, rf_26_2, rf_26_3, ln_27, ln_28, ln_29, rf_30_0, ln_31, rf_32_0, rf_32_1, rf_32_2, rf_32_3, ln_33, ln_34, ln_35, ln_36, rf_37_0, ln_38, rf_39_0, ln_40, ln_41, i0, iI_lt, iI_le, iI_eq, iI_in, iI_nat, iI_add, iI_sub, add_full isRw_1 hp cf]
      rw [if_neg (by omega), if_pos (by omega), if_pos trivial]
      exact ⟨rfl, h, keepX.rf⟩
    · rw [if_neg cf, if_neg cf]
      have e1 : u2 (u2 μ (1 + 1) σ.2.1.length (iI z)) 1 1 (iI (σ.2.1.length + 1)) 1 1 = iI (σ.2.1.length + 1) := u2_s
      have hlt : σ.2.1.length < ln (1 + 1) := by omega
      simp (disch := first | assumption | with_reducible exact kd_0 | with_reducible exact kd_1 | with_reducible exact kd_3 | with_reducible exact kd_25 | with_reducible exact kd_26 | with_reducible exact kd_32 | with_reducible exact kd_30 | with_reducible exact kd_37 | with_reducible exact kd_39 | with_reducible exact kd_41 | with_reducible exact kd_2 | with_reducible exact kd_4 | with_reducible exact kd_5 | with_reducible exact kd_6 | with_reducible exact kd_27 | with_reducible exact kd_28 | with_reducible exact kd_29 | with_reducible exact kd_31 | with_reducible exact kd_33 | with_reducible exact kd_34 | with_reducible exact kd_35 | with_reducible exact kd_36 | with_reducible exact kd_38 | with_reducible exact kd_40 | with_reducible exact kd_86 | with_reducible exact kd_87 | with_reducible exact kd_88 | with_reducible exact kd_89 | with_reducible exact kd_90 | with_reducible exact kd_91 | with_reducible exact kd_92 | with_reducible exact kd_93 | with_reducible exact kd_94 | with_reducible exact kd_95 | with_reducible exact kd_96 | with_reducible exact kd_97 | with_reducible exact kd_98 | with_reducible exact kd_99 | with_reducible exact kd_100 | with_reducible exact kd_101 | with_reducible exact kd_102 | with_reducible exact kq_4 | with_reducible exact kq_6 | with_reducible exact kq_25 | omega) only [wX4_say_0, wX4_say_1, wX4_say_3, wX4_say_6, wX4_say_7, wX4_say_9, wX4_say_12, wX4_say_14, wX4_say_15, wX4_say_16, wX4_say_19, wX4_say_20, wX4_say_23, wX4_say_26, wX4_say_27, wX4_say_30, wX4_say_33, wX4_say_36, wX4_say_38, psh_some, psh_none, rf_0_0, rf_0_1, rf_0_2, rf_0_3, rf_0_4, rf_0_5, rf_0_6, rf_0_7, rf_1_0, ln_2, rf_3_1, rf_3_2, rf_3_3, ln_4, ln_5, ln_6, rf_25_0, rf_25_1, ln_25, rf_26_0, rf_26_1, rf_26_2, rf_26_3, ln_27, ln_28, ln_29, rf_30_0, ln_31, rf_32_0, rf_32_1, rf_32_2, rf_32_3, ln_33, ln_34, ln_35, ln_36, rf_37_0, ln_38, rf_39_0, ln_40, ln_41, i0, iI_lt, iI_le, iI_eq, iI_in, iI_nat, iI_add, iI_sub, add_spec isRw_1 hp hlt, e1]
      rw [if_neg (by omega), if_pos (by omega), if_neg (by omega)]
      refine ⟨rfl, h.pad (fun c hc => ?_) (hp.push hlt) ⟨by rw [List.length_append, List.length_singleton]; omega, fun x hx => ?_⟩, fun c hc => ?_⟩
      · rw [u2_cell (by omega), u2_cell (by omega)]
      · rcases List.mem_append.mp hx with hx | hx
        · exact h.2.2.1.2 x hx
        · rw [List.mem_singleton.mp hx]
          exact c
      · rw [u2_cell (by omega), u2_cell (by omega)]
  · rw [if_neg c, if_neg c]
    simp (disch := first | assumption | with_reducible exact kd_0 | with_reducible exact kd_1 | with_reducible exact kd_3 | with_reducible exact kd_25 | with_reducible exact kd_26 | with_reducible exact kd_32 | with_reducible exact kd_30 | with_reducible exact kd_37 | with_reducible exact kd_39 | with_reducible exact kd_41 | with_reducible exact kd_2 | with_reducible exact kd_4 | with_reducible exact kd_5 | with_reducible exact kd_6 | with_reducible exact kd_27 | with_reducible exact kd_28 | with_reducible exact kd_29 | with_reducible exact kd_31 | with_reducible exact kd_33 | with_reducible exact kd_34 | with_reducible exact kd_35 | with_reducible exact kd_36 | with_reducible exact kd_38 | with_reducible exact kd_40 | with_reducible exact kd_86 | with_reducible exact kd_87 | with_reducible exact kd_88 | with_reducible exact kd_89 | with_reducible exact kd_90 | with_reducible exact kd_91 | with_reducible exact kd_92 | with_reducible exact kd_93 | with_reducible exact kd_94 | with_reducible exact kd_95 | with_reducible exact kd_96 | with_reducible exact kd_97 | with_reducible exact kd_98 | with_reducible exact kd_99 | with_reducible exact kd_100 | with_reducible exact kd_101 | with_reducible exact kd_102 | with_reducible exact kq_4 | with_reducible exact kq_6 | with_reducible exact kq_25 | omega) only [wX4_say_0, wX4_say_1, wX4_say_3, wX4_say_6, wX4_say_7, wX4_say_9, wX4_say_12, wX4_say_14, wX4_say_15, wX4_say_16, wX4_say_19, wX4_say_23, wX4_say_26, wX4_say_27, wX4_say_30, wX4_say_33, wX4_say_36, wX4_say_38, psh_some, psh_none, rf_0_0, rf_0_1, rf_0_2, rf_0_3, rf_0_4, rf_0_5, rf_0_6, rf_0_7, rf_1_0, ln_2, rf_3_1, rf_3_2, rf_3_3, ln_4, ln_5, ln_6, rf_25_0, rf_25_1, ln_25, rf_26_0, rf_26_1, rf_26_2, rf_26_3, ln_27, ln_28, ln_29, rf_30_0, ln_31, rf_32_0, rf_32_1, rf_32_2, rf_32_3, ln_33, ln_34, ln_35, ln_36, rf_37_0, ln_38, rf_39_0, ln_40, ln_41, i0, iI_lt, iI_le, iI_eq, iI_in, iI_nat, iI_add, iI_sub]
    have k : CPost μ σ (-2) (some (.int (iI (-2)))) μ := ⟨rfl, h, keepX.rf⟩
    (repeat' split) <;> first | exact k | (exfalso; omega)
theorem C_wipe {X : Env0} {d : Nat} {μ : Mem} {σ : Sg} (h : CS μ σ) : Wp X (d + 1) 47 0 [.ref 0, .retAddr 0] [] μ (CPost μ (σ.1, [], σ.2.2) σ.2.1.length) := by
  have e1 := h.2.1.2.1
  simp (disch := first | assumption | with_reducible exact kd_0 | with_reducible exact kd_1 | with_reducible exact kd_3 | with_reducible exact kd_25 | with_reducible exact kd_26 | with_reducible exact kd_32 | with_reducible exact kd_30 | with_reducible exact kd_37 | with_reducible exact kd_39 | with_reducible exact kd_41 | with_reducible exact kd_2 | with_reducible exact kd_4 | with_reducible exact kd_5 | with_reducible exact kd_6 | with_reducible exact kd_27 | with_reducible exact kd_28 | with_reducible exact kd_29 | with_reducible exact kd_31 | with_reducible exact kd_33 | with_reducible exact kd_34 | with_reducible exact kd_35 | with_reducible exact kd_36 | with_reducible exact kd_38 | with_reducible exact kd_40 | with_reducible exact kd_86 | with_reducible exact kd_87 | with_reducible exact kd_88 | with_reducible exact kd_89 | with_reducible exact kd_90 | with_reducible exact kd_91 | with_reducible exact kd_92 | with_reducible exact kd_93 | with_reducible exact kd_94 | with_reducible exact kd_95 | with_reducible exact kd_96 | with_reducible exact kd_97 | with_reducible exact kd_98 | with_reducible exact kd_99 | with_reducible exact kd_100 | with_reducible exact kd_101 | with_reducible exact kd_102 | with_reducible exact kq_4 | with_reducible exact kq_6 | with_reducible exact kq_25 | omega) only [wX4_wipe_0, wX4_wipe_1, wX4_wipe_4, wX4_wipe_7, wX4_wipe_8, wX4_wipe_9, wX4_wipe_12, wX4_wipe_15, wX4_wipe_16, psh_some, psh_none, rf_0_0, rf_0_1, rf_0_2, rf_0_3, rf_0_4, rf_0_5, rf_0_6, rf_0_7, rf_1_0, ln_2, rf_3_1, rf_3_2, rf_3_3, ln_4, ln_5, ln_6, rf_25_0, rf_25_1, ln_25, rf_26_0, rf_26_1, rf_26_2, rf_26_3, ln_27, ln_28, ln_29, rf_30_0, ln_31, rf_32_0, rf_32_1, rf_32_2, rf_32_3, ln_33, ln_34, ln_35, ln_36, rf_37_0, ln_38, rf_39_0, ln_40, ln_41, i0, iI_lt, iI_le, iI_eq, iI_in, iI_nat, iI_add, iI_sub, e1, empty_spec isRw_1]
  exact ⟨rfl, h.pad (fun c hc => u2_cell (by omega)) Rw.empty ⟨Nat.zero_le _, fun x hx => by cases hx⟩, fun c hc => u2_cell (by omega)⟩
theorem C_fault {X : Env0} {d : Nat} {μ : Mem} {σ : Sg} (h : CS μ σ) : Wp X (d + 1) 48 0 [.ref 0, .retAddr 0, .retAddr 0, .retAddr 0] [] μ (CPost μ σ (fltF σ.1.1 σ.2.1 0 0)) := by
  rw [fault_spec h.1.2.1 h.1.1 h.2.1 h.2.2.1]
  exact ⟨rfl, h, keepX.rf⟩
