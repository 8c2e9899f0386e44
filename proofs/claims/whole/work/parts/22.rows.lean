/-! the class: rows of signs -/
def isRw (r : Nat) : Prop := kd r = 2 ∧ rf r 0 = r + 1 ∧ kd (r + 1) = 6 ∧ ln (r + 1) ≤ 40
def Rw (μ : Mem) (r : Nat) (l : List Int) : Prop := l.length ≤ ln (r + 1) ∧ μ r 1 = iI l.length ∧ ∀ i : Nat, i < l.length → μ (r + 1) i = iI (l.getD i 0)
def atL (l : List Int) (z : Int) : Int := if 0 ≤ z ∧ z < l.length then l.getD z.toNat 0 else -2
theorem and_t {a b : Prop} (h : a) : (a ∧ b) = b := propext ⟨fun x => x.2, fun x => ⟨h, x⟩⟩
theorem Rw.fr {μ μ' : Mem} {r : Nat} {l : List Int} (h : Rw μ r l) (h1 : μ' r = μ r) (h2 : μ' (r + 1) = μ (r + 1)) : Rw μ' r l := by
  unfold Rw
  rw [h1, h2]
  exact h
theorem Rw.empty {μ : Mem} {r : Nat} : Rw (u2 μ r 1 (iI 0)) r [] := ⟨Nat.zero_le _, u2_s, fun i h => absurd h (Nat.not_lt_zero i)⟩
theorem Rw.push {μ : Mem} {r : Nat} {l : List Int} {x : Int} (h : Rw μ r l) (hl : l.length < ln (r + 1)) : Rw (u2 (u2 μ (r + 1) l.length (iI x)) r 1 (iI (l.length + 1))) r (l ++ [x]) := by
  refine ⟨by simp; omega, ?_, fun i hi => ?_⟩
  · rw [u2_s]
    simp
  · rw [u2_c (by omega)]
    rw [List.length_append, List.length_singleton] at hi
    by_cases he : i = l.length
    · subst he
      rw [u2_s]
      simp
    · rw [u2_n he, h.2.2 i (by omega)]
      simp only [List.getD_eq_getElem?_getD]
      rw [List.getElem?_append_left (by omega)]
theorem Rw.put {μ : Mem} {r i : Nat} {l : List Int} {x : Int} (h : Rw μ r l) (hi : i < l.length) : Rw (u2 μ (r + 1) i (iI x)) r (l.set i x) := by
  refine ⟨by rw [List.length_set]; exact h.1, ?_, fun j hj => ?_⟩
  · rw [u2_c (by omega), List.length_set]
    exact h.2.1
  · rw [List.length_set] at hj
    simp only [List.getD_eq_getElem?_getD]
    by_cases he : j = i
    · subst he
      rw [u2_s, List.getElem?_set_self hi]
      rfl
    · rw [u2_n he, h.2.2 j hj, List.getElem?_set_ne (Ne.symm he), List.getD_eq_getElem?_getD]
theorem at_spec {X : Env0} {d r : Nat} {μ : Mem} {l : List Int} {z : Int} {P : Option Value → Mem → Prop} (hr : isRw r) (h : Rw μ r l) (h1 : -2147483648 ≤ z) (h2 : z < 2147483648) :
    Wp X d 23 0 [.ref r, .int (iI z)] [] μ P = P (some (.int (iI (atL l z)))) μ := by
  obtain ⟨r1, r2, r3, r4⟩ := hr
  obtain ⟨g1, g2, g3⟩ := h
  simp (disch := first | assumption | omega | rfl) only [wX2_at_0, wX2_at_1, wX2_at_4, wX2_at_5, wX2_at_6, wX2_at_9, wX2_at_12, wX2_at_13, wX2_at_16, wX2_at_17, wX2_at_18, wX2_at_21, wX2_at_23, psh_some, psh_none, g2, r2, i0, iI_lt, iI_le, iI_in, iI_nat]
  unfold atL
  by_cases c1 : z < 0
  · rw [if_pos c1, if_neg (by omega)]
  · rw [if_neg c1]
    by_cases c2 : (l.length : Int) ≤ z
    · rw [if_pos c2, if_neg (by omega)]
    · rw [if_neg c2, if_pos (by omega), g3 _ (by omega), and_t (by omega)]
theorem add_spec {X : Env0} {d r : Nat} {μ : Mem} {l : List Int} {x : Int32} {P : Option Value → Mem → Prop} (hr : isRw r) (h : Rw μ r l) (hl : l.length < ln (r + 1)) :
    Wp X d 25 0 [.ref r, .int x] [] μ P = P (some (.int (iI 1))) (u2 (u2 μ (r + 1) l.length x) r 1 (iI (l.length + 1))) := by
  obtain ⟨r1, r2, r3, r4⟩ := hr
  obtain ⟨g1, g2, g3⟩ := h
  have e1 : u2 μ (r + 1) l.length x r 1 = iI l.length := by rw [u2_c (by omega), g2]
  simp (disch := first | assumption | omega | rfl) only [wX2_add_0, wX2_add_1, wX2_add_4, wX2_add_5, wX2_add_8, wX2_add_9, wX2_add_12, wX2_add_13_0, wX2_add_13_1, wX2_add_14, wX2_add_15, wX2_add_18, wX2_add_19, wX2_add_22, wX2_add_23, wX2_add_24, wX2_add_25, wX2_add_25i, wX2_add_26, wX2_add_29, wX2_add_30, wX2_add_31, wX2_add_34, wX2_add_35_0, wX2_add_35_1, psh_some, psh_none, g2, r2, i0, iI_lt, iI_le, iI_in, iI_nat, iI_add, Int.toNat_natCast, e1]
  rw [if_pos (by omega), and_t (by omega)]
theorem add_full {X : Env0} {d r : Nat} {μ : Mem} {l : List Int} {x : Int32} {P : Option Value → Mem → Prop} (hr : isRw r) (h : Rw μ r l) (hl : l.length = ln (r + 1)) :
    Wp X d 25 0 [.ref r, .int x] [] μ P = P (some (.int (iI 0))) μ := by
  obtain ⟨r1, r2, r3, r4⟩ := hr
  obtain ⟨g1, g2, g3⟩ := h
  simp (disch := first | assumption | omega | rfl) only [wX2_add_0, wX2_add_1, wX2_add_4, wX2_add_5, wX2_add_8, wX2_add_9, wX2_add_12, wX2_add_13_0, wX2_add_13_1, wX2_add_14, wX2_add_15, wX2_add_18, wX2_add_19, wX2_add_22, wX2_add_23, wX2_add_24, wX2_add_25, wX2_add_25i, wX2_add_26, wX2_add_29, wX2_add_30, wX2_add_31, wX2_add_34, wX2_add_35_0, wX2_add_35_1, psh_some, psh_none, g2, r2, i0, iI_lt, iI_le, iI_in, iI_nat, iI_add]
  rw [if_neg (by omega)]
theorem empty_spec {X : Env0} {d r : Nat} {μ : Mem} {P : Option Value → Mem → Prop} (hr : isRw r) : Wp X d 24 0 [.ref r] [] μ P = P none (u2 μ r 1 (iI 0)) := by
  obtain ⟨r1, r2, r3, r4⟩ := hr
  simp (disch := first | assumption | omega | rfl) only [wX2_empty_0, wX2_empty_1, wX2_empty_2, wX2_empty_5, psh_some, psh_none]
theorem put_spec {X : Env0} {d r : Nat} {μ : Mem} {l : List Int} {z : Int} {x : Int32} {P : Option Value → Mem → Prop} (hr : isRw r) (h : Rw μ r l) (h1 : 0 ≤ z) (h2 : z < l.length) :
    Wp X d 26 0 [.ref r, .int (iI z), .int x] [] μ P = P none (u2 μ (r + 1) z.toNat x) := by
  obtain ⟨r1, r2, r3, r4⟩ := hr
  obtain ⟨g1, g2, g3⟩ := h
  simp (disch := first | assumption | omega | rfl) only [wX2_put_0, wX2_put_1, wX2_put_4, wX2_put_5, wX2_put_6, wX2_put_9, wX2_put_12, wX2_put_13, wX2_put_16, wX2_put_17, wX2_put_18, wX2_put_19, psh_some, psh_none, g2, r2, i0, iI_lt, iI_le, iI_in, iI_nat]
  rw [if_neg (by omega), if_neg (by omega), and_t (by omega)]
theorem put_out {X : Env0} {d r : Nat} {μ : Mem} {l : List Int} {z : Int} {x : Int32} {P : Option Value → Mem → Prop} (hr : isRw r) (h : Rw μ r l) (h0 : -2147483648 ≤ z) (h3 : z < 2147483648) (h1 : z < 0 ∨ l.length ≤ z) :
    Wp X d 26 0 [.ref r, .int (iI z), .int x] [] μ P = P none μ := by
  obtain ⟨r1, r2, r3, r4⟩ := hr
  obtain ⟨g1, g2, g3⟩ := h
  simp (disch := first | assumption | omega | rfl) only [wX2_put_0, wX2_put_1, wX2_put_4, wX2_put_5, wX2_put_6, wX2_put_9, wX2_put_12, wX2_put_13, wX2_put_16, wX2_put_17, wX2_put_18, wX2_put_19, psh_some, psh_none, g2, r2, i0, iI_lt, iI_le, iI_in, iI_nat]
  by_cases c : z < 0
  · rw [if_pos c]
  · rw [if_neg c, if_pos (by omega)]
/-- the cells of two rows are apart -/
def rwAp (f t : Nat) : Prop := ¬ f = t ∧ ¬ f = t + 1 ∧ ¬ f + 1 = t ∧ ¬ f + 1 = t + 1
theorem copy_loop {X : Env0} {d f t : Nat} {μ : Mem} {l : List Int} (hf : isRw f) (ht : isRw t) (ha : rwAp f t) (hl : l.length ≤ ln (t + 1)) : ∀ (n i : Nat) (μ' : Mem), n + i = l.length → Rw μ' f l → Rw μ' t (l.take i) → (∀ c, ¬ c = t → ¬ c = t + 1 → μ' c = μ c) →
    Wp X (d + 1) 78 15 [.ref f, .ref t, .int (iI i)] [] μ' (fun v μ'' => v = none ∧ Rw μ'' t l ∧ ∀ c, ¬ c = t → ¬ c = t + 1 → μ'' c = μ c) := by
  intro n
  induction n with
  | zero =>
    intro i μ' hn hF hT hfr
    have e1 := hF.2.1
    have e2 := hf.1
    have e3 := hf.2.2.2
    have e4 := hF.1
    rw [wX4_copy_15]
    simp (disch := first | assumption | omega | rfl) only [wX4_copy_0, wX4_copy_0n, wX4_copy_1, wX4_copy_1n, wX4_copy_4, wX4_copy_4n, wX4_copy_5, wX4_copy_5n, wX4_copy_8, wX4_copy_9, wX4_copy_9n, wX4_copy_10, wX4_copy_13, wX4_copy_14, wX4_copy_16, wX4_copy_16n, wX4_copy_17, wX4_copy_20, wX4_copy_23, wX4_copy_23n, wX4_copy_24, wX4_copy_24n, wX4_copy_25, wX4_copy_26, wX4_copy_29, wX4_copy_32, wX4_copy_33, wX4_copy_36, wX4_copy_39, psh_some, psh_none, e1, iI_le]
    rw [if_pos (by omega)]
    refine ⟨trivial, ?_, hfr⟩
    rw [List.take_of_length_le (by omega)] at hT
    exact hT
  | succ n ih =>
    intro i μ' hn hF hT hfr
    have e1 := hF.2.1
    have e2 := hf.1
    have e2t := ht.1
    have e3 := hf.2.2.2
    have e4 := hF.1
    have e5 : (l.take i).length = i := by rw [List.length_take]; omega
    have e6 : (l.take i).length < ln (t + 1) := by omega
    have e7 : atL l i = l.getD i 0 := by
      unfold atL
      rw [if_pos (by omega), Int.toNat_natCast]
    have hP := hT.push (x := l.getD i 0) e6
    have e8 : l.take i ++ [l.getD i 0] = l.take (i + 1) := by
      rw [List.getD_eq_getElem?_getD, List.getElem?_eq_getElem (by omega), Option.getD_some, List.take_append_getElem]
    rw [e8] at hP
    rw [wX4_copy_15]
    simp (disch := first | assumption | omega | rfl) only [wX4_copy_0, wX4_copy_0n, wX4_copy_1, wX4_copy_1n, wX4_copy_4, wX4_copy_4n, wX4_copy_5, wX4_copy_5n, wX4_copy_8, wX4_copy_9, wX4_copy_9n, wX4_copy_10, wX4_copy_13, wX4_copy_14, wX4_copy_16, wX4_copy_16n, wX4_copy_17, wX4_copy_20, wX4_copy_23, wX4_copy_23n, wX4_copy_24, wX4_copy_24n, wX4_copy_25, wX4_copy_26, wX4_copy_29, wX4_copy_32, wX4_copy_33, wX4_copy_36, wX4_copy_39, psh_some, psh_none, e1, iI_le, at_spec hf hF, add_spec ht hT, iI_add, e7]
    rw [if_neg (by omega)]
    obtain ⟨a1, a2, a3, a4⟩ := ha
    refine ih (i + 1) _ (by omega) (hF.fr ?_ ?_) hP (fun c h1 h2 => ?_)
    · rw [u2_cell a1, u2_cell a2]
    · rw [u2_cell a3, u2_cell a4]
    · rw [u2_cell h1, u2_cell h2, hfr c h1 h2]
theorem copy_spec {X : Env0} {d f t : Nat} {μ : Mem} {l : List Int} (hf : isRw f) (ht : isRw t) (ha : rwAp f t) (hl : l.length ≤ ln (t + 1)) (hF : Rw μ f l) :
    Wp X (d + 1) 78 0 [.ref f, .ref t, .retAddr 0] [] μ (fun v μ'' => v = none ∧ Rw μ'' t l ∧ ∀ c, ¬ c = t → ¬ c = t + 1 → μ'' c = μ c) := by
  have e2 := ht.1
  have h := copy_loop (X := X) (d := d) (μ := μ) hf ht ha hl l.length 0 (u2 μ t 1 (iI 0)) (by omega) (hF.fr (u2_cell ha.1) (u2_cell ha.2.2.1)) Rw.empty (fun c h1 h2 => u2_cell h1)
  simp (disch := first | assumption | omega | rfl) only [wX4_copy_0, wX4_copy_0n, wX4_copy_1, wX4_copy_1n, wX4_copy_4, wX4_copy_4n, wX4_copy_5, wX4_copy_5n, wX4_copy_8, wX4_copy_9, wX4_copy_9n, wX4_copy_10, wX4_copy_13, wX4_copy_14, wX4_copy_16, wX4_copy_16n, wX4_copy_17, wX4_copy_20, wX4_copy_23, wX4_copy_23n, wX4_copy_24, wX4_copy_24n, wX4_copy_25, wX4_copy_26, wX4_copy_29, wX4_copy_32, wX4_copy_33, wX4_copy_36, wX4_copy_39, psh_some, psh_none, empty_spec ht]
  exact h
/-! small ones -/
theorem letterOf_spec {X : Env0} {d : Nat} {μ : Mem} {P : Option Value → Mem → Prop} {s L : Int} (h1 : -100 ≤ s) (h2 : s ≤ 100) (h3 : 0 ≤ L) (h4 : L ≤ 100) : Wp X d 73 0 [.int (iI s), .int (iI L)] [] μ P = P (some (.int (iI (if s < L then s else s - L)))) μ := by
  simp (disch := first | assumption | omega | rfl) only [wX4_letterOf_0, wX4_letterOf_1, wX4_letterOf_2, wX4_letterOf_5, wX4_letterOf_6, wX4_letterOf_9, wX4_letterOf_10, wX4_letterOf_11, wX4_letterOf_12, psh_some, psh_none, iI_le, iI_lt, iI_sub]
  (repeat' split) <;> first | rfl | (exfalso; omega) | (rw [and_t (by omega)])
theorem worth_spec {X : Env0} {d : Nat} {μ : Mem} {P : Option Value → Mem → Prop} {s L : Int} (h1 : -100 ≤ s) (h2 : s ≤ 100) (h3 : 0 ≤ L) (h4 : L ≤ 100) : Wp X d 74 0 [.int (iI s), .int (iI L)] [] μ P = P (some (.int (iI (if s < L then 1 else -1)))) μ := by
  simp (disch := first | assumption | omega | rfl) only [wX4_worth_0, wX4_worth_1, wX4_worth_2, wX4_worth_5, wX4_worth_6, wX4_worth_9, wX4_worth_10, psh_some, psh_none, iI_le, iI_lt, iI_sub]
  (repeat' split) <;> first | rfl | (exfalso; omega) | (rw [and_t (by omega)])
theorem placeAfter_spec {X : Env0} {d : Nat} {μ : Mem} {P : Option Value → Mem → Prop} {p L : Int} (h1 : -100 ≤ p) (h2 : p ≤ 100) (h3 : -100 ≤ L) (h4 : L ≤ 100) : Wp X d 75 0 [.int (iI p), .int (iI L)] [] μ P = P (some (.int (iI (if p = L then p + 1 else if p = L + 1 then L else p)))) μ := by
  simp (disch := first | assumption | omega | rfl) only [wX4_placeAfter_0, wX4_placeAfter_1, wX4_placeAfter_2, wX4_placeAfter_5, wX4_placeAfter_6, wX4_placeAfter_7, wX4_placeAfter_8, wX4_placeAfter_9, wX4_placeAfter_10, wX4_placeAfter_11, wX4_placeAfter_12, wX4_placeAfter_13, wX4_placeAfter_16, wX4_placeAfter_17, wX4_placeAfter_20, wX4_placeAfter_21, psh_some, psh_none, iI_eq, iI_add]
  (repeat' split) <;> first | rfl | (exfalso; omega) | (rw [and_t (by omega)])
theorem cut_spec {X : Env0} {d : Nat} {μ : Mem} {P : Option Value → Mem → Prop} {x b : Int} (h1 : 0 ≤ x) (h2 : x < 2147483648) (h3 : 0 < b) (h4 : b < 2147483648) : Wp X d 80 0 [.int (iI x), .int (iI b)] [] μ P = P (some (.int (iI (x / b)))) μ := by
  simp (disch := first | assumption | omega | rfl) only [wX4_cut_0, wX4_cut_1, wX4_cut_2, wX4_cut_5, wX4_cut_6, wX4_cut_9, wX4_cut_10, wX4_cut_11, wX4_cut_12, psh_some, psh_none, iI_le, iI_lt, iI_eq, iI_div, i0]
  (repeat' split) <;> first | rfl | (exfalso; omega) | (rw [and_t (by omega)])
theorem cut_0 {X : Env0} {d : Nat} {μ : Mem} {P : Option Value → Mem → Prop} {x b : Int} (h3 : -2147483648 ≤ b) (h4 : b < 1) : Wp X d 80 0 [.int (iI x), .int (iI b)] [] μ P = P (some (.int (iI 0))) μ := by
  simp (disch := first | assumption | omega | rfl) only [wX4_cut_0, wX4_cut_1, wX4_cut_2, wX4_cut_5, wX4_cut_6, wX4_cut_9, wX4_cut_10, wX4_cut_11, wX4_cut_12, psh_some, psh_none, iI_le, iI_lt, iI_eq, i0]
  (repeat' split) <;> first | rfl | (exfalso; omega) | (rw [and_t (by omega)])
theorem leftOver_spec {X : Env0} {d : Nat} {μ : Mem} {P : Option Value → Mem → Prop} {x b : Int} (h1 : 0 ≤ x) (h2 : x < 2147483648) (h3 : 0 < b) (h4 : b < 2147483648) : Wp X d 81 0 [.int (iI x), .int (iI b)] [] μ P = P (some (.int (iI (x % b)))) μ := by
  simp (disch := first | assumption | omega | rfl) only [wX4_leftOver_0, wX4_leftOver_1, wX4_leftOver_2, wX4_leftOver_5, wX4_leftOver_6, wX4_leftOver_9, wX4_leftOver_10, wX4_leftOver_11, wX4_leftOver_12, psh_some, psh_none, iI_le, iI_lt, iI_eq, iI_rem, i0]
  (repeat' split) <;> first | rfl | (exfalso; omega) | (rw [and_t (by omega)])
theorem leftOver_0 {X : Env0} {d : Nat} {μ : Mem} {P : Option Value → Mem → Prop} {x b : Int} (h3 : -2147483648 ≤ b) (h4 : b < 1) : Wp X d 81 0 [.int (iI x), .int (iI b)] [] μ P = P (some (.int (iI 0))) μ := by
  simp (disch := first | assumption | omega | rfl) only [wX4_leftOver_0, wX4_leftOver_1, wX4_leftOver_2, wX4_leftOver_5, wX4_leftOver_6, wX4_leftOver_9, wX4_leftOver_10, wX4_leftOver_11, wX4_leftOver_12, psh_some, psh_none, iI_le, iI_lt, iI_eq, i0]
  (repeat' split) <;> first | rfl | (exfalso; omega) | (rw [and_t (by omega)])
