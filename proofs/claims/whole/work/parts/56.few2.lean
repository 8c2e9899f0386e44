/-! a slide, told by what stands before and behind it -/
def farL (L a b : Int) : Prop := letL L a = letL L b + 2 ∨ letL L a + 2 = letL L b
def nearL (L a b : Int) : Prop := (letL L a = letL L b + 1 ∨ letL L a + 1 = letL L b) ∧ worL L a = worL L b
def Sl (L : Int) (l m : List Int) : Prop := ∃ A B : List Int,
  (∃ s, (0 ≤ s ∧ s < 2 * L) ∧ l = A ++ s :: oppS L s :: B ∧ m = A ++ B) ∨
  (∃ s, (0 ≤ s ∧ s < 2 * L) ∧ l = A ++ B ∧ m = A ++ s :: oppS L s :: B ∧ l.length + 2 ≤ 6) ∨
  (∃ a b, farL L a b ∧ l = A ++ a :: b :: B ∧ m = A ++ b :: a :: B) ∨
  (∃ a b, nearL L a b ∧ l = A ++ a :: b :: a :: B ∧ m = A ++ b :: a :: b :: B)
theorem Sl.sym {L : Int} {l m : List Int} (ol : rowOK L l) (h : Sl L l m) : Sl L m l := by
  obtain ⟨A, B, h⟩ := h
  refine ⟨A, B, ?_⟩
  rcases h with ⟨s, hs, h1, h2⟩ | ⟨s, hs, h1, h2, h3⟩ | ⟨a, b, hf, h1, h2⟩ | ⟨a, b, hf, h1, h2⟩
  · refine Or.inr (Or.inl ⟨s, hs, h2, h1, ?_⟩)
    have h6 := ol.1
    rw [h1, List.length_append, List.length_cons, List.length_cons] at h6
    rw [h2, List.length_append]
    omega
  · exact Or.inl ⟨s, hs, h2, h1⟩
  · exact Or.inr (Or.inr (Or.inl ⟨b, a, by unfold farL at hf ⊢; omega, h2, h1⟩))
  · exact Or.inr (Or.inr (Or.inr ⟨b, a, by unfold nearL at hf ⊢; omega, h2, h1⟩))
theorem Sl.OK {L : Int} {l m : List Int} (ol : rowOK L l) (h : Sl L l m) : rowOK L m := by
  obtain ⟨A, B, h⟩ := h
  obtain ⟨h6, hx⟩ := ol
  rcases h with ⟨s, hs, h1, h2⟩ | ⟨s, hs, h1, h2, h3⟩ | ⟨a, b, hf, h1, h2⟩ | ⟨a, b, hf, h1, h2⟩ <;> subst h1 h2
  · refine ⟨?_, fun x h => hx x ?_⟩
    · simp only [List.length_append, List.length_cons] at h6 ⊢
      omega
    · simp only [List.mem_append, List.mem_cons] at h ⊢
      rcases h with h | h
      · exact Or.inl h
      · exact Or.inr (Or.inr (Or.inr h))
  · refine ⟨?_, fun x h => ?_⟩
    · simp only [List.length_append, List.length_cons] at h3 ⊢
      omega
    · simp only [List.mem_append, List.mem_cons] at h hx
      rcases h with h | h | h | h
      · exact hx x (Or.inl h)
      · rw [h]; exact hs
      · rw [h]; exact oppS_rg hs
      · exact hx x (Or.inr h)
  · refine ⟨?_, fun x h => hx x ?_⟩
    · simp only [List.length_append, List.length_cons] at h6 ⊢
      exact h6
    · simp only [List.mem_append, List.mem_cons] at h ⊢
      rcases h with h | h | h | h
      · exact Or.inl h
      · exact Or.inr (Or.inr (Or.inl h))
      · exact Or.inr (Or.inl h)
      · exact Or.inr (Or.inr (Or.inr h))
  · refine ⟨?_, fun x h => hx x ?_⟩
    · simp only [List.length_append, List.length_cons] at h6 ⊢
      exact h6
    · simp only [List.mem_append, List.mem_cons] at h ⊢
      rcases h with h | h | h | h | h
      · exact Or.inl h
      · exact Or.inr (Or.inr (Or.inl h))
      · exact Or.inr (Or.inl h)
      · exact Or.inr (Or.inr (Or.inl h))
      · exact Or.inr (Or.inr (Or.inr (Or.inr h)))
theorem Sl.par {L : Int} {l m : List Int} (h : Sl L l m) : m.length % 2 = l.length % 2 := by
  obtain ⟨A, B, h⟩ := h
  rcases h with ⟨s, hs, h1, h2⟩ | ⟨s, hs, h1, h2, h3⟩ | ⟨a, b, hf, h1, h2⟩ | ⟨a, b, hf, h1, h2⟩ <;> subst h1 h2 <;> simp only [List.length_append, List.length_cons] <;> omega
theorem letL_rg {L s : Int} (h : 0 ≤ s ∧ s < 2 * L) : 0 ≤ letL L s ∧ letL L s < L := by
  unfold letL
  split <;> omega
theorem Sl.cols {L : Int} {l m : List Int} (hL : L ≤ 3) (ol : rowOK L l) (h : Sl L l m) (v : Vc) : cvs L m v = cvs L l v := by
  obtain ⟨A, B, h⟩ := h
  obtain ⟨-, hx⟩ := ol
  rcases h with ⟨s, hs, h1, h2⟩ | ⟨s, hs, h1, h2, h3⟩ | ⟨a, b, hf, h1, h2⟩ | ⟨a, b, hf, h1, h2⟩ <;> subst h1 h2 <;> rw [cvs_app, cvs_app]
  · show _ = cvs L B (cv L (oppS L s) (cv L s _))
    rw [cv_opp hs]
  · show cvs L B (cv L (oppS L s) (cv L s _)) = _
    rw [cv_opp hs]
  · show cvs L B (cv L a (cv L b _)) = cvs L B (cv L b (cv L a _))
    have ha := letL_rg (hx a (by simp only [List.mem_append, List.mem_cons, true_or, or_true]))
    have hb := letL_rg (hx b (by simp only [List.mem_append, List.mem_cons, true_or, or_true]))
    unfold farL at hf
    unfold cv
    rw [cf_far (by omega) worL_or worL_or]
  · show cvs L B (cv L b (cv L a (cv L b _))) = cvs L B (cv L a (cv L b (cv L a _)))
    have ha := letL_rg (hx a (by simp only [List.mem_append, List.mem_cons, true_or, or_true]))
    have hb := letL_rg (hx b (by simp only [List.mem_append, List.mem_cons, true_or, or_true]))
    unfold nearL at hf
    unfold cv
    rw [hf.2, cf_tri (by omega) worL_or]
theorem chg_at {A T B m : List Int} : chg (A ++ (T ++ B)) A.length T.length m = A ++ (m ++ B) := by
  unfold chg
  rw [List.take_left' rfl, ← List.drop_drop, List.drop_left' rfl, List.drop_left' rfl]
theorem gd_at {A B : List Int} {x : Int} : (A ++ x :: B).getD A.length 0 = x := by
  rw [List.getD_eq_getElem?_getD, List.getElem?_append_right (Nat.le_refl _), Nat.sub_self]
  rfl
theorem gd_at1 {A B : List Int} {x y : Int} : (A ++ x :: y :: B).getD (A.length + 1) 0 = y := by
  rw [List.getD_eq_getElem?_getD, List.getElem?_append_right (by omega), Nat.add_sub_cancel_left]
  rfl
theorem gd_at2 {A B : List Int} {x y z : Int} : (A ++ x :: y :: z :: B).getD (A.length + 2) 0 = z := by
  rw [List.getD_eq_getElem?_getD, List.getElem?_append_right (by omega), Nat.add_sub_cancel_left]
  rfl
theorem cut_2 {l : List Int} {i : Nat} (h : i + 1 < l.length) : l = l.take i ++ l.getD i 0 :: l.getD (i + 1) 0 :: l.drop (i + 2) := by
  rw [← drop_cons (show i + 1 < l.length by omega), ← drop_cons (by omega), List.take_append_drop]
theorem cut_3 {l : List Int} {i : Nat} (h : i + 2 < l.length) : l = l.take i ++ l.getD i 0 :: l.getD (i + 1) 0 :: l.getD (i + 2) 0 :: l.drop (i + 3) := by
  rw [← drop_cons (show i + 2 < l.length by omega), ← drop_cons (show i + 1 < l.length by omega), ← drop_cons (by omega), List.take_append_drop]
theorem mem_slA2 {L : Int} {l m : List Int} {k : Nat} : m ∈ slA2 L l 0 k ↔ ∃ i, i < k ∧ m ∈ slAt L l i := by
  unfold slA2
  rw [List.mem_flatMap]
  constructor
  · rintro ⟨i, hi, h⟩
    rw [List.mem_range'_1] at hi
    exact ⟨i, by omega, h⟩
  · rintro ⟨i, hi, h⟩
    exact ⟨i, List.mem_range'_1.mpr (by omega), h⟩
theorem mem_inA {L : Int} {l m : List Int} {k : Nat} (hL : 1 ≤ L) : m ∈ inA L l 0 k ↔ ∃ (i : Nat) (s : Int), i < k ∧ (0 ≤ s ∧ s < 2 * L) ∧ m = chg l i 0 [s, oppS L s] := by
  unfold inA inS
  rw [List.mem_flatMap]
  constructor
  · rintro ⟨i, hi, h⟩
    rw [List.mem_range'_1] at hi
    obtain ⟨s, hs, rfl⟩ := List.mem_map.mp h
    rw [List.mem_range'_1] at hs
    exact ⟨i, s, by omega, by omega, rfl⟩
  · rintro ⟨i, s, hi, hs, rfl⟩
    refine ⟨i, List.mem_range'_1.mpr (by omega), List.mem_map.mpr ⟨s.toNat, List.mem_range'_1.mpr (by omega), ?_⟩⟩
    rw [Int.toNat_of_nonneg hs.1]
theorem mem_if {c : Prop} [Decidable c] {x m : List Int} : m ∈ (if c then [x] else []) ↔ c ∧ m = x := by
  by_cases h : c
  · rw [if_pos h, List.mem_singleton]
    exact ⟨fun z => ⟨h, z⟩, fun z => z.2⟩
  · rw [if_neg h]
    exact ⟨fun z => (by cases z), fun z => absurd z.1 h⟩
theorem opp_ne {L s : Int} (h : 0 ≤ s ∧ s < 2 * L) : ¬ s = oppS L s := by
  unfold oppS
  split <;> omega
theorem slAll_iff {L : Int} {l m : List Int} (hL : 1 ≤ L ∧ L ≤ 3) (ol : rowOK L l) : m ∈ slAll L l ↔ Sl L l m := by
  have h6 : ∀ (c : Prop) [Decidable c] (x : List (List Int)), m ∈ (if c then x else []) ↔ c ∧ m ∈ x := by
    intro c _ x
    by_cases h : c
    · rw [if_pos h]
      exact ⟨fun z => ⟨h, z⟩, fun z => z.2⟩
    · rw [if_neg h]
      exact ⟨fun z => (by cases z), fun z => absurd z.1 h⟩
  unfold slAll
  rw [List.mem_append, mem_slA2, h6, mem_inA hL.1]
  constructor
  · rintro (⟨i, hi, h⟩ | ⟨hl, i, s, hi, hs, h⟩)
    · have hi2 : i + 1 < l.length := by omega
      rw [slAt_eq, List.mem_append, List.mem_append] at h
      unfold sA sB sC at h
      rw [mem_if, mem_if, mem_if] at h
      have e := cut_2 hi2
      rcases h with ⟨h1, h2⟩ | ⟨h1, h2⟩ | ⟨h1, h2⟩
      · refine ⟨l.take i, l.drop (i + 2), Or.inl ⟨l.getD i 0, rowOK_at ol (by omega), ?_, h2⟩⟩
        rw [← oppS_of (rowOK_at ol (by omega)) (rowOK_at ol hi2) h1.1 h1.2]
        exact e
      · exact ⟨l.take i, l.drop (i + 2), Or.inr (Or.inr (Or.inl ⟨l.getD i 0, l.getD (i + 1) 0, h1, e, h2⟩))⟩
      · obtain ⟨h1, h3, h4, h5⟩ := h1
        have e := cut_3 h4
        rw [h5] at e
        exact ⟨l.take i, l.drop (i + 3), Or.inr (Or.inr (Or.inr ⟨l.getD i 0, l.getD (i + 1) 0, ⟨h1, h3⟩, e, h2⟩))⟩
    · exact ⟨l.take i, l.drop i, Or.inr (Or.inl ⟨s, hs, (List.take_append_drop i l).symm, h, hl⟩)⟩
  · rintro ⟨A, B, h⟩
    rcases h with ⟨s, hs, h1, h2⟩ | ⟨s, hs, h1, h2, h3⟩ | ⟨a, b, hf, h1, h2⟩ | ⟨a, b, hf, h1, h2⟩
    · have hlen : l.length = A.length + (B.length + 2) := by rw [h1, List.length_append]; rfl
      refine Or.inl ⟨A.length, by omega, ?_⟩
      have e0 : l.getD A.length 0 = s := by rw [h1]; exact gd_at
      have e1 : l.getD (A.length + 1) 0 = oppS L s := by rw [h1]; exact gd_at1
      rw [slAt_eq, List.mem_append]
      refine Or.inl ?_
      unfold sA
      rw [mem_if, e0, e1, (oppS_let hs).1]
      refine ⟨⟨rfl, opp_ne hs⟩, ?_⟩
      rw [h1, h2]
      exact (chg_at (T := [s, oppS L s]) (m := [])).symm
    · have hlen : l.length = A.length + B.length := by rw [h1, List.length_append]
      refine Or.inr ⟨h3, A.length, s, by omega, hs, ?_⟩
      rw [h1, h2]
      exact (chg_at (T := []) (m := [s, oppS L s])).symm
    · have hlen : l.length = A.length + (B.length + 2) := by rw [h1, List.length_append]; rfl
      refine Or.inl ⟨A.length, by omega, ?_⟩
      have e0 : l.getD A.length 0 = a := by rw [h1]; exact gd_at
      have e1 : l.getD (A.length + 1) 0 = b := by rw [h1]; exact gd_at1
      rw [slAt_eq, List.mem_append, List.mem_append]
      refine Or.inr (Or.inl ?_)
      unfold sB
      rw [mem_if, e0, e1]
      refine ⟨hf, ?_⟩
      rw [h1, h2]
      exact (chg_at (T := [a, b]) (m := [b, a])).symm
    · have hlen : l.length = A.length + (B.length + 3) := by rw [h1, List.length_append]; rfl
      refine Or.inl ⟨A.length, by omega, ?_⟩
      have e0 : l.getD A.length 0 = a := by rw [h1]; exact gd_at
      have e1 : l.getD (A.length + 1) 0 = b := by rw [h1]; exact gd_at1
      have e2 : l.getD (A.length + 2) 0 = a := by rw [h1]; exact gd_at2
      rw [slAt_eq, List.mem_append, List.mem_append]
      refine Or.inr (Or.inr ?_)
      unfold sC
      rw [mem_if, e0, e1, e2]
      refine ⟨⟨hf.1, hf.2, by omega, rfl⟩, ?_⟩
      rw [h1, h2]
      exact (chg_at (T := [a, b, a]) (m := [b, a, b])).symm
