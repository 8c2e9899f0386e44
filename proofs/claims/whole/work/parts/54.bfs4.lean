/-! the spread: steps in order -/
def srt (Q : Qu) (s : Int) : Prop := (∀ i j, i ≤ j → j < Q.length → (Q.getD i ([], 0)).2 ≤ (Q.getD j ([], 0)).2) ∧ ∀ j, j < Q.length → (Q.getD j ([], 0)).2 ≤ s
theorem srt_rch {Q : Qu} {l : List Int} {s : Int} (h : srt Q s) : srt (rch Q l s) s := by
  unfold rch
  split
  · exact h
  · obtain ⟨h1, h2⟩ := h
    have hl : (Q ++ [(l, s)]).length = Q.length + 1 := by rw [List.length_append, List.length_singleton]
    have hx : (Q ++ [(l, s)]).getD Q.length ([], 0) = (l, s) := getD_push
    refine ⟨fun i j hij hj => ?_, fun j hj => ?_⟩
    · rw [hl] at hj
      by_cases cj : j = Q.length
      · rw [cj, hx]
        by_cases ci : i = Q.length
        · rw [ci, hx]
          exact Int.le_refl _
        · rw [getD_old (by omega)]
          exact h2 i (by omega)
      · rw [getD_old (by omega), getD_old (by omega)]
        exact h1 i j hij (by omega)
    · rw [hl] at hj
      by_cases cj : j = Q.length
      · rw [cj, hx]
        exact Int.le_refl _
      · rw [getD_old (by omega)]
        exact h2 j (by omega)
theorem srt_rchs : ∀ (ls : List (List Int)) (Q : Qu) (s : Int), srt Q s → srt (rchs Q ls s) s
  | [], _, _, h => h
  | l :: ls, Q, s, h => srt_rchs ls (rch Q l s) s (srt_rch h)
