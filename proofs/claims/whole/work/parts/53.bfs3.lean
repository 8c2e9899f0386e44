/-! the spread: closed at its end -/
theorem getD_app {Q T : Qu} {i : Nat} {y : List Int × Int} (h : i < Q.length) : (Q ++ T).getD i y = Q.getD i y := by
  rw [List.getD_eq_getElem?_getD, List.getD_eq_getElem?_getD, List.getElem?_append_left h]
theorem mem_getQ {Q : Qu} {x : List Int × Int} (h : x ∈ Q) : ∃ i, i < Q.length ∧ Q.getD i ([], 0) = x := by
  obtain ⟨i, hi, e⟩ := List.getElem_of_mem h
  refine ⟨i, hi, ?_⟩
  rw [List.getD_eq_getElem?_getD, List.getElem?_eq_getElem hi]
  exact e
/-- those before n have all their neighbours in -/
def cloQ (L : Int) (Q : Qu) (n : Nat) : Prop := ∀ i, i < n → i < Q.length → ∀ m ∈ slAll L (Q.getD i ([], 0)).1, inQ Q m = true
theorem bfs_clo {L : Int} {C : List Int → Prop} (hC : fewC C) (hN : ∀ l, C l → ∀ m ∈ slAll L l, C m) : ∀ (k n : Nat) (Q : Qu), k + n = 1245 → allQ C Q → ndQ Q → Q.length ≤ 1245 → cloQ L Q n → allQ C (bfs L k n Q) ∧ ∀ x ∈ bfs L k n Q, ∀ m ∈ slAll L x.1, inQ (bfs L k n Q) m = true := by
  intro k
  induction k with
  | zero =>
    intro n Q hk hQ hn hl hc
    rw [bfs]
    refine ⟨hQ, fun x hx m hm => ?_⟩
    obtain ⟨i, hi, e⟩ := mem_getQ hx
    rw [← e] at hm
    exact hc i (by omega) hi m hm
  | succ k ih =>
    intro n Q hk hQ hn hl hc
    rw [bfs]
    by_cases c : n < Q.length
    · rw [if_pos c]
      have hm := getQ_mem c
      have hNn := hN _ (hQ _ hm)
      have hnd := ndQ_rchs (slAll L (Q.getD n ([], 0)).1) Q ((Q.getD n ([], 0)).2 + 1) hn
      have hal := allQ_rchs (slAll L (Q.getD n ([], 0)).1) Q ((Q.getD n ([], 0)).2 + 1) hQ hNn
      have hin := fun m => in_rchs hC (m := m) (slAll L (Q.getD n ([], 0)).1) Q ((Q.getD n ([], 0)).2 + 1) hQ hn hNn
      obtain ⟨T, hT⟩ := rchs_sub (slAll L (Q.getD n ([], 0)).1) Q ((Q.getD n ([], 0)).2 + 1)
      have hlen : (rchs Q (slAll L (Q.getD n ([], 0)).1) ((Q.getD n ([], 0)).2 + 1)).length ≤ 1245 := by
        have := hC _ hnd (fun x hx => by
          obtain ⟨y, hy, rfl⟩ := List.mem_map.mp hx
          exact hal y hy)
        rw [List.length_map] at this
        exact this
      refine ih (n + 1) _ (by omega) hal hnd hlen (fun i hi hi2 m hm2 => ?_)
      have hi3 : i < Q.length := by omega
      rw [hT, getD_app hi3] at hm2
      rw [hin]
      by_cases ci : i = n
      · rw [ci] at hm2
        exact Or.inr hm2
      · exact Or.inl (hc i (by omega) hi3 m hm2)
    · rw [if_neg c]
      refine ⟨hQ, fun x hx m hm => ?_⟩
      obtain ⟨i, hi, e⟩ := mem_getQ hx
      rw [← e] at hm
      exact hc i (by omega) hi m hm
theorem spr_clo {L : Int} {C : List Int → Prop} {l : List Int} (hC : fewC C) (hN : ∀ l, C l → ∀ m ∈ slAll L l, C m) (hl : C l) : allQ C (sprQ L l) ∧ ∀ x ∈ sprQ L l, ∀ m ∈ slAll L x.1, inQ (sprQ L l) m = true := by
  refine bfs_clo hC hN 1245 0 _ (by omega) (fun x hx => ?_) (by unfold ndQ; simp) (by simp) (fun i hi => absurd hi (Nat.not_lt_zero i))
  rw [List.mem_singleton.mp hx]
  exact hl
