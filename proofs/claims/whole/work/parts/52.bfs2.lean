/-! the spread: who is in -/
theorem inQ_app {Q T : Qu} {l : List Int} : inQ (Q ++ T) l = true ↔ inQ Q l = true ∨ inQ T l = true := by
  rw [inQ_mem, inQ_mem, inQ_mem, List.map_append, List.mem_append]
theorem inQ_one {l m : List Int} {s : Int} : inQ [(l, s)] m = true ↔ m = l := by
  rw [inQ_mem]
  exact List.mem_singleton
theorem in_rch {C : List Int → Prop} {Q : Qu} {l m : List Int} {s : Int} (hC : fewC C) (hQ : allQ C Q) (hn : ndQ Q) (hl : C l) : inQ (rch Q l s) m = true ↔ inQ Q m = true ∨ m = l := by
  rw [rch_few hC hQ hn hl]
  by_cases c : inQ Q l = true
  · rw [if_pos c]
    constructor
    · exact fun z => Or.inl z
    · rintro (z | z)
      · exact z
      · rw [z]; exact c
  · rw [if_neg c, inQ_app, inQ_one]
theorem allQ_rch {C : List Int → Prop} {Q : Qu} {l : List Int} {s : Int} (hQ : allQ C Q) (hl : C l) : allQ C (rch Q l s) := by
  unfold rch
  split
  · exact hQ
  · intro x hx
    rcases List.mem_append.mp hx with hx | hx
    · exact hQ x hx
    · rw [List.mem_singleton.mp hx]
      exact hl
theorem in_rchs {C : List Int → Prop} (hC : fewC C) {m : List Int} : ∀ (ls : List (List Int)) (Q : Qu) (s : Int), allQ C Q → ndQ Q → (∀ l ∈ ls, C l) → (inQ (rchs Q ls s) m = true ↔ inQ Q m = true ∨ m ∈ ls)
  | [], Q, s, _, _, _ => by
    show inQ Q m = true ↔ _
    constructor
    · exact fun z => Or.inl z
    · rintro (z | z)
      · exact z
      · cases z
  | l :: ls, Q, s, hQ, hn, hl => by
    have hl0 := hl l List.mem_cons_self
    have h := in_rchs hC (m := m) ls (rch Q l s) s (allQ_rch hQ hl0) (ndQ_rch hn) (fun x hx => hl x (List.mem_cons_of_mem _ hx))
    show inQ (rchs (rch Q l s) ls s) m = true ↔ _
    rw [h, in_rch hC hQ hn hl0, List.mem_cons, or_assoc]
theorem allQ_rchs {C : List Int → Prop} : ∀ (ls : List (List Int)) (Q : Qu) (s : Int), allQ C Q → (∀ l ∈ ls, C l) → allQ C (rchs Q ls s)
  | [], _, _, h, _ => h
  | l :: ls, Q, s, h, hl => allQ_rchs ls (rch Q l s) s (allQ_rch h (hl l List.mem_cons_self)) (fun x hx => hl x (List.mem_cons_of_mem _ hx))
