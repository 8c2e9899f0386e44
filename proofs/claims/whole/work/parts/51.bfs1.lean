/-! the spread, as mathematics: no row twice -/
def ndQ (Q : Qu) : Prop := (Q.map Prod.fst).Nodup
theorem inQ_mem {Q : Qu} {l : List Int} : inQ Q l = true ↔ l ∈ Q.map Prod.fst := by
  unfold inQ
  rw [decide_eq_true_iff]
theorem ndQ_rch {Q : Qu} {l : List Int} {s : Int} (h : ndQ Q) : ndQ (rch Q l s) := by
  unfold rch
  split
  · exact h
  · rename_i c
    have c2 : ¬ l ∈ Q.map Prod.fst := fun z => c (Or.inr (inQ_mem.mpr z))
    unfold ndQ
    rw [List.map_append, List.nodup_append]
    refine ⟨h, by simp, fun a ha b hb => ?_⟩
    have hb2 : b = l := by
      have : b ∈ [l] := hb
      exact List.mem_singleton.mp this
    rw [hb2]
    exact fun z => c2 (by rw [← z]; exact ha)
theorem ndQ_rchs : ∀ (ls : List (List Int)) (Q : Qu) (s : Int), ndQ Q → ndQ (rchs Q ls s)
  | [], _, _, h => h
  | l :: ls, Q, s, h => ndQ_rchs ls (rch Q l s) s (ndQ_rch h)
theorem ndQ_bfs {L : Int} : ∀ (k n : Nat) (Q : Qu), ndQ Q → ndQ (bfs L k n Q)
  | 0, _, _, h => h
  | k + 1, n, Q, h => by
    rw [bfs]
    split
    · exact ndQ_bfs k (n + 1) _ (ndQ_rchs _ _ _ h)
    · exact h
theorem ndQ_spr {L : Int} {l : List Int} : ndQ (sprQ L l) := ndQ_bfs _ _ _ (by unfold ndQ; simp)
/-- a set of rows none of whose lists without repetition is longer than the room -/
def fewC (C : List Int → Prop) : Prop := ∀ ls : List (List Int), ls.Nodup → (∀ x ∈ ls, C x) → ls.length ≤ 1245
def allQ (C : List Int → Prop) (Q : Qu) : Prop := ∀ x ∈ Q, C x.1
/-- where the room suffices, it is never what stops the spread -/
theorem rch_few {C : List Int → Prop} {Q : Qu} {l : List Int} {s : Int} (hC : fewC C) (hQ : allQ C Q) (hn : ndQ Q) (hl : C l) : rch Q l s = if inQ Q l = true then Q else Q ++ [(l, s)] := by
  unfold rch
  by_cases c : inQ Q l = true
  · rw [if_pos (Or.inr c), if_pos c]
  · have c2 : ¬ l ∈ Q.map Prod.fst := fun z => c (inQ_mem.mpr z)
    have h1 : (l :: Q.map Prod.fst).Nodup := List.nodup_cons.mpr ⟨c2, hn⟩
    have h2 := hC _ h1 (fun x hx => by
      rcases List.mem_cons.mp hx with hx | hx
      · rw [hx]; exact hl
      · obtain ⟨y, hy, rfl⟩ := List.mem_map.mp hx
        exact hQ y hy)
    rw [List.length_cons, List.length_map] at h2
    rw [if_neg (by
      rintro (z | z)
      · omega
      · exact c z), if_neg c]
