/-! walks, and the spread along any list of neighbours -/
def wk (R : List Int → List Int → Prop) : Nat → List Int → List Int → Prop
  | 0, a, b => a = b
  | n + 1, a, b => ∃ c, wk R n a c ∧ R c b
theorem wk_cons {R : List Int → List Int → Prop} {a c : List Int} (h : R a c) : ∀ (n : Nat) (b : List Int), wk R n c b → wk R (n + 1) a b
  | 0, b, e => ⟨a, rfl, by rw [← (show c = b from e)]; exact h⟩
  | n + 1, b, ⟨x, hx, h2⟩ => ⟨x, wk_cons h n x hx, h2⟩
theorem wk_in {R : List Int → List Int → Prop} {C : List Int → Prop} (hC : ∀ a b, C a → R a b → C b) {a : List Int} (ha : C a) : ∀ (n : Nat) (b : List Int), wk R n a b → C b
  | 0, b, e => by rw [← (show a = b from e)]; exact ha
  | n + 1, b, ⟨x, hx, h2⟩ => hC x b (wk_in hC ha n x hx) h2
theorem wk_sym {R : List Int → List Int → Prop} {C : List Int → Prop} (hC : ∀ a b, C a → R a b → C b) (hs : ∀ a b, C a → R a b → R b a) {a : List Int} (ha : C a) : ∀ (n : Nat) (b : List Int), wk R n a b → wk R n b a
  | 0, b, e => (show a = b from e).symm
  | n + 1, b, ⟨x, hx, h2⟩ => wk_cons (hs x b (wk_in hC ha n x hx) h2) n a (wk_sym hC hs ha n x hx)
theorem wk_tr {R : List Int → List Int → Prop} {a b : List Int} {n : Nat} (h : wk R n a b) : ∀ (k : Nat) (c : List Int), wk R k b c → wk R (n + k) a c
  | 0, c, e => by rw [← (show b = c from e)]; exact h
  | k + 1, c, ⟨x, hx, h2⟩ => ⟨x, wk_tr h k x hx, h2⟩
def bfsN (N : List Int → List (List Int)) : Nat → Nat → Qu → Qu
  | 0, _, Q => Q
  | k + 1, n, Q => if n < Q.length then bfsN N k (n + 1) (rchs Q (N (Q.getD n ([], 0)).1) ((Q.getD n ([], 0)).2 + 1)) else Q
theorem bfs_N {L : Int} : ∀ (k n : Nat) (Q : Qu), bfs L k n Q = bfsN (slAll L) k n Q
  | 0, _, _ => rfl
  | k + 1, n, Q => by rw [bfs, bfsN, bfs_N k]
theorem mem_rch {Q : Qu} {l : List Int} {s : Int} {x : List Int × Int} (h : x ∈ rch Q l s) : x ∈ Q ∨ x = (l, s) := by
  unfold rch at h
  split at h
  · exact Or.inl h
  · rcases List.mem_append.mp h with h | h
    · exact Or.inl h
    · exact Or.inr (List.mem_singleton.mp h)
theorem mem_rchs : ∀ (ls : List (List Int)) (Q : Qu) (s : Int) (x : List Int × Int), x ∈ rchs Q ls s → x ∈ Q ∨ (x.1 ∈ ls ∧ x.2 = s)
  | [], _, _, _, h => Or.inl h
  | l :: ls, Q, s, x, h => by
    rcases mem_rchs ls (rch Q l s) s x h with h | ⟨h1, h2⟩
    · rcases mem_rch h with h | h
      · exact Or.inl h
      · rw [h]
        exact Or.inr ⟨List.mem_cons_self, rfl⟩
    · exact Or.inr ⟨List.mem_cons_of_mem _ h1, h2⟩
theorem inQ_ex {Q : Qu} {m : List Int} : inQ Q m = true ↔ ∃ y ∈ Q, y.1 = m := by
  rw [inQ_mem, List.mem_map]
/-- what a whole spread is -/
def Spr (R : List Int → List Int → Prop) (l : List Int) (Q : Qu) : Prop :=
  ndQ Q ∧ (∀ x ∈ Q, ∃ k : Nat, x.2 = k ∧ wk R k l x.1) ∧ ∀ (k : Nat) (m : List Int), wk R k l m → ∃ y ∈ Q, y.1 = m ∧ y.2 ≤ k
theorem bfsN_inv {N : List Int → List (List Int)} {R : List Int → List Int → Prop} {C : List Int → Prop} {l : List Int} (hC : fewC C) (hR : ∀ a b, C a → R a b → C b) (hN : ∀ a b, C a → (b ∈ N a ↔ R a b)) :
    ∀ (k n : Nat) (Q : Qu), k + n = 1245 → allQ C Q → ndQ Q → Q.length ≤ 1245 → (∀ x ∈ Q, ∃ k : Nat, x.2 = k ∧ wk R k l x.1) → (n < Q.length → srt Q ((Q.getD n ([], 0)).2 + 1)) → (∀ i, i < n → i < Q.length → ∀ m, R (Q.getD i ([], 0)).1 m → ∃ y ∈ Q, y.1 = m ∧ y.2 ≤ (Q.getD i ([], 0)).2 + 1) →
    allQ C (bfsN N k n Q) ∧ ndQ (bfsN N k n Q) ∧ (∀ x ∈ bfsN N k n Q, ∃ k : Nat, x.2 = k ∧ wk R k l x.1) ∧ (∀ x ∈ bfsN N k n Q, ∀ m, R x.1 m → ∃ y ∈ bfsN N k n Q, y.1 = m ∧ y.2 ≤ x.2 + 1) := by
  intro k
  induction k with
  | zero =>
    intro n Q hk hQ hn hl hw hs hc
    rw [bfsN]
    refine ⟨hQ, hn, hw, fun x hx m hm => ?_⟩
    obtain ⟨i, hi, e⟩ := mem_getQ hx
    rw [← e] at hm ⊢
    exact hc i (by omega) hi m hm
  | succ k ih =>
    intro n Q hk hQ hn hl hw hs hc
    rw [bfsN]
    by_cases c : n < Q.length
    · rw [if_pos c]
      have hm := getQ_mem c
      have hCn := hQ _ hm
      have hNn : ∀ m ∈ N (Q.getD n ([], 0)).1, C m := fun m hm2 => hR _ _ hCn ((hN _ _ hCn).mp hm2)
      have hnd := ndQ_rchs (N (Q.getD n ([], 0)).1) Q ((Q.getD n ([], 0)).2 + 1) hn
      have hal := allQ_rchs (N (Q.getD n ([], 0)).1) Q ((Q.getD n ([], 0)).2 + 1) hQ hNn
      have hin := fun m => in_rchs hC (m := m) (N (Q.getD n ([], 0)).1) Q ((Q.getD n ([], 0)).2 + 1) hQ hn hNn
      have hst := srt_rchs (N (Q.getD n ([], 0)).1) Q ((Q.getD n ([], 0)).2 + 1) (hs c)
      have hmm := mem_rchs (N (Q.getD n ([], 0)).1) Q ((Q.getD n ([], 0)).2 + 1)
      obtain ⟨T, hT⟩ := rchs_sub (N (Q.getD n ([], 0)).1) Q ((Q.getD n ([], 0)).2 + 1)
      obtain ⟨kn, e1, e2⟩ := hw _ hm
      have hlen : (rchs Q (N (Q.getD n ([], 0)).1) ((Q.getD n ([], 0)).2 + 1)).length ≤ 1245 := by
        have := hC _ hnd (fun x hx => by
          obtain ⟨y, hy, rfl⟩ := List.mem_map.mp hx
          exact hal y hy)
        rw [List.length_map] at this
        exact this
      have eo : ∀ i, i < Q.length → (rchs Q (N (Q.getD n ([], 0)).1) ((Q.getD n ([], 0)).2 + 1)).getD i ([], 0) = Q.getD i ([], 0) := fun i hi => by rw [hT, getD_app hi]
      refine ih (n + 1) _ (by omega) hal hnd hlen (fun x hx => ?_) (fun h => ?_) (fun i hi hi2 m hm2 => ?_)
      · rcases hmm x hx with h | ⟨h1, h2⟩
        · exact hw x h
        · exact ⟨kn + 1, by rw [h2, e1]; rfl, _, e2, (hN _ _ hCn).mp h1⟩
      · have e3 := hst.1 n (n + 1) (by omega) h
        rw [eo n c] at e3
        exact ⟨hst.1, fun j hj => by have := hst.2 j hj; omega⟩
      · have hi3 : i < Q.length := by omega
        rw [eo i hi3] at hm2 ⊢
        by_cases ci : i = n
        · subst ci
          have := (hin m).mpr (Or.inr ((hN _ _ hCn).mpr hm2))
          obtain ⟨y, hy, hy2⟩ := inQ_ex.mp this
          obtain ⟨j, hj, ej⟩ := mem_getQ hy
          have := hst.2 j hj
          rw [ej] at this
          exact ⟨y, hy, hy2, this⟩
        · obtain ⟨y, hy, hy2, hy3⟩ := hc i (by omega) hi3 m hm2
          exact ⟨y, by rw [hT]; exact List.mem_append_left _ hy, hy2, hy3⟩
    · rw [if_neg c]
      refine ⟨hQ, hn, hw, fun x hx m hm => ?_⟩
      obtain ⟨i, hi, e⟩ := mem_getQ hx
      rw [← e] at hm ⊢
      exact hc i (by omega) hi m hm
theorem bfsN_hd {N : List Int → List (List Int)} : ∀ (k n : Nat) (Q : Qu) (x : List Int × Int), x ∈ Q → x ∈ bfsN N k n Q
  | 0, _, _, _, h => h
  | k + 1, n, Q, x, h => by
    rw [bfsN]
    split
    · refine bfsN_hd k (n + 1) _ x ?_
      obtain ⟨T, hT⟩ := rchs_sub (N (Q.getD n ([], 0)).1) Q ((Q.getD n ([], 0)).2 + 1)
      rw [hT]
      exact List.mem_append_left _ h
    · exact h
theorem bfsN_spr {N : List Int → List (List Int)} {R : List Int → List Int → Prop} {C : List Int → Prop} {l : List Int} (hC : fewC C) (hR : ∀ a b, C a → R a b → C b) (hN : ∀ a b, C a → (b ∈ N a ↔ R a b)) (hl : C l) : allQ C (bfsN N 1245 0 [(l, 0)]) ∧ Spr R l (bfsN N 1245 0 [(l, 0)]) := by
  obtain ⟨h1, h2, h3, h4⟩ := bfsN_inv hC hR hN 1245 0 [(l, 0)] (by omega) (fun x hx => by rw [List.mem_singleton.mp hx]; exact hl) (by unfold ndQ; simp) (by simp)
    (fun x hx => by rw [List.mem_singleton.mp hx]; exact ⟨0, rfl, rfl⟩)
    (fun _ => ⟨fun i j hi hj => by
      have e : j = 0 := by simpa using hj
      have e2 : i = 0 := by omega
      rw [e, e2]
      exact Int.le_refl _, fun j hj => by
      have e : j = 0 := by simpa using hj
      rw [e]
      show (0 : Int) ≤ 0 + 1
      omega⟩) (fun i hi => absurd hi (Nat.not_lt_zero i))
  refine ⟨h1, h2, h3, ?_⟩
  intro k
  induction k with
  | zero =>
    intro m hm
    exact ⟨(l, 0), bfsN_hd _ _ _ _ (List.mem_singleton.mpr rfl), hm, Int.le_refl _⟩
  | succ k ih =>
    rintro m ⟨c, hc, hm⟩
    obtain ⟨y, hy, hy2, hy3⟩ := ih c hc
    rw [← hy2] at hm
    obtain ⟨z, hz, hz2, hz3⟩ := h4 y hy m hm
    exact ⟨z, hz, hz2, by omega⟩
