/-! slides: bits, numbers of rows -/
def bt (x : Int32) (k : Nat) : Bool := x.toBitVec.getLsbD k
theorem bt_msk : ∀ k, k < 32 → (iI 1 <<< (iI ((k : Nat) : Int) &&& 31)).toBitVec = BitVec.twoPow 32 k := by decide +kernel
theorem bt_and {x : Int32} {k : Nat} (hk : k < 32) : (x &&& (iI 1 <<< (iI k &&& 31)) = iI 0) = (bt x k = false) := by
  have e1 : x &&& (iI 1 <<< (iI k &&& 31)) = Int32.ofBitVec (if bt x k then BitVec.twoPow 32 k else 0#32) := by
    apply Int32.toBitVec_inj.1
    rw [Int32.toBitVec_and, bt_msk k hk, BitVec.and_twoPow]
    rfl
  rw [e1]
  apply propext
  cases bt x k with
  | false =>
    constructor
    · exact fun _ => rfl
    · exact fun _ => rfl
  | true =>
    constructor
    · intro h
      have h2 := congrArg Int32.toBitVec h
      have h3 := congrArg (fun b => b.getLsbD k) h2
      have h4 : (BitVec.twoPow 32 k).getLsbD k = (0#32).getLsbD k := h3
      rw [BitVec.getLsbD_twoPow, BitVec.getLsbD_zero] at h4
      rw [decide_eq_true hk, decide_eq_true (rfl : k = k)] at h4
      cases h4
    · intro h
      cases h
theorem bt_or {x : Int32} {k j : Nat} (hk : k < 32) : bt (x ||| (iI 1 <<< (iI k &&& 31))) j = (bt x j || decide (k = j)) := by
  unfold bt
  rw [Int32.toBitVec_or, bt_msk k hk, BitVec.getLsbD_or, BitVec.getLsbD_twoPow, decide_eq_true hk, Bool.true_and]
theorem bt_0 {k : Nat} : bt (iI 0) k = false := BitVec.getLsbD_zero
def lng (L n s : Int) : Int := if s < 0 then n else n * 2 * L + s + 1
def numL (L : Int) (l : List Int) : Int := l.foldl (lng L) 0
theorem numL_push {L x : Int} {l : List Int} : numL L (l ++ [x]) = lng L (numL L l) x := by
  unfold numL
  rw [List.foldl_append]
  rfl
def bdN : Nat → Int
  | 0 => 0
  | k + 1 => 6 * bdN k + 6
theorem bdN_mono : ∀ (j k : Nat), bdN k ≤ bdN (j + k)
  | 0, k => by rw [Nat.zero_add]; exact Int.le_refl _
  | j + 1, k => by
    have h := bdN_mono j k
    have h0 : ∀ m, 0 ≤ bdN m := fun m => by
      induction m with
      | zero => exact Int.le_refl 0
      | succ m ih => rw [bdN]; omega
    have h1 := h0 (j + k)
    rw [show j + 1 + k = (j + k) + 1 by omega, bdN]
    omega
theorem lng_bd {L n s : Int} {k : Nat} (hL : 1 ≤ L ∧ L ≤ 3) (hn : 0 ≤ n ∧ n ≤ bdN k) (hs : 0 ≤ s ∧ s < 2 * L) : 0 ≤ lng L n s ∧ lng L n s ≤ bdN (k + 1) := by
  unfold lng
  rw [if_neg (by omega), bdN]
  rcases (show L = 1 ∨ L = 2 ∨ L = 3 by omega) with e | e | e <;> subst e <;> omega
theorem fold_bd {L : Int} (hL : 1 ≤ L ∧ L ≤ 3) : ∀ (l : List Int) (n : Int) (k : Nat), 0 ≤ n ∧ n ≤ bdN k → (∀ x ∈ l, 0 ≤ x ∧ x < 2 * L) → 0 ≤ l.foldl (lng L) n ∧ l.foldl (lng L) n ≤ bdN (l.length + k)
  | [], n, k, hn, _ => by
    rw [List.foldl_nil, List.length_nil, Nat.zero_add]
    exact hn
  | s :: l, n, k, hn, h => by
    have g := fold_bd hL l (lng L n s) (k + 1) (lng_bd hL hn (h s (List.mem_cons_self))) (fun x hx => h x (List.mem_cons_of_mem _ hx))
    rw [List.foldl_cons, List.length_cons, show l.length + 1 + k = l.length + (k + 1) by omega]
    exact g
theorem numL_bd {L : Int} {l : List Int} (hL : 1 ≤ L ∧ L ≤ 3) (h : rowOK L l) : 0 ≤ numL L l ∧ numL L l < 55987 := by
  have g := fold_bd hL l 0 0 ⟨Int.le_refl 0, Int.le_refl 0⟩ h.2
  have g2 := bdN_mono (6 - l.length) (l.length + 0)
  have h1 := h.1
  rw [show 6 - l.length + (l.length + 0) = 6 by omega] at g2
  have g3 : bdN 6 = 55986 := rfl
  unfold numL
  omega
theorem numL_s {L x : Int} {l : List Int} (hx : 0 ≤ x) : numL L (l ++ [x]) = numL L l * (2 * L) + x + 1 := by
  rw [numL_push, lng, if_neg (by omega), Int.mul_assoc]
theorem numL_step {L x : Int} {l : List Int} (hL : 1 ≤ L ∧ L ≤ 3) (hx : 0 ≤ x ∧ x < 2 * L) : (numL L (l ++ [x]) - 1) / (2 * L) = numL L l ∧ (numL L (l ++ [x]) - 1) % (2 * L) = x := by
  rw [numL_s hx.1]
  generalize numL L l = n
  rcases (show L = 1 ∨ L = 2 ∨ L = 3 by omega) with e | e | e <;> subst e <;> omega
theorem numL_nn {L : Int} {l : List Int} (hL : 1 ≤ L ∧ L ≤ 3) (h : ∀ x ∈ l, 0 ≤ x ∧ x < 2 * L) : 0 ≤ numL L l :=
  (fold_bd hL l 0 0 ⟨Int.le_refl 0, Int.le_refl 0⟩ h).1
theorem numL_pos {L x : Int} {l : List Int} (hL : 1 ≤ L ∧ L ≤ 3) (h : ∀ x ∈ l, 0 ≤ x ∧ x < 2 * L) (hx : 0 ≤ x ∧ x < 2 * L) : 0 < numL L (l ++ [x]) := by
  have h1 := numL_nn hL h
  rw [numL_s hx.1]
  generalize numL L l = n at *
  rcases (show L = 1 ∨ L = 2 ∨ L = 3 by omega) with e | e | e <;> subst e <;> omega
/-- a list from its back -/
theorem rev_cases (l : List Int) : l = [] ∨ ∃ r x, l = r ++ [x] := by
  rcases List.eq_nil_or_concat l with h | ⟨r, x, h⟩
  · exact Or.inl h
  · exact Or.inr ⟨r, x, by rw [h, List.concat_eq_append]⟩
theorem numL_inj {L : Int} (hL : 1 ≤ L ∧ L ≤ 3) : ∀ (k : Nat) (a b : List Int), a.length ≤ k → (∀ x ∈ a, 0 ≤ x ∧ x < 2 * L) → (∀ x ∈ b, 0 ≤ x ∧ x < 2 * L) → numL L a = numL L b → a = b := by
  intro k
  induction k with
  | zero =>
    intro a b ha oa ob h
    have ha0 : a = [] := List.length_eq_zero_iff.mp (by omega)
    subst ha0
    rcases rev_cases b with hb | ⟨r, x, rfl⟩
    · exact hb.symm
    · have h1 := numL_pos (x := x) hL (fun y hy => ob y (List.mem_append_left _ hy)) (ob x (List.mem_append_right _ (List.mem_singleton.mpr rfl)))
      rw [← h] at h1
      cases h1
  | succ k ih =>
    intro a b ha oa ob h
    rcases rev_cases a with ha2 | ⟨r, x, rfl⟩
    · exact ih a b (by rw [ha2]; exact Nat.zero_le _) oa ob h
    · have ox := oa x (List.mem_append_right _ (List.mem_singleton.mpr rfl))
      have or' : ∀ y ∈ r, 0 ≤ y ∧ y < 2 * L := fun y hy => oa y (List.mem_append_left _ hy)
      rcases rev_cases b with hb | ⟨r2, x2, rfl⟩
      · have h1 := numL_pos (x := x) hL or' ox
        rw [h, hb] at h1
        cases h1
      · have ox2 := ob x2 (List.mem_append_right _ (List.mem_singleton.mpr rfl))
        have or2 : ∀ y ∈ r2, 0 ≤ y ∧ y < 2 * L := fun y hy => ob y (List.mem_append_left _ hy)
        have s1 := numL_step (l := r) hL ox
        have s2 := numL_step (l := r2) hL ox2
        rw [h] at s1
        rw [List.length_append, List.length_singleton] at ha
        have e := ih r r2 (by omega) or' or2 (by rw [← s1.1, ← s2.1])
        have e2 : x = x2 := s1.2.symm.trans s2.2
        rw [e, e2]
