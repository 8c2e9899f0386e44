/-! how many rows a knot has at most: colours of cords -/
abbrev Vc : Type := Int × Int × Int × Int
/-- what a crossing of place p does with the colours under it -/
def cf (p w : Int) (v : Vc) : Vc :=
  if w = 1 then (if p = 0 then (2 * v.1 - v.2.1, v.1, v.2.2.1, v.2.2.2) else if p = 1 then (v.1, 2 * v.2.1 - v.2.2.1, v.2.1, v.2.2.2) else (v.1, v.2.1, 2 * v.2.2.1 - v.2.2.2, v.2.2.1))
  else (if p = 0 then (v.2.1, 2 * v.2.1 - v.1, v.2.2.1, v.2.2.2) else if p = 1 then (v.1, v.2.2.1, 2 * v.2.2.1 - v.2.1, v.2.2.2) else (v.1, v.2.1, v.2.2.2, 2 * v.2.2.2 - v.2.2.1))
def cv (L s : Int) (v : Vc) : Vc := cf (letL L s) (worL L s) v
def cvs (L : Int) : List Int → Vc → Vc
  | [], v => v
  | s :: l, v => cvs L l (cv L s v)
def cvi (L : Int) : List Int → Vc → Vc
  | [], v => v
  | s :: l, v => cv L (oppS L s) (cvi L l v)
theorem Vc.e {a b : Vc} (h1 : a.1 = b.1) (h2 : a.2.1 = b.2.1) (h3 : a.2.2.1 = b.2.2.1) (h4 : a.2.2.2 = b.2.2.2) : a = b := by
  obtain ⟨a1, a2, a3, a4⟩ := a
  obtain ⟨b1, b2, b3, b4⟩ := b
  change a1 = b1 at h1
  change a2 = b2 at h2
  change a3 = b3 at h3
  change a4 = b4 at h4
  subst h1 h2 h3 h4
  rfl
theorem cf_inv {p w : Int} {v : Vc} (hw : w = 1 ∨ w = -1) : cf p (0 - w) (cf p w v) = v := by
  obtain ⟨a, b, c, e⟩ := v
  by_cases c0 : p = 0
  · subst c0
    rcases hw with rfl | rfl <;> simp only [cf, show (0 : Int) - 1 = -1 by decide, show (0 : Int) - -1 = 1 by decide, show ¬ (-1 : Int) = 1 by decide, if_false, if_true] <;> refine Vc.e ?_ ?_ ?_ ?_ <;> dsimp only <;> omega
  · by_cases c1 : p = 1
    · subst c1
      rcases hw with rfl | rfl <;> simp only [cf, show (0 : Int) - 1 = -1 by decide, show (0 : Int) - -1 = 1 by decide, show ¬ (-1 : Int) = 1 by decide, show ¬ (1 : Int) = 0 by decide, if_false, if_true] <;> refine Vc.e ?_ ?_ ?_ ?_ <;> dsimp only <;> omega
    · rcases hw with rfl | rfl <;> simp only [cf, show (0 : Int) - 1 = -1 by decide, show (0 : Int) - -1 = 1 by decide, show ¬ (-1 : Int) = 1 by decide, c0, c1, if_false, if_true] <;> refine Vc.e ?_ ?_ ?_ ?_ <;> dsimp only <;> omega
theorem worL_or {L s : Int} : worL L s = 1 ∨ worL L s = -1 := by
  unfold worL
  split
  · exact Or.inl rfl
  · exact Or.inr rfl
theorem oppS_let {L s : Int} (h : 0 ≤ s ∧ s < 2 * L) : letL L (oppS L s) = letL L s ∧ worL L (oppS L s) = 0 - worL L s ∧ oppS L (oppS L s) = s := by
  unfold letL worL oppS
  by_cases c : s < L
  · rw [if_pos c, if_pos c, if_pos c, if_neg (by omega), if_neg (by omega), if_neg (by omega)]
    exact ⟨by omega, rfl, by omega⟩
  · rw [if_neg c, if_neg c, if_neg c, if_pos (by omega), if_pos (by omega), if_pos (by omega)]
    exact ⟨by omega, rfl, by omega⟩
theorem cv_opp {L s : Int} {v : Vc} (h : 0 ≤ s ∧ s < 2 * L) : cv L (oppS L s) (cv L s v) = v := by
  obtain ⟨h1, h2, h3⟩ := oppS_let h
  unfold cv
  rw [h1, h2]
  exact cf_inv worL_or
theorem oppS_rg {L s : Int} (h : 0 ≤ s ∧ s < 2 * L) : 0 ≤ oppS L s ∧ oppS L s < 2 * L := by
  unfold oppS
  split <;> omega
theorem cv_opp2 {L s : Int} {v : Vc} (h : 0 ≤ s ∧ s < 2 * L) : cv L s (cv L (oppS L s) v) = v := by
  have e := cv_opp (v := v) (oppS_rg h)
  rw [(oppS_let h).2.2] at e
  exact e
theorem cvs_app {L : Int} : ∀ (a b : List Int) (v : Vc), cvs L (a ++ b) v = cvs L b (cvs L a v)
  | [], _, _ => rfl
  | _ :: a, b, _ => cvs_app a b _
theorem cvs_cvi {L : Int} : ∀ (l : List Int) (v : Vc), (∀ x ∈ l, 0 ≤ x ∧ x < 2 * L) → cvs L l (cvi L l v) = v
  | [], _, _ => rfl
  | s :: l, v, h => by
    show cvs L l (cv L s (cv L (oppS L s) (cvi L l v))) = v
    rw [cv_opp2 (h s List.mem_cons_self)]
    exact cvs_cvi l v (fun x hx => h x (List.mem_cons_of_mem _ hx))
theorem cvi_cvs {L : Int} : ∀ (l : List Int) (v : Vc), (∀ x ∈ l, 0 ≤ x ∧ x < 2 * L) → cvi L l (cvs L l v) = v
  | [], _, _ => rfl
  | s :: l, v, h => by
    show cv L (oppS L s) (cvi L l (cvs L l (cv L s v))) = v
    rw [cvi_cvs l _ (fun x hx => h x (List.mem_cons_of_mem _ hx))]
    exact cv_opp (h s List.mem_cons_self)
/-- far crossings may be told in either order -/
theorem cf_far {p q w x : Int} {v : Vc} (hp : p = 0 ∧ q = 2 ∨ p = 2 ∧ q = 0) (hw : w = 1 ∨ w = -1) (hx : x = 1 ∨ x = -1) : cf p w (cf q x v) = cf q x (cf p w v) := by
  rcases hp with ⟨rfl, rfl⟩ | ⟨rfl, rfl⟩ <;> rcases hw with rfl | rfl <;> rcases hx with rfl | rfl <;> rfl
theorem cf_tri {p q w : Int} {v : Vc} (hp : p = 0 ∧ q = 1 ∨ p = 1 ∧ q = 0 ∨ p = 1 ∧ q = 2 ∨ p = 2 ∧ q = 1) (hw : w = 1 ∨ w = -1) : cf p w (cf q w (cf p w v)) = cf q w (cf p w (cf q w v)) := by
  obtain ⟨a, b, c, e⟩ := v
  rcases hp with ⟨rfl, rfl⟩ | ⟨rfl, rfl⟩ | ⟨rfl, rfl⟩ | ⟨rfl, rfl⟩ <;> rcases hw with rfl | rfl <;> simp only [cf, if_pos, if_neg, show ¬ (-1 : Int) = 1 by decide, show ¬ (1 : Int) = 0 by decide, show ¬ (2 : Int) = 0 by decide, show ¬ (2 : Int) = 1 by decide, if_false, if_true, not_false_eq_true] <;> refine Vc.e ?_ ?_ ?_ ?_ <;> show (_ : Int) = _ <;> dsimp only <;> omega
/-- a change that leaves the colours as they were leaves them so in the whole row -/
theorem cvs_chg {L : Int} {l m : List Int} {p g : Nat} (h : ∀ v, cvs L m v = cvs L ((l.drop p).take g) v) (v : Vc) : cvs L (chg l p g m) v = cvs L l v := by
  unfold chg
  have e : l = l.take p ++ ((l.drop p).take g ++ l.drop (p + g)) := by
    rw [← List.drop_drop, List.take_append_drop, List.take_append_drop]
  rw [cvs_app, cvs_app, h, ← cvs_app, ← cvs_app, ← e]
theorem dt_2 {l : List Int} {i : Nat} (h : i + 1 < l.length) : (l.drop i).take 2 = [l.getD i 0, l.getD (i + 1) 0] := by
  rw [drop_cons (by omega), drop_cons h]
  rfl
theorem dt_3 {l : List Int} {i : Nat} (h : i + 2 < l.length) : (l.drop i).take 3 = [l.getD i 0, l.getD (i + 1) 0, l.getD (i + 2) 0] := by
  rw [drop_cons (by omega), drop_cons (by omega), drop_cons h]
  rfl
theorem oppS_of {L s t : Int} (hs : 0 ≤ s ∧ s < 2 * L) (ht : 0 ≤ t ∧ t < 2 * L) (h : letL L s = letL L t) (hn : ¬ s = t) : t = oppS L s := by
  unfold letL at h
  unfold oppS
  (repeat' split at h) <;> split <;> omega
