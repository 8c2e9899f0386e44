/-! all choices, by their codes -/
def cOt (lv : Nat → Bool) (rt : Nat) : Nat → Nat → Nat
  | 0, _ => 0
  | k + 1, man => cOt lv rt k (man + 1) + (if oth lv rt man = true then 1 else 0)
def dg (lv : Nat → Bool) (rt : Nat) : Nat → Nat → Nat → (Nat → Int) → (Nat → Int)
  | 0, _, _, f => f
  | k + 1, man, c, f => if oth lv rt man = true then dg lv rt k (man + 1) c (upM f man ((c / 6 ^ cOt lv rt k (man + 1) % 6 : Nat) : Int)) else dg lv rt k (man + 1) c f
def foG (L : Nat → Ac → Ac) : Nat → Nat → Ac → Ac
  | 0, _, acc => acc
  | n + 1, i, acc => foG L n (i + 1) (L i acc)
theorem foG_cg {L M : Nat → Ac → Ac} : ∀ (n i : Nat) (acc : Ac), (∀ j, i ≤ j → j < i + n → ∀ acc, L j acc = M j acc) → foG L n i acc = foG M n i acc
  | 0, _, _, _ => rfl
  | n + 1, i, acc, h => by
    rw [foG, foG, h i (Nat.le_refl _) (by omega)]
    exact foG_cg n (i + 1) _ (fun j h1 h2 => h j (by omega) (by omega))
theorem foG_add {L : Nat → Ac → Ac} : ∀ (a b i : Nat) (acc : Ac), foG L (a + b) i acc = foG L b (i + a) (foG L a i acc)
  | 0, b, i, acc => by rw [Nat.zero_add]; rfl
  | a + 1, b, i, acc => by
    rw [Nat.add_right_comm, foG, foG, foG_add a b (i + 1), Nat.add_assoc, Nat.add_comm 1 a]
theorem msF_fo {L : Nat → Ac → Ac} {st : Nat → Ac → Ac} {w b : Nat} (h : ∀ ma acc, ma < 6 → st ma acc = foG L w (b + ma * w) acc) : ∀ (k i : Nat) (acc : Ac), k + i = 6 → msF st (fun _ => true) k i acc = foG L (k * w) (b + i * w) acc
  | 0, _, _, _ => by
    rw [Nat.zero_mul]
    rfl
  | k + 1, i, acc, hk => by
    rw [msF, if_pos rfl, h i acc (by omega), msF_fo h k (i + 1) _ (by omega), Nat.succ_mul i, Nat.succ_mul k, Nat.add_comm (k * w) w, foG_add, Nat.add_assoc]
section TS
variable {D : Nat → Nat → Int} {lv : Nat → Bool} {rt : Nat}
theorem en_fo : ∀ (k man c : Nat) (f : Nat → Int) (acc : Ac), k + man = 6 → enF D lv rt k man f acc = foG (fun i acc => lfF D lv rt (dg lv rt k man i f) acc) (6 ^ cOt lv rt k man) (c * 6 ^ cOt lv rt k man) acc
  | 0, man, c, f, acc, hk => by
    rw [enF, cOt, Nat.pow_zero, foG, foG]
    rfl
  | k + 1, man, c, f, acc, hk => by
    rw [enF]
    by_cases c2 : oth lv rt man = false
    · have c3 : ¬ oth lv rt man = true := by rw [c2]; decide
      have e : cOt lv rt (k + 1) man = cOt lv rt k (man + 1) := by rw [cOt, if_neg c3]; rfl
      rw [if_pos c2, e, en_fo k (man + 1) c f acc (by omega)]
      refine foG_cg _ _ _ (fun j _ _ acc => ?_)
      rw [dg, if_neg c3]
    · have c3 := (Bool.not_eq_false _).mp c2
      have e : cOt lv rt (k + 1) man = cOt lv rt k (man + 1) + 1 := by rw [cOt, if_pos c3]
      rw [if_neg c2, e, Nat.pow_succ, Nat.mul_comm (6 ^ cOt lv rt k (man + 1)) 6]
      have hw : 0 < 6 ^ cOt lv rt k (man + 1) := Nat.pow_pos (by decide)
      have hdg : ∀ i ma : Nat, i / 6 ^ cOt lv rt k (man + 1) % 6 = ma → dg lv rt (k + 1) man i f = dg lv rt k (man + 1) i (upM f man ma) := by
        intro i ma h
        rw [dg, if_pos c3, h]
      have key := msF_fo (L := fun i acc => lfF D lv rt (dg lv rt (k + 1) man i f) acc) (st := fun ma acc => enF D lv rt k (man + 1) (upM f man ma) acc) (w := 6 ^ cOt lv rt k (man + 1)) (b := c * (6 * 6 ^ cOt lv rt k (man + 1))) (fun ma acc hma => by
        have eb : c * (6 * 6 ^ cOt lv rt k (man + 1)) + ma * 6 ^ cOt lv rt k (man + 1) = (6 * c + ma) * 6 ^ cOt lv rt k (man + 1) := by
          rw [Nat.add_mul, ← Nat.mul_assoc, Nat.mul_comm c 6]
        rw [eb, en_fo k (man + 1) (6 * c + ma) (upM f man ma) acc (by omega)]
        refine foG_cg _ _ _ (fun j h1 h2 acc => ?_)
        rw [hdg j ma ?_]
        have e2 : j / 6 ^ cOt lv rt k (man + 1) = 6 * c + ma := by
          refine Nat.div_eq_of_lt_le h1 ?_
          rw [Nat.succ_mul]
          exact h2
        rw [e2]
        omega) 6 0 acc rfl
      rw [Nat.zero_mul, Nat.add_zero] at key
      exact key
theorem enF_le : ∀ (k man : Nat) (f : Nat → Int) (acc : Ac), (enF D lv rt k man f acc).1 ≤ acc.1
  | 0, man, f, acc => by
    rw [enF, lfF]
    split
    · rename_i h
      exact Int.le_of_lt h.2
    · exact Int.le_refl _
  | k + 1, man, f, acc => by
    rw [enF]
    split
    · exact enF_le k (man + 1) f acc
    · have : ∀ (j i : Nat) (acc : Ac), (msF (fun ma acc => enF D lv rt k (man + 1) (upM f man ma) acc) (fun _ => true) j i acc).1 ≤ acc.1 := by
        intro j
        induction j with
        | zero => intro i acc; exact Int.le_refl _
        | succ j ih =>
          intro i acc
          rw [msF, if_pos rfl]
          exact Int.le_trans (ih (i + 1) _) (enF_le k (man + 1) (upM f man i) acc)
      exact this 6 0 acc
theorem msF_hit {st : Nat → Ac → Ac} {B : Int} (h : ∀ i acc, (st i acc).1 ≤ acc.1) {t : Nat} (ht : ∀ acc, (st t acc).1 ≤ B) : ∀ (k i : Nat) (acc : Ac), (acc.1 ≤ B ∨ (i ≤ t ∧ t < i + k)) → (msF st (fun _ => true) k i acc).1 ≤ B
  | 0, i, acc, hb => by
    rcases hb with hb | hb
    · exact hb
    · omega
  | k + 1, i, acc, hb => by
    rw [msF, if_pos rfl]
    refine msF_hit h ht k (i + 1) _ ?_
    have := h i acc
    rcases hb with hb | hb
    · exact Or.inl (by omega)
    · by_cases c : i = t
      · rw [c]
        exact Or.inl (ht acc)
      · exact Or.inr (by omega)
theorem smF_le (hD : ∀ a b, 0 ≤ D a b ∧ D a b ≤ 12) {F : Nat → Int} : ∀ n : Nat, 0 ≤ smF D lv rt F n ∧ smF D lv rt F n ≤ 12 * n
  | 0 => by rw [smF]; omega
  | n + 1 => by
    have ih := smF_le hD (F := F) n
    have := hD n (F n).toNat
    rw [smF]
    split <;> omega
theorem enF_star (hD : ∀ a b, 0 ≤ D a b ∧ D a b ≤ 12) (hr : rt < 6) (hl : lv rt = true) : ∀ (k man : Nat) (f : Nat → Int) (acc : Ac), k + man = 6 → Nd lv rt f man → (enF D lv rt k man f acc).1 ≤ 72
  | 0, man, f, acc, hk, hn => by
    have : man = 6 := by omega
    subst this
    have hs := smF_le (lv := lv) (rt := rt) hD (F := f) 6
    rw [enF, lfF, Nd_6 hr hn]
    split
    · show smF D lv rt f 6 ≤ 72
      omega
    · rename_i c
      have : ¬ smF D lv rt f 6 < acc.1 := fun z => c ⟨rfl, z⟩
      omega
  | k + 1, man, f, acc, hk, hn => by
    rw [enF]
    by_cases c2 : oth lv rt man = false
    · rw [if_pos c2]
      exact enF_star hD hr hl k (man + 1) f acc (by omega) (Nd_n hn c2)
    · have c3 := (Bool.not_eq_false _).mp c2
      rw [if_neg c2]
      refine msF_hit (t := rt) (fun i acc => enF_le k (man + 1) (upM f man i) acc) (fun acc => ?_) 6 0 acc (Or.inr (by omega))
      refine enF_star hD hr hl k (man + 1) _ acc (by omega) (Nd_s hn (by omega) c3 hr hl ?_)
      rintro ⟨n, h⟩
      have hno := (oth_iff.mp c3).2
      cases n with
      | zero => exact hno h.symm
      | succ n =>
        rw [itg, gF_no (hn.2.1 rt (Or.inr (oth_not.mp (Or.inl rfl))))] at h
        have := itg_6 (f := f) n 6 (Nat.le_refl 6)
        omega
end TS
