/-! worn: the digits of a filling -/
def cN : List Int → Nat
  | [] => 0
  | x :: r => cN r + (if x = -1 then 1 else 0)
theorem pwS_pos {S : Int} (hS : 1 ≤ S) : ∀ k, 0 < pwS S k
  | 0 => by rw [pwS]; decide
  | k + 1 => by
    rw [pwS]
    exact Int.mul_pos (pwS_pos hS k) (by omega)
theorem cfF_pw {S : Int} : ∀ (n : List Int) (m : Int), cfF S n m = m * pwS S (cN n)
  | [], m => by rw [cfF, cN, pwS, Int.mul_one]
  | x :: r, m => by
    rw [cfF, cN]
    by_cases c : x = -1
    · rw [if_pos c, if_pos c, cfF_pw r, pwS, Int.mul_comm (pwS S (cN r)), Int.mul_assoc]
    · rw [if_neg c, if_neg c, cfF_pw r]
      rfl
theorem flR_2 {S f : Int} (hS : 1 ≤ S) : ∀ n, (flR S n f).2 = f / pwS S (cN n)
  | [] => by
    rw [flR, cN, pwS, Int.ediv_one]
  | x :: r => by
    rw [flR, cN]
    by_cases c : x = -1
    · rw [if_pos c, if_pos c]
      show (flR S r f).2 / S = _
      rw [flR_2 hS r, pwS, Int.ediv_ediv_of_nonneg (Int.le_of_lt (pwS_pos hS _))]
    · rw [if_neg c, if_neg c]
      exact flR_2 hS r
theorem flR_getD {S f : Int} (hS : 1 ≤ S) : ∀ (n : List Int) (k : Nat), k < n.length → (flF S n f).getD k 0 = if n.getD k 0 = -1 then f / pwS S (cN (n.drop (k + 1))) % S else n.getD k 0
  | [], k, h => absurd h (Nat.not_lt_zero k)
  | x :: r, 0, _ => by
    unfold flF
    rw [flR]
    show _ = if x = -1 then f / pwS S (cN r) % S else x
    by_cases c : x = -1
    · rw [if_pos c, if_pos c, ← flR_2 hS r]
      rfl
    · rw [if_neg c, if_neg c]
      rfl
  | x :: r, k + 1, h => by
    have ih := flR_getD hS (f := f) r k (by simpa using h)
    unfold flF at ih ⊢
    rw [flR]
    show _ = if r.getD k 0 = -1 then f / pwS S (cN (r.drop (k + 1))) % S else r.getD k 0
    rw [← ih]
    by_cases c : x = -1
    · rw [if_pos c]
      rfl
    · rw [if_neg c]
      rfl
theorem flF_len {S f : Int} {n : List Int} : (flF S n f).length = n.length := flR_len n
theorem slF_dg {S f i : Int} (hS : 1 ≤ S) : ∀ (n : List Int) (lost : Int), slF i n (flF S n f) lost = if lost ≤ i ∧ i < lost + cN n then f / pwS S ((cN n : Int) - 1 - (i - lost)).toNat % S else -2
  | [], lost => by
    show -2 = _
    rw [if_neg (by
      show ¬ (lost ≤ i ∧ i < lost + 0)
      omega)]
  | x :: r, lost => by
    unfold flF
    rw [flR, cN]
    by_cases c : x = -1
    · rw [if_pos c]
      show slF i (x :: r) ((flR S r f).2 % S :: (flR S r f).1) lost = _
      rw [slF, if_pos c, if_pos c]
      by_cases c2 : lost = i
      · rw [if_pos c2, if_pos (by omega), flR_2 hS r]
        congr 3
        omega
      · rw [if_neg c2]
        have ih := slF_dg (f := f) (i := i) hS r (lost + 1)
        unfold flF at ih
        rw [ih]
        by_cases c3 : lost + 1 ≤ i ∧ i < lost + 1 + cN r
        · rw [if_pos c3, if_pos (by omega)]
          congr 3
          omega
        · rw [if_neg c3, if_neg (by omega)]
    · rw [if_neg c]
      show slF i (x :: r) (x :: (flR S r f).1) lost = _
      rw [slF, if_neg c, if_neg c]
      have ih := slF_dg (f := f) (i := i) hS r lost
      unfold flF at ih
      rw [ih]
      rfl
/-- how many of the first k -/
def cG (g : Nat → Bool) : Nat → Int
  | 0 => 0
  | k + 1 => cG g k + (if g k = true then 1 else 0)
/-- the first of the first k -/
def fM (g : Nat → Bool) : Nat → Int
  | 0 => -6
  | k + 1 => if fM g k < 0 then (if g k = true then k else -6) else fM g k
theorem cG_fM (g : Nat → Bool) : ∀ k : Nat, 0 ≤ cG g k ∧ cG g k ≤ k ∧ (cG g k = 0 ↔ fM g k < 0) ∧ -6 ≤ fM g k ∧ fM g k < k ∧ (fM g k < 0 → fM g k = -6)
  | 0 => by
    rw [cG, fM]
    omega
  | k + 1 => by
    have ih := cG_fM g k
    rw [cG, fM]
    by_cases c : g k = true
    · rw [if_pos c, if_pos c]
      split <;> omega
    · rw [if_neg c, if_neg c]
      split <;> omega
theorem dnF_up (g : Nat → Bool) : ∀ (k : Nat) (a : Int × Nat), dnF g k a = (a.1 + cG g k, if fM g k < 0 then a.2 else (fM g k).toNat)
  | 0, a => by
    rw [dnF, cG, fM, if_pos (by decide), Int.add_zero]
  | k + 1, a => by
    have e := cG_fM g k
    rw [dnF, dnF_up g k, cG, fM]
    by_cases c : g k = true
    · rw [if_pos c, if_pos c, if_pos c]
      by_cases c2 : fM g k < 0
      · rw [if_pos c2, if_pos c2, if_neg (by omega)]
        refine Prod.ext ?_ ?_
        · show a.1 + 1 + cG g k = a.1 + (cG g k + 1)
          omega
        · show k = ((k : Nat) : Int).toNat
          omega
      · rw [if_neg c2, if_neg c2, if_neg c2]
        refine Prod.ext ?_ rfl
        show a.1 + 1 + cG g k = a.1 + (cG g k + 1)
        omega
    · rw [if_neg c, if_neg c, if_neg c]
      by_cases c2 : fM g k < 0
      · rw [if_pos c2, if_pos c2, if_pos (by decide), Int.add_zero]
      · rw [if_neg c2, if_neg c2, if_neg c2, Int.add_zero]
/-- worn's answer, told by digits -/
theorem wnF_up {t : List Int → Bool} {L i : Int} {n : List Int} (hL : 1 ≤ L ∧ L ≤ 3) : wnF t L n i = if i = -1 then cG (fun f => t (flF (2 * L) n f)) (pwS (2 * L) (cN n)).toNat else
    if 0 ≤ fM (fun f => t (flF (2 * L) n f)) (pwS (2 * L) (cN n)).toNat ∧ 0 ≤ i ∧ i < cN n then codeOf L (fM (fun f => t (flF (2 * L) n f)) (pwS (2 * L) (cN n)).toNat / pwS (2 * L) ((cN n : Int) - 1 - i).toNat % (2 * L)) else -6 := by
  have e := cG_fM (fun f => t (flF (2 * L) n f)) (pwS (2 * L) (cN n)).toNat
  unfold wnF
  rw [cfF_pw, Int.one_mul, dnF_up]
  dsimp only
  rw [Int.zero_add]
  generalize cG (fun (f : Nat) => t (flF (2 * L) n f)) (pwS (2 * L) (cN n)).toNat = cc at *
  generalize fM (fun (f : Nat) => t (flF (2 * L) n f)) (pwS (2 * L) (cN n)).toNat = ff at *
  by_cases c : i = -1
  · rw [if_pos c, if_pos c]
  · rw [if_neg c, if_neg c]
    by_cases c2 : cc = 0
    · rw [if_pos c2, if_neg (by omega)]
    · rw [if_neg c2, if_neg (by omega), Int.toNat_of_nonneg (by omega), slF_dg (by omega), Int.zero_add, Int.sub_zero]
      by_cases c3 : 0 ≤ i ∧ i < cN n
      · rw [if_pos c3, if_pos (by omega)]
      · rw [if_neg c3, if_neg (by omega)]
        rfl
theorem cnt63_cN {L : Int} (hL : 1 ≤ L ∧ L ≤ 3) : ∀ l : List Int, (∀ c ∈ l, 33 ≤ c) → cnt63 l = cN (sgn L l)
  | [], _ => rfl
  | c :: r, h => by
    have ih := cnt63_cN hL r (fun x hx => h x (List.mem_cons_of_mem _ hx))
    have hc := ps63 hL (h c List.mem_cons_self)
    show (if c = 63 then 1 else 0) + cnt63 r = ((cN (sgn L r) + (if padSign L c = -1 then 1 else 0) : Nat) : Int)
    rw [ih]
    by_cases e : c = 63
    · rw [if_pos e, if_pos (hc.mpr e)]
      omega
    · rw [if_neg e, if_neg (fun z => e (hc.mp z))]
      omega
theorem cN_count : ∀ l : List Int, cN l = l.count (-1)
  | [] => rfl
  | x :: r => by
    rw [cN, List.count_cons, cN_count r]
    by_cases c : x = -1
    · rw [if_pos c, if_pos (by rw [beq_iff_eq]; exact c)]
    · rw [if_neg c, if_neg (by rw [beq_iff_eq]; exact c)]
theorem pwS_rg {L : Int} (hL : 1 ≤ L ∧ L ≤ 3) {k : Nat} (hk : k ≤ 3) : 1 ≤ pwS (2 * L) k ∧ pwS (2 * L) k ≤ 216 := by
  have : k = 0 ∨ k = 1 ∨ k = 2 ∨ k = 3 := by omega
  rcases (show L = 1 ∨ L = 2 ∨ L = 3 by omega) with e | e | e <;> subst e <;> rcases this with e | e | e | e <;> subst e <;> decide
