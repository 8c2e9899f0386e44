/-! who taught whom: trees, and the search as a run through all choices -/
def oth (lv : Nat → Bool) (rt m : Nat) : Bool := lv m && !decide (m = rt)
theorem oth_iff {lv : Nat → Bool} {rt m : Nat} : oth lv rt m = true ↔ lv m = true ∧ ¬ m = rt := by
  unfold oth
  rw [Bool.and_eq_true, Bool.not_eq_true', decide_eq_false_iff_not]
theorem oth_not {lv : Nat → Bool} {rt m : Nat} : (m = rt ∨ lv m = false) ↔ oth lv rt m = false := by
  unfold oth
  by_cases c : m = rt
  · rw [decide_eq_true c, Bool.not_true, Bool.and_false]
    exact ⟨fun _ => rfl, fun _ => Or.inl c⟩
  · rw [decide_eq_false c, Bool.not_false, Bool.and_true]
    exact ⟨fun z => z.resolve_left c, fun z => Or.inr z⟩
def nX (x : Int) : Nat := if 0 ≤ x ∧ x < 6 then x.toNat else 6
def gF (f : Nat → Int) (a : Nat) : Nat := if a < 6 then nX (f a) else 6
def itg (f : Nat → Int) : Nat → Nat → Nat
  | 0, a => a
  | n + 1, a => itg f n (gF f a)
theorem itg_6 {f : Nat → Int} : ∀ n a, 6 ≤ a → 6 ≤ itg f n a
  | 0, _, h => h
  | n + 1, a, h => by
    have e : gF f a = 6 := if_neg (by omega)
    rw [itg, e]
    exact itg_6 n 6 (Nat.le_refl 6)
theorem itg_add {f : Nat → Int} : ∀ n m a, itg f (n + m) a = itg f m (itg f n a)
  | 0, m, a => by rw [Nat.zero_add]; rfl
  | n + 1, m, a => by
    rw [Nat.add_right_comm]
    exact itg_add n m (gF f a)
theorem itg_s {f : Nat → Int} {n a : Nat} : itg f (n + 1) a = gF f (itg f n a) := itg_add n 1 a
theorem itg_in {f : Nat → Int} {n i a : Nat} (h : itg f n a < 6) (hi : i ≤ n) : itg f i a < 6 := by
  rcases Nat.lt_or_ge (itg f i a) 6 with c | c
  · exact c
  · have e : n = i + (n - i) := by omega
    rw [e, itg_add] at h
    have := itg_6 (f := f) (n - i) (itg f i a) c
    omega
theorem pig {f : Nat → Int} {a t : Nat} (ht : t < 6) : ∀ n, itg f n a = t → ∃ j, j < 6 ∧ itg f j a = t := by
  intro n
  induction n using Nat.strongRecOn with
  | ind n ih =>
    intro h
    by_cases c : n < 6
    · exact ⟨n, c, h⟩
    · by_cases c2 : ∃ i j, i < j ∧ j ≤ 6 ∧ itg f i a = itg f j a
      · obtain ⟨i, j, h1, h2, h3⟩ := c2
        refine ih (n - (j - i)) (by omega) ?_
        have e : n - (j - i) = i + (n - j) := by omega
        rw [e, itg_add, h3, ← itg_add]
        rw [show j + (n - j) = n by omega]
        exact h
      · exfalso
        have hn : ((List.range 7).map (fun i => itg f i a)).Nodup := by
          unfold List.Nodup
          rw [List.pairwise_map]
          refine List.Pairwise.imp_of_mem (fun {i j} hi hj hij e => c2 ⟨i, j, hij, ?_, e⟩) List.pairwise_lt_range
          have := List.mem_range.mp hj
          omega
        have hs : ((List.range 7).map (fun i => itg f i a)) ⊆ List.range 6 := by
          intro x hx
          obtain ⟨i, hi, rfl⟩ := List.mem_map.mp hx
          have hi2 := List.mem_range.mp hi
          exact List.mem_range.mpr (itg_in (n := n) (by omega) (by omega))
        have := hn.length_le_of_subset hs
        rw [List.length_map, List.length_range, List.length_range] at this
        omega
def Rch (f : Nat → Int) (a t : Nat) : Prop := ∃ n, itg f n a = t
theorem cmF_iff {f : Nat → Int} {t : Nat} (ht : t < 6) : ∀ (k : Nat) (x : Int), cmF f t k x = true ↔ ∃ j, j < k ∧ itg f j (nX x) = t
  | 0, x => by
    rw [cmF]
    exact ⟨fun h => (by cases h), fun ⟨j, hj, _⟩ => absurd hj (Nat.not_lt_zero j)⟩
  | k + 1, x => by
    rw [cmF]
    by_cases c : 0 ≤ x ∧ x < 6
    · have e1 : nX x = x.toNat := if_pos c
      have e2 : gF f x.toNat = nX (f x.toNat) := if_pos (by omega)
      rw [if_pos c, e1]
      by_cases c2 : x = t
      · rw [if_pos c2]
        exact ⟨fun _ => ⟨0, by omega, by show x.toNat = t; omega⟩, fun _ => rfl⟩
      · rw [if_neg c2, cmF_iff ht k (f x.toNat), ← e2]
        constructor
        · rintro ⟨j, hj, h⟩
          exact ⟨j + 1, by omega, h⟩
        · rintro ⟨j, hj, h⟩
          cases j with
          | zero =>
            change x.toNat = t at h
            omega
          | succ j => exact ⟨j, by omega, h⟩
    · have e1 : nX x = 6 := if_neg c
      rw [if_neg c, e1]
      refine ⟨fun h => (by cases h), fun ⟨j, _, h⟩ => ?_⟩
      have := itg_6 (f := f) j 6 (Nat.le_refl 6)
      omega
theorem cm_rch {f : Nat → Int} {t a : Nat} (ht : t < 6) (ha : a < 6) : cmF f t 6 a = true ↔ Rch f a t := by
  rw [cmF_iff ht]
  have e1 : nX (a : Int) = a := by
    unfold nX
    rw [if_pos (by omega)]
    omega
  rw [e1]
  exact ⟨fun ⟨j, _, h⟩ => ⟨j, h⟩, fun ⟨n, h⟩ => pig ht n h⟩
def chB (f : Nat → Int) (rt : Nat) : Nat → Nat → Bool
  | 0, a => decide (a = rt)
  | k + 1, a => decide (a = rt) || chB f rt k (gF f a)
theorem chB_iff {f : Nat → Int} {rt : Nat} : ∀ k a, chB f rt k a = true ↔ ∃ j, j ≤ k ∧ itg f j a = rt
  | 0, a => by
    rw [chB, decide_eq_true_iff]
    exact ⟨fun h => ⟨0, Nat.le_refl 0, h⟩, fun ⟨j, hj, h⟩ => by
      have : j = 0 := by omega
      subst this
      exact h⟩
  | k + 1, a => by
    rw [chB, Bool.or_eq_true, decide_eq_true_iff, chB_iff k]
    constructor
    · rintro (h | ⟨j, hj, h⟩)
      · exact ⟨0, by omega, h⟩
      · exact ⟨j + 1, by omega, h⟩
    · rintro ⟨j, hj, h⟩
      cases j with
      | zero => exact Or.inl h
      | succ j => exact Or.inr ⟨j, by omega, h⟩
def goodB (lv : Nat → Bool) (rt : Nat) (F : Nat → Int) : Bool := (List.range 6).all (fun m => !oth lv rt m || (lv (F m).toNat && !decide (F m = m)))
def comeB (lv : Nat → Bool) (rt : Nat) (F : Nat → Int) : Bool := (List.range 6).all (fun m => !lv m || chB F rt 6 m)
def gdB (lv : Nat → Bool) (rt : Nat) (F : Nat → Int) : Bool := goodB lv rt F && comeB lv rt F
theorem good_iff {lv : Nat → Bool} {rt : Nat} {F : Nat → Int} : goodB lv rt F = true ↔ ∀ m, m < 6 → oth lv rt m = true → lv (F m).toNat = true ∧ ¬ F m = m := by
  unfold goodB
  rw [List.all_eq_true]
  constructor
  · intro h m hm ho
    have := h m (List.mem_range.mpr hm)
    rw [ho, Bool.not_true, Bool.false_or, Bool.and_eq_true, Bool.not_eq_true', decide_eq_false_iff_not] at this
    exact this
  · intro h m hm
    cases ho : oth lv rt m with
    | false => rfl
    | true =>
      rw [Bool.not_true, Bool.false_or, Bool.and_eq_true, Bool.not_eq_true', decide_eq_false_iff_not]
      exact h m (List.mem_range.mp hm) ho
theorem come_iff {lv : Nat → Bool} {rt : Nat} {F : Nat → Int} : comeB lv rt F = true ↔ ∀ m, m < 6 → lv m = true → chB F rt 6 m = true := by
  unfold comeB
  rw [List.all_eq_true]
  constructor
  · intro h m hm ho
    have := h m (List.mem_range.mpr hm)
    rw [ho, Bool.not_true, Bool.false_or] at this
    exact this
  · intro h m hm
    cases ho : lv m with
    | false => rfl
    | true =>
      rw [Bool.not_true, Bool.false_or]
      exact h m (List.mem_range.mp hm) ho
def smF (D : Nat → Nat → Int) (lv : Nat → Bool) (rt : Nat) (F : Nat → Int) : Nat → Int
  | 0 => 0
  | m + 1 => smF D lv rt F m + (if oth lv rt m = true then D m (F m).toNat else 0)
theorem smF_ext {D : Nat → Nat → Int} {lv : Nat → Bool} {rt : Nat} {F G : Nat → Int} : ∀ n, (∀ m, m < n → F m = G m) → smF D lv rt F n = smF D lv rt G n
  | 0, _ => rfl
  | n + 1, h => by rw [smF, smF, smF_ext n (fun m hm => h m (by omega)), h n (by omega)]
def lfF (D : Nat → Nat → Int) (lv : Nat → Bool) (rt : Nat) (F : Nat → Int) (acc : Ac) : Ac := if gdB lv rt F = true ∧ smF D lv rt F 6 < acc.1 then (smF D lv rt F 6, F) else acc
def enF (D : Nat → Nat → Int) (lv : Nat → Bool) (rt : Nat) : Nat → Nat → (Nat → Int) → Ac → Ac
  | 0, _, f, acc => lfF D lv rt f acc
  | k + 1, man, f, acc => if oth lv rt man = false then enF D lv rt k (man + 1) f acc else msF (fun ma acc => enF D lv rt k (man + 1) (upM f man ma) acc) (fun _ => true) 6 0 acc
theorem msF_id {step : Nat → Ac → Ac} {ok : Nat → Bool} {acc : Ac} (h : ∀ i, step i acc = acc) : ∀ k i, msF step ok k i acc = acc
  | 0, _ => rfl
  | k + 1, i => by
    rw [msF, h i]
    have e : (if ok i = true then acc else acc) = acc := by split <;> rfl
    rw [e]
    exact msF_id h k (i + 1)
theorem msF_cg {st st2 : Nat → Ac → Ac} {ok ok2 : Nat → Bool} (h : ∀ i acc, i < 6 → (if ok i = true then st i acc else acc) = (if ok2 i = true then st2 i acc else acc)) : ∀ k i acc, k + i = 6 → msF st ok k i acc = msF st2 ok2 k i acc
  | 0, _, _, _ => rfl
  | k + 1, i, acc, hi => by rw [msF, msF, h i acc (by omega), msF_cg h k (i + 1) _ (by omega)]
def Ext (rt man : Nat) (f F : Nat → Int) : Prop := ∀ m, m < man ∨ m = rt → F m = f m
section TR
variable {D : Nat → Nat → Int} {lv : Nat → Bool} {rt : Nat}
theorem enF_bad : ∀ (k man : Nat) (f : Nat → Int) (acc : Ac), (∀ F, Ext rt man f F → gdB lv rt F = false) → enF D lv rt k man f acc = acc
  | 0, man, f, acc, h => by
    rw [enF, lfF, if_neg (by rw [h f (fun _ _ => rfl)]; exact fun z => by cases z.1)]
  | k + 1, man, f, acc, h => by
    rw [enF]
    by_cases c : oth lv rt man = false
    · rw [if_pos c]
      exact enF_bad k (man + 1) f acc (fun F hF => h F (fun m hm => hF m (by omega)))
    · rw [if_neg c]
      refine msF_id (fun ma => enF_bad k (man + 1) (upM f man ma) acc (fun F hF => h F (fun m hm => ?_))) 6 0
      have ho := oth_iff.mp ((Bool.not_eq_false _).mp c)
      rw [hF m (by omega)]
      exact if_neg (by omega)
theorem smF_up {f : Nat → Int} {man ma : Nat} (ho : oth lv rt man = true) : smF D lv rt (upM f man ma) (man + 1) = smF D lv rt f man + D man ma := by
  have e : upM f man ma man = ma := if_pos rfl
  rw [smF, if_pos ho, e, Int.toNat_natCast, smF_ext (F := upM f man ma) (G := f) man (fun m hm => show upM f man ma m = f m from if_neg (by omega))]
theorem enF_ge (hD : ∀ a b, 0 ≤ D a b) : ∀ (k man : Nat) (f : Nat → Int) (acc : Ac), k + man = 6 → acc.1 ≤ smF D lv rt f man → enF D lv rt k man f acc = acc
  | 0, man, f, acc, hk, h => by
    have : man = 6 := by omega
    subst this
    rw [enF, lfF, if_neg (by omega)]
  | k + 1, man, f, acc, hk, h => by
    rw [enF]
    by_cases c : oth lv rt man = false
    · rw [if_pos c]
      refine enF_ge hD k (man + 1) f acc (by omega) ?_
      rw [smF, if_neg (by rw [c]; decide), Int.add_zero]
      exact h
    · rw [if_neg c]
      refine msF_id (fun ma => enF_ge hD k (man + 1) (upM f man ma) acc (by omega) ?_) 6 0
      rw [smF_up ((Bool.not_eq_false _).mp c)]
      have := hD man ma
      omega
/-- a forest begun: the men before man have masters, no chain closes -/
def Nd (lv : Nat → Bool) (rt : Nat) (f : Nat → Int) (man : Nat) : Prop :=
  (∀ m, m < man → oth lv rt m = true → ∃ a : Nat, f m = a ∧ a < 6 ∧ lv a = true ∧ ¬ a = m) ∧ (∀ m, man ≤ m ∨ oth lv rt m = false → f m = -1) ∧
  ∀ a, a < 6 → lv a = true → ∃ u, u < 6 ∧ lv u = true ∧ f u = -1 ∧ Rch f a u
theorem Nd_0 : Nd lv rt (fun _ => -1) 0 := ⟨fun m hm => absurd hm (Nat.not_lt_zero m), fun _ _ => rfl, fun a ha hl => ⟨a, ha, hl, rfl, 0, rfl⟩⟩
theorem gF_no {f : Nat → Int} {a : Nat} (h : f a = -1) : gF f a = 6 := by
  unfold gF
  by_cases c : a < 6
  · rw [if_pos c, h]
    rfl
  · exact if_neg c
theorem gF_up {f : Nat → Int} {man a : Nat} {x : Int} (h : ¬ a = man) : gF (upM f man x) a = gF f a := by
  unfold gF
  rw [show upM f man x a = f a from if_neg h]
theorem itg_up {f : Nat → Int} {man : Nat} {x : Int} : ∀ n a, (∀ i, i < n → ¬ itg f i a = man) → itg (upM f man x) n a = itg f n a
  | 0, _, _ => rfl
  | n + 1, a, h => by
    rw [itg, itg, gF_up (show ¬ a = man from h 0 (by omega))]
    exact itg_up n (gF f a) (fun i hi => h (i + 1) (by omega))
theorem Nd_s {f : Nat → Int} {man ma : Nat} (h : Nd lv rt f man) (hm : man < 6) (ho : oth lv rt man = true) (ha : ma < 6) (hl : lv ma = true) (hc : ¬ Rch f ma man) : Nd lv rt (upM f man ma) (man + 1) := by
  obtain ⟨h1, h2, h3⟩ := h
  refine ⟨fun m hm2 ho2 => ?_, fun m hm2 => ?_, fun a ha2 hl2 => ?_⟩
  · by_cases c : m = man
    · subst c
      exact ⟨ma, if_pos rfl, ha, hl, fun z => hc ⟨0, z⟩⟩
    · obtain ⟨a, b1, b2⟩ := h1 m (by omega) ho2
      exact ⟨a, by rw [show upM f man ma m = f m from if_neg c]; exact b1, b2⟩
  · have c : ¬ m = man := by
      rintro rfl
      rcases hm2 with z | z
      · omega
      · rw [ho] at z
        cases z
    rw [show upM f man ma m = f m from if_neg c]
    exact h2 m (hm2.imp (fun z => by omega) id)
  · have hfm : f man = -1 := h2 man (Or.inl (Nat.le_refl _))
    have key : ∀ b, b < 6 → lv b = true → ¬ Rch f b man → ∃ u, u < 6 ∧ lv u = true ∧ upM f man ma u = -1 ∧ Rch (upM f man ma) b u := by
      intro b hb hlb hn
      obtain ⟨u, u1, u2, u3, n, u4⟩ := h3 b hb hlb
      have c : ¬ u = man := fun z => hn ⟨n, by rw [u4, z]⟩
      exact ⟨u, u1, u2, by rw [show upM f man ma u = f u from if_neg c]; exact u3, n, by rw [itg_up n b (fun i _ z => hn ⟨i, z⟩)]; exact u4⟩
    by_cases c : Rch f a man
    · obtain ⟨n, hn⟩ := c
      have hb : ∀ i, i < n → ¬ itg f i a = man := by
        intro i hi z
        have e : n = i + 1 + (n - i - 1) := by omega
        rw [e, itg_add, itg_s, z, gF_no hfm] at hn
        have := itg_6 (f := f) (n - i - 1) 6 (Nat.le_refl 6)
        omega
      obtain ⟨u, u1, u2, u3, j, u4⟩ := key ma ha hl hc
      refine ⟨u, u1, u2, u3, n + 1 + j, ?_⟩
      rw [itg_add, itg_s, itg_up n a hb, hn]
      have e : gF (upM f man ma) man = ma := by
        unfold gF
        rw [if_pos hm, show upM f man ma man = ma from if_pos rfl]
        unfold nX
        rw [if_pos (by omega)]
        omega
      rw [e]
      exact u4
    · exact key a ha2 hl2 c
theorem Nd_n {f : Nat → Int} {man : Nat} (h : Nd lv rt f man) (ho : oth lv rt man = false) : Nd lv rt f (man + 1) := by
  obtain ⟨h1, h2, h3⟩ := h
  refine ⟨fun m hm ho2 => ?_, fun m hm => h2 m (hm.imp (fun z => by omega) id), h3⟩
  by_cases c : m = man
  · rw [c, ho] at ho2
    cases ho2
  · exact h1 m (by omega) ho2
theorem Nd_6 {f : Nat → Int} (hr : rt < 6) (h : Nd lv rt f 6) : gdB lv rt f = true := by
  obtain ⟨h1, h2, h3⟩ := h
  unfold gdB
  rw [Bool.and_eq_true]
  refine ⟨good_iff.mpr (fun m hm ho => ?_), come_iff.mpr (fun m hm hl => ?_)⟩
  · obtain ⟨a, a1, a2, a3, a4⟩ := h1 m hm ho
    rw [a1, Int.toNat_natCast]
    exact ⟨a3, by omega⟩
  · obtain ⟨u, u1, u2, u3, n, u4⟩ := h3 m hm hl
    have hu : u = rt := by
      rcases Nat.decEq u rt with c | c
      · obtain ⟨a, a1, -⟩ := h1 u u1 (oth_iff.mpr ⟨u2, c⟩)
        omega
      · exact c
    subst hu
    obtain ⟨j, hj, hj2⟩ := pig u1 n u4
    exact chB_iff 6 m |>.mpr ⟨j, by omega, hj2⟩
theorem Nd_bad {f F : Nat → Int} {man ma : Nat} (h : Nd lv rt f man) (hr : rt < 6) (hm : man < 6) (ho : oth lv rt man = true) (ha : ma < 6) (hb : lv ma = false ∨ Rch f ma man) (hF : Ext rt (man + 1) (upM f man ma) F) : gdB lv rt F = false := by
  have eF : F man = ma := by
    rw [hF man (by omega)]
    exact if_pos rfl
  have hro := oth_iff.mp ho
  have hfr : F rt = -1 := by
    rw [hF rt (Or.inr rfl), show upM f man ma rt = f rt from if_neg (by omega)]
    exact h.2.1 rt (Or.inr (oth_not.mp (Or.inl rfl)))
  cases hg : gdB lv rt F with
  | false => rfl
  | true =>
    exfalso
    unfold gdB at hg
    rw [Bool.and_eq_true] at hg
    obtain ⟨g1, g2⟩ := hg
    have g3 := good_iff.mp g1 man hm ho
    rw [eF, Int.toNat_natCast] at g3
    rcases hb with hb | ⟨n, hn⟩
    · rw [hb] at g3
      cases g3.1
    · have hpre : ∀ i, i ≤ n → (∀ j, j < i → itg f j ma < man) → itg F i ma = itg f i ma := by
        intro i
        induction i with
        | zero => intro _ _; rfl
        | succ i ih =>
          intro hi hj
          have hlt := hj i (by omega)
          rw [itg_s, itg_s, ih (by omega) (fun j h => hj j (by omega))]
          unfold gF
          rw [hF _ (Or.inl (by omega)), show upM f man ma (itg f i ma) = f (itg f i ma) from if_neg (by omega)]
      have hlt : ∀ i, i < n → itg f i ma < man := by
        intro i hi
        rcases Nat.lt_or_ge (itg f i ma) man with c | c
        · exact c
        · exfalso
          have e1 := gF_no (h.2.1 (itg f i ma) (Or.inl c))
          have e : n = i + 1 + (n - i - 1) := by omega
          rw [e, itg_add, itg_s, e1] at hn
          have := itg_6 (f := f) (n - i - 1) 6 (Nat.le_refl 6)
          omega
      have hcy : itg F (n + 1) man = man := by
        have e : gF F man = ma := by
          unfold gF
          rw [if_pos hm, eF]
          unfold nX
          rw [if_pos (by omega)]
          omega
        rw [itg, e, hpre n (Nat.le_refl _) hlt, hn]
      obtain ⟨j, hj, hj2⟩ := (chB_iff 6 man).mp (come_iff.mp g2 man hm hro.1)
      have hrep : ∀ p, itg F (p * (n + 1)) man = man := by
        intro p
        induction p with
        | zero => rw [Nat.zero_mul]; rfl
        | succ p ih => rw [Nat.succ_mul, itg_add, ih, hcy]
      have e2 := hrep (j + 1)
      have e3 : (j + 1) * (n + 1) = j + 1 + (j + 1) * n := by rw [Nat.mul_succ]; omega
      rw [e3, itg_add, itg_s, hj2, gF_no hfr] at e2
      have := itg_6 (f := F) ((j + 1) * n) 6 (Nat.le_refl 6)
      omega
theorem chF_en (hD : ∀ a b, 0 ≤ D a b) (hr : rt < 6) : ∀ (k man : Nat) (s : Int) (f : Nat → Int) (acc : Ac), k + man = 6 → Nd lv rt f man → s = smF D lv rt f man → chF D lv rt k man s f acc = enF D lv rt k man f acc
  | 0, man, s, f, acc, hk, hn, hs => by
    have : man = 6 := by omega
    subst this
    rw [chF, enF, lfF, Nd_6 hr hn, ← hs]
    by_cases c : acc.1 ≤ s
    · rw [if_pos c, if_neg (by omega)]
    · rw [if_neg c, if_pos ⟨rfl, by omega⟩]
  | k + 1, man, s, f, acc, hk, hn, hs => by
    rw [chF]
    by_cases c : acc.1 ≤ s
    · rw [if_pos c, enF_ge hD (k + 1) man f acc hk (by omega)]
    · rw [if_neg c, enF]
      by_cases c2 : oth lv rt man = false
      · rw [if_pos (oth_not.mpr c2), if_pos c2]
        refine chF_en hD hr k (man + 1) s f acc (by omega) (Nd_n hn c2) ?_
        rw [smF, if_neg (by rw [c2]; decide), Int.add_zero]
        exact hs
      · have ho := (Bool.not_eq_false _).mp c2
        rw [if_neg (fun z => c2 (oth_not.mp z)), if_neg c2]
        refine msF_cg (fun i acc hi => ?_) 6 0 acc rfl
        rw [if_pos rfl]
        by_cases c3 : lv i = true ∧ ¬ Rch f i man
        · rw [if_pos (by
            rw [Bool.and_eq_true, Bool.not_eq_true', ← Bool.not_eq_true, cm_rch (by omega) hi]
            exact c3)]
          refine chF_en hD hr k (man + 1) _ _ acc (by omega) (Nd_s hn (by omega) ho hi c3.1 c3.2) ?_
          rw [smF_up ho, hs]
        · rw [if_neg (by
            rw [Bool.and_eq_true, Bool.not_eq_true', ← Bool.not_eq_true, cm_rch (by omega) hi]
            exact c3)]
          refine (enF_bad k (man + 1) (upM f man i) acc (fun F hF => Nd_bad hn hr (by omega) ho hi ?_ hF)).symm
          cases hl : lv i with
          | false => exact Or.inl rfl
          | true => exact Or.inr (Classical.byContradiction fun z => c3 ⟨hl, z⟩)
end TR
