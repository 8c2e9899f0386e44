/-! how many pairs agree -/
def cnt {β : Type} [DecidableEq β] (xs ys : List β) : Nat := (xs.map (fun x => ys.count x)).sum
theorem cnt_l {β : Type} [DecidableEq β] {x : β} {xs ys : List β} : cnt (x :: xs) ys = ys.count x + cnt xs ys := by
  unfold cnt
  rw [List.map_cons, List.sum_cons]
theorem ite_beq {β : Type} [DecidableEq β] {x y : β} : (if (x == y) = true then 1 else 0) = (if (y == x) = true then 1 else (0 : Nat)) := by
  by_cases c : x = y
  · rw [c]
  · rw [if_neg (by rw [beq_iff_eq]; exact c), if_neg (by rw [beq_iff_eq]; exact fun z => c z.symm)]
theorem cnt_r {β : Type} [DecidableEq β] {y : β} : ∀ {xs ys : List β}, cnt xs (y :: ys) = xs.count y + cnt xs ys
  | [], _ => rfl
  | x :: xs, ys => by
    rw [cnt_l, cnt_l, cnt_r, List.count_cons, List.count_cons, ite_beq (x := y)]
    omega
theorem cnt_comm {β : Type} [DecidableEq β] : ∀ {xs ys : List β}, cnt xs ys = cnt ys xs
  | [], ys => by
    have : ∀ zs : List β, cnt zs [] = 0 := by
      intro zs
      induction zs with
      | nil => rfl
      | cons z zs ih => rw [cnt_l, ih]; rfl
    rw [this]
    rfl
  | x :: xs, ys => by
    rw [cnt_l, cnt_r, cnt_comm]
theorem cnt_pr {β : Type} [DecidableEq β] {ys zs : List β} (h : ys.Perm zs) : ∀ (xs : List β), cnt xs ys = cnt xs zs
  | [] => rfl
  | x :: xs => by rw [cnt_l, cnt_l, cnt_pr h xs, h.count_eq]
theorem cnt_pl {β : Type} [DecidableEq β] {ys zs xs : List β} (h : ys.Perm zs) : cnt ys xs = cnt zs xs := by
  rw [cnt_comm, cnt_pr h, cnt_comm]
theorem cnt_two {β : Type} [DecidableEq β] : ∀ (xs ys : List β), 2 * cnt xs ys ≤ cnt xs xs + cnt ys ys
  | [], ys => by
    have : cnt ([] : List β) ys = 0 := rfl
    rw [this]
    exact Nat.zero_le _
  | x :: xs, ys => by
    by_cases c : x ∈ ys
    · have hp := List.perm_cons_erase c
      have ih := cnt_two xs (ys.erase x)
      rw [cnt_pr hp (x :: xs), cnt_pr hp ys, cnt_pl hp]
      rw [cnt_l, cnt_l, cnt_r, cnt_r, cnt_l, cnt_r, List.count_cons, List.count_cons, if_pos (by rw [beq_iff_eq])]
      omega
    · have ih := cnt_two xs ys
      rw [cnt_l, cnt_l, cnt_r, List.count_eq_zero_of_not_mem c]
      omega
theorem count_map_le {α β γ : Type} [DecidableEq β] [DecidableEq γ] {f : α → β} {g : α → γ} {a : α} : ∀ (B : List α), (∀ y ∈ B, f y = f a → g y = g a) → (B.map f).count (f a) ≤ (B.map g).count (g a)
  | [], _ => Nat.le_refl _
  | b :: B, h => by
    have ih := count_map_le B (fun y hy => h y (List.mem_cons_of_mem _ hy))
    rw [List.map_cons, List.map_cons, List.count_cons, List.count_cons]
    by_cases c : f b = f a
    · rw [if_pos (by rw [beq_iff_eq]; exact c), if_pos (by rw [beq_iff_eq]; exact h b List.mem_cons_self c)]
      omega
    · rw [if_neg (by rw [beq_iff_eq]; exact c)]
      omega
theorem cnt_map_le {α β γ : Type} [DecidableEq β] [DecidableEq γ] {f : α → β} {g : α → γ} {B : List α} : ∀ (A : List α), (∀ x ∈ A, ∀ y ∈ B, f y = f x → g y = g x) → cnt (A.map f) (B.map f) ≤ cnt (A.map g) (B.map g)
  | [], _ => Nat.le_refl _
  | a :: A, h => by
    have ih := cnt_map_le A (fun x hx => h x (List.mem_cons_of_mem _ hx))
    have e := count_map_le B (h a List.mem_cons_self)
    rw [List.map_cons, List.map_cons, cnt_l, cnt_l]
    omega
/-! all words of a length -/
def lts (L : Int) : List Int := (List.range (2 * L).toNat).map (fun (n : Nat) => (n : Int))
def wds (L : Int) : Nat → List (List Int)
  | 0 => [[]]
  | k + 1 => (lts L).flatMap (fun s => (wds L k).map (s :: ·))
theorem mem_lts {L s : Int} : s ∈ lts L ↔ 0 ≤ s ∧ s < 2 * L := by
  unfold lts
  rw [List.mem_map]
  constructor
  · rintro ⟨n, hn, rfl⟩
    rw [List.mem_range] at hn
    omega
  · intro h
    exact ⟨s.toNat, List.mem_range.mpr (by omega), Int.toNat_of_nonneg h.1⟩
theorem mem_wds {L : Int} : ∀ (k : Nat) (l : List Int), l ∈ wds L k ↔ l.length = k ∧ ∀ x ∈ l, 0 ≤ x ∧ x < 2 * L
  | 0, l => by
    rw [wds, List.mem_singleton]
    constructor
    · rintro rfl
      exact ⟨rfl, fun x hx => (by cases hx)⟩
    · exact fun h => List.eq_nil_of_length_eq_zero h.1
  | k + 1, l => by
    rw [wds, List.mem_flatMap]
    constructor
    · rintro ⟨s, hs, h⟩
      obtain ⟨l2, h2, rfl⟩ := List.mem_map.mp h
      rw [mem_wds k] at h2
      refine ⟨by rw [List.length_cons, h2.1], fun x hx => ?_⟩
      rcases List.mem_cons.mp hx with rfl | hx
      · exact mem_lts.mp hs
      · exact h2.2 x hx
    · rintro ⟨h1, h2⟩
      cases l with
      | nil => cases h1
      | cons s l =>
        exact ⟨s, mem_lts.mpr (h2 s List.mem_cons_self), List.mem_map.mpr ⟨l, (mem_wds k l).mpr ⟨Nat.succ.inj h1, fun x hx => h2 x (List.mem_cons_of_mem _ hx)⟩, rfl⟩⟩
theorem len_filter {α β γ : Type} [DecidableEq β] {f : α → β} {g : α → γ} {a : β} : ∀ (B : List α), ((B.filter (fun y => decide (f y = a))).map g).length = (B.map f).count a
  | [] => rfl
  | b :: B => by
    have ih := len_filter (f := f) (g := g) (a := a) B
    rw [List.length_map] at ih ⊢
    rw [List.map_cons, List.count_cons, List.filter_cons]
    by_cases c : f b = a
    · rw [if_pos (by rw [decide_eq_true_iff]; exact c), if_pos (by rw [beq_iff_eq]; exact c), List.length_cons, ih]
    · rw [if_neg (by rw [decide_eq_true_iff]; exact c), if_neg (by rw [beq_iff_eq]; exact c), ih]
      rfl
theorem sum_map_eq {α : Type} {f g : α → Nat} : ∀ (l : List α), (∀ x ∈ l, f x = g x) → (l.map f).sum = (l.map g).sum
  | [], _ => rfl
  | a :: l, h => by
    rw [List.map_cons, List.map_cons, List.sum_cons, List.sum_cons, h a List.mem_cons_self, sum_map_eq l (fun x hx => h x (List.mem_cons_of_mem _ hx))]
theorem sum_map_le {α : Type} {f : α → Nat} {M : Nat} : ∀ (l : List α), (∀ x ∈ l, f x ≤ M) → (l.map f).sum ≤ l.length * M
  | [], _ => by simp
  | a :: l, h => by
    have ih := sum_map_le l (fun x hx => h x (List.mem_cons_of_mem _ hx))
    have e := h a List.mem_cons_self
    rw [List.map_cons, List.sum_cons, List.length_cons, Nat.succ_mul]
    omega
/-- where the colours end that begin as 0, 1, 10, 100 -/
def cod (v : Vc) : Nat := (((v.1 * 3000 + v.2.1) * 3000 + v.2.2.1) * 3000 + v.2.2.2 + 100000000000000000000).toNat
def wcod (L : Int) (l : List Int) : Nat := cod (cvs L l (0, 1, 10, 100))
theorem even_list {L : Int} {k M : Nat} (hM : cnt ((wds L k).map (wcod L)) ((wds L k).map (wcod L)) ≤ M) (φ : Vc → Vc) (hφ : ∀ a b, φ a = φ b → a = b) :
    ∃ R : List (List Int), R.length ≤ M ∧ ∀ w, w.length = k + k → (∀ x ∈ w, 0 ≤ x ∧ x < 2 * L) → (∀ v, cvs L w v = φ v) → w ∈ R := by
  classical
  refine ⟨(wds L k).flatMap (fun x => ((wds L k).filter (fun y => decide (cvs L y = fun v => φ (cvi L x v)))).map (x ++ ·)), ?_, ?_⟩
  · rw [List.length_flatMap, sum_map_eq (g := fun x => ((wds L k).map (cvs L)).count (fun v => φ (cvi L x v))) _ (fun x _ => len_filter _)]
    have e : ((wds L k).map (fun x => ((wds L k).map (cvs L)).count (fun v => φ (cvi L x v)))).sum = cnt ((wds L k).map (fun x v => φ (cvi L x v))) ((wds L k).map (cvs L)) := by
      unfold cnt
      rw [List.map_map]
      rfl
    rw [e]
    have h1 := cnt_two ((wds L k).map (fun x v => φ (cvi L x v))) ((wds L k).map (cvs L))
    have h2 : cnt ((wds L k).map (cvs L)) ((wds L k).map (cvs L)) ≤ cnt ((wds L k).map (wcod L)) ((wds L k).map (wcod L)) := by
      refine cnt_map_le _ (fun x _ y _ z => ?_)
      unfold wcod
      rw [z]
    have h3 : cnt ((wds L k).map (fun x v => φ (cvi L x v))) ((wds L k).map (fun x v => φ (cvi L x v))) ≤ cnt ((wds L k).map (wcod L)) ((wds L k).map (wcod L)) := by
      refine cnt_map_le _ (fun x hx y hy z => ?_)
      have hx2 := ((mem_wds k x).mp hx).2
      have hy2 := ((mem_wds k y).mp hy).2
      have q : ∀ v, cvs L y v = cvs L x v := by
        intro v
        have z2 := hφ _ _ (congrFun z (cvs L x v))
        rw [cvi_cvs x v hx2] at z2
        have z3 := cvs_cvi y (cvs L x v) hy2
        rw [z2] at z3
        exact z3
      unfold wcod
      rw [q]
    omega
  · intro w hw hr hv
    rw [List.mem_flatMap]
    have ht : ∀ x ∈ w.take k, 0 ≤ x ∧ x < 2 * L := fun x hx => hr x (List.mem_of_mem_take hx)
    refine ⟨w.take k, (mem_wds k _).mpr ⟨by rw [List.length_take]; omega, ht⟩, List.mem_map.mpr ⟨w.drop k, List.mem_filter.mpr ⟨(mem_wds k _).mpr ⟨by rw [List.length_drop]; omega, fun x hx => hr x (List.mem_of_mem_drop hx)⟩, ?_⟩, List.take_append_drop k w⟩⟩
    rw [decide_eq_true_iff]
    funext v
    have e := hv (cvi L (w.take k) v)
    rw [← e]
    have e2 : cvs L w (cvi L (w.take k) v) = cvs L (w.take k ++ w.drop k) (cvi L (w.take k) v) := by rw [List.take_append_drop]
    rw [e2, cvs_app, cvs_cvi _ _ ht]
theorem odd_list {L : Int} {k M : Nat} (hM : cnt ((wds L k).map (wcod L)) ((wds L k).map (wcod L)) ≤ M) (φ : Vc → Vc) (hφ : ∀ a b, φ a = φ b → a = b) :
    ∃ R : List (List Int), R.length ≤ (2 * L).toNat * M ∧ ∀ w, w.length = k + k + 1 → (∀ x ∈ w, 0 ≤ x ∧ x < 2 * L) → (∀ v, cvs L w v = φ v) → w ∈ R := by
  have h : ∀ s : Int, ∃ R : List (List Int), R.length ≤ M ∧ ((0 ≤ s ∧ s < 2 * L) → ∀ w, w.length = k + k → (∀ x ∈ w, 0 ≤ x ∧ x < 2 * L) → (∀ v, cvs L w v = φ (cv L (oppS L s) v)) → w ∈ R) := by
    intro s
    by_cases c : 0 ≤ s ∧ s < 2 * L
    · obtain ⟨R, h1, h2⟩ := even_list hM (fun v => φ (cv L (oppS L s) v)) (fun a b z => by
        have z2 := congrArg (cv L s) (hφ _ _ z)
        rw [cv_opp2 c, cv_opp2 c] at z2
        exact z2)
      exact ⟨R, h1, fun _ => h2⟩
    · exact ⟨[], Nat.zero_le _, fun z => absurd z c⟩
  obtain ⟨R, hR⟩ := Classical.axiomOfChoice h
  refine ⟨(lts L).flatMap (fun s => (R s).map (s :: ·)), ?_, ?_⟩
  · rw [List.length_flatMap]
    have e := sum_map_le (f := fun s => ((R s).map (s :: ·)).length) (M := M) (lts L) (fun s _ => by
      show ((R s).map (s :: ·)).length ≤ M
      rw [List.length_map]
      exact (hR s).1)
    have e2 : (lts L).length = (2 * L).toNat := by
      unfold lts
      rw [List.length_map, List.length_range]
    rw [e2] at e
    exact e
  · intro w hw hr hv
    cases w with
    | nil => cases hw
    | cons s w =>
      have hs := hr s List.mem_cons_self
      rw [List.mem_flatMap]
      refine ⟨s, mem_lts.mpr hs, List.mem_map.mpr ⟨w, (hR s).2 hs w (Nat.succ.inj hw) (fun x hx => hr x (List.mem_cons_of_mem _ hx)) (fun v => ?_), rfl⟩⟩
      rw [← hv]
      show _ = cvs L w (cv L s (cv L (oppS L s) v))
      rw [cv_opp2 hs]
