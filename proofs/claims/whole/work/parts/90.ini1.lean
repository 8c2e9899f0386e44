/-! the constructors: a run up to a place -/
def l1n (A : aH) (c t : Nat) (j : Int32) : Option Value := if c = SC then none else l1 0 (fun _ => 0) A c t j
def n1n (A : aH) (c : Nat) : Option Int32 := if c = SC then none else n1 0 A c
def o1n : hO aH := (g1, f1, l1n, s1, n1n, w1, a1)
theorem l1_mono {L : Nat} {xs : Nat → Int32} {A : aH} {c t : Nat} {j : Int32} {v : Value} (h : l1n A c t j = some v) : l1 L xs A c t j = some v := by
  unfold l1n at h
  by_cases c1 : c = SC
  · rw [if_pos c1] at h
    cases h
  · rw [if_neg c1] at h
    unfold l1 at h ⊢
    rw [if_neg c1] at h ⊢
    exact h
theorem n1_mono {L : Nat} {A : aH} {c : Nat} {v : Int32} (h : n1n A c = some v) : n1 L A c = some v := by
  unfold n1n at h
  by_cases c1 : c = SC
  · rw [if_pos c1] at h
    cases h
  · rw [if_neg c1] at h
    unfold n1 at h ⊢
    rw [if_neg c1] at h ⊢
    exact h
theorem h_mono {L k len : Nat} {xs : Nat → Int32} {i : Instr} {st : List Value} {A : aH} {q : List Value × aH} (h : hstep o1n k i len st A = some q) : hstep (o1 L xs) k i len st A = some q := by
  have ld : ∀ (t : Nat) (st : List Value), (match st with
      | .int j :: .ref c :: r => if len = 1 then (l1n A c t j).map (fun v => (v :: r, A)) else none
      | _ => none) = some q → (match st with
      | .int j :: .ref c :: r => if len = 1 then (l1 L xs A c t j).map (fun v => (v :: r, A)) else none
      | _ => none) = some q := by
    intro t st h
    split at h
    · by_cases cl : len = 1
      · rw [if_pos cl] at h ⊢
        obtain ⟨v, hv, rfl⟩ := opt_map_inv h
        rw [l1_mono hv]
        rfl
      · rw [if_neg cl] at h
        cases h
    · cases h
  have al : ∀ (st : List Value), (match st with
      | .ref c :: r => if len = 1 then (n1n A c).map (fun v => (Value.int v :: r, A)) else none
      | _ => none) = some q → (match st with
      | .ref c :: r => if len = 1 then (n1 L A c).map (fun v => (Value.int v :: r, A)) else none
      | _ => none) = some q := by
    intro st h
    split at h
    · by_cases cl : len = 1
      · rw [if_pos cl] at h ⊢
        obtain ⟨v, hv, rfl⟩ := opt_map_inv h
        rw [n1_mono hv]
        rfl
      · rw [if_neg cl] at h
        cases h
    · cases h
  cases i with
  | iaload => exact ld 0 st h
  | baload => exact ld 1 st h
  | aaload => exact ld 2 st h
  | arraylength => exact al st h
  | _ => exact h
theorem ex_mono {L : Nat} {xs : Nat → Int32} : ∀ (n d k pc : Nat) (ls st : List Value) (A : aH) (z : Option Value × aH), ex o1n d n k pc ls st A = some z → ex (o1 L xs) d n k pc ls st A = some z := by
  intro n
  induction n with
  | zero => intro d k pc ls st A z h; cases h
  | succ n ih =>
    intro d k pc ls st A z h
    unfold ex at h ⊢
    split at h
    · cases h
    · rename_i il hd
      try dsimp only
      split at h
      · exact ih _ _ _ _ _ _ _ h
      · try dsimp only
        split at h
        · rename_i q hq2
          simp only [h_mono hq2]
          exact ih _ _ _ _ _ _ _ h
        · split at h
          · rename_i s hq3
            simp only [h_x (j_x hq3), hq3]
            exact ih _ _ _ _ _ _ _ h
          · rename_i hj
            split at h
            · rename_i d' q hq4
              split at h
              · rename_i z1 hz1
                have hck : ∃ x, c_kind il.1 = some x := by
                  have hq5 := hq4
                  unfold cstep at hq5
                  obtain ⟨x, hx, -⟩ := opt_bind_inv hq5
                  exact ⟨x, hx⟩
                obtain ⟨x, hx⟩ := hck
                have h1 := ih _ _ _ _ _ _ _ hz1
                have hq6 : cstep (o1 L xs) k il.1 il.2 st A = some q := hq4
                simp only [h_x (c_x hx), hj, hq6, h1]
                exact ih _ _ _ _ _ _ _ h
              · cases h
            · obtain ⟨v, hv, rfl⟩ := opt_map_inv h
              obtain ⟨hx, hck⟩ := r_x hv
              have hcn : cstep (o1 L xs) k il.1 il.2 st A = none := by
                unfold cstep
                rw [hck]
                rfl
              simp only [h_x hx, hj, hcn, hv]
              rfl
/-- a run of a method up to its place tgt -/
def pre (o : hO aH) (tgt : Nat) : Nat → Nat → Nat → Nat → List Value → List Value → aH → Option (List Value × List Value × aH)
  | _, 0, _, pc, ls, st, A => if pc = tgt then some (ls, st, A) else none
  | d, n + 1, k, pc, ls, st, A => if pc = tgt then some (ls, st, A) else match decode (mC k) pc with
    | .error _ => none
    | .ok il => match pstep (mO k) il.1 il.2 pc ls st with
      | some q => pre o tgt d n k q.1 q.2.1 q.2.2 A
      | none => match hstep o k il.1 il.2 st A with
        | some q => pre o tgt d n k (pc + il.2) ls q.1 q.2
        | none => match jstep (mO k) d il.1 il.2 st with
          | some s => pre o tgt d n k (pc + 3) ls s A
          | none => match d, cstep o k il.1 il.2 st A with
            | d' + 1, some q => (match ex o d' n q.1 0 (c_ent q.1 q.2.1) [] A with
              | some z => pre o tgt (d' + 1) n k (pc + 3) ls (z.1.toList ++ q.2.2) z.2
              | none => none)
            | _, _ => none
theorem ex_fuel_l {Hp : Type} {o : hO Hp} {n d k pc : Nat} {ls st : List Value} {A : Hp} {z : Option Value × Hp} (h : ex o d n k pc ls st A = some z) {m : Nat} (hm : n ≤ m) : ex o d m k pc ls st A = some z := by
  have := ex_fuel' h (m - n)
  rw [show n + (m - n) = m by omega] at this
  exact this
theorem pre_ex {L : Nat} {xs : Nat → Int32} {tgt : Nat} : ∀ (n d k pc : Nat) (ls st : List Value) (A : aH) (ls' st' : List Value) (A' : aH), pre o1n tgt d n k pc ls st A = some (ls', st', A') → ∀ m z, ex (o1 L xs) d m k tgt ls' st' A' = some z → ex (o1 L xs) d (n + m) k pc ls st A = some z := by
  intro n
  induction n with
  | zero =>
    intro d k pc ls st A ls' st' A' h m z hz
    rw [pre] at h
    by_cases c : pc = tgt
    · rw [if_pos c] at h
      cases h
      rw [c, Nat.zero_add]
      exact hz
    · rw [if_neg c] at h
      cases h
  | succ n ih =>
    intro d k pc ls st A ls' st' A' h m z hz
    unfold pre at h
    by_cases c : pc = tgt
    · rw [if_pos c] at h
      cases h
      rw [c]
      exact ex_fuel_l hz (by omega)
    · rw [if_neg c] at h
      rw [Nat.add_right_comm]
      unfold ex
      split at h
      · cases h
      · rename_i il hd
        simp only [hd]
        split at h
        · rename_i q hq1
          simp only [hq1]
          exact ih _ _ _ _ _ _ _ _ _ h m z hz
        · rename_i hq1
          simp only [hq1]
          split at h
          · rename_i q hq2
            simp only [h_mono hq2]
            exact ih _ _ _ _ _ _ _ _ _ h m z hz
          · split at h
            · rename_i s hq3
              simp only [h_x (j_x hq3), hq3]
              exact ih _ _ _ _ _ _ _ _ _ h m z hz
            · rename_i hj
              split at h
              · rename_i d' q hq4
                split at h
                · rename_i z1 hz1
                  have hck : ∃ x, c_kind il.1 = some x := by
                    have hq5 := hq4
                    unfold cstep at hq5
                    obtain ⟨x, hx, -⟩ := opt_bind_inv hq5
                    exact ⟨x, hx⟩
                  obtain ⟨x, hx⟩ := hck
                  have h1 := ex_fuel_l (ex_mono (L := L) (xs := xs) _ _ _ _ _ _ _ _ hz1) (show n ≤ n + m by omega)
                  have hq6 : cstep (o1 L xs) k il.1 il.2 st A = some q := hq4
                  simp only [h_x (c_x hx), hj, hq6, h1]
                  exact ih _ _ _ _ _ _ _ _ _ h m z hz
                · cases h
              · cases h
