/-! what a run of the memory machine comes to, as a rule an instruction -/
theorem nI_iI (n : Nat) : nI n = iI n := by
  unfold nI iI
  rfl
def psh (v : Option Value) (r : List Value) : List Value := match v with
  | some x => x :: r
  | none => r
theorem psh_some (x : Value) (r : List Value) : psh (some x) r = x :: r := rfl
theorem psh_none (r : List Value) : psh none r = r := rfl
theorem psh_eq (v : Option Value) (r : List Value) : v.toList ++ r = psh v r := by cases v <;> rfl
def irm (x y : Int32) : Int32 := x - x / y * y
abbrev Env0 : Type := Nat × (Nat → Int32)
def Wp (X : Env0) (d k pc : Nat) (ls st : List Value) (μ : Mem) (P : Option Value → Mem → Prop) : Prop := ∃ (n : Nat) (v : Option Value) (μ' : Mem), ex (o2 X.1 X.2) d n k pc ls st μ = some (v, μ') ∧ P v μ'
theorem ex_fuel {Hp : Type} {o : hO Hp} : ∀ (n d k pc : Nat) (ls st : List Value) (A : Hp) (z : Option Value × Hp), ex o d n k pc ls st A = some z → ex o d (n + 1) k pc ls st A = some z := by
  intro n
  induction n with
  | zero => intro d k pc ls st A z h; cases h
  | succ n ih =>
    intro d k pc ls st A z h
    unfold ex at h
    rw [ex]
    split at h
    · cases h
    · rename_i il hd
      try dsimp only
      split at h
      · exact ih _ _ _ _ _ _ _ h
      · try dsimp only
        split at h
        · exact ih _ _ _ _ _ _ _ h
        · split at h
          · exact ih _ _ _ _ _ _ _ h
          · split at h
            · split at h
              · rename_i z1 hz1
                have h1 := ih _ _ _ _ _ _ _ hz1
                have h2 := ih _ _ _ _ _ _ _ h
                simp only [h1]
                exact h2
              · cases h
            · exact h
theorem ex_fuel' {Hp : Type} {o : hO Hp} {n d k pc : Nat} {ls st : List Value} {A : Hp} {z : Option Value × Hp} (h : ex o d n k pc ls st A = some z) : ∀ m, ex o d (n + m) k pc ls st A = some z
  | 0 => h
  | m + 1 => ex_fuel _ _ _ _ _ _ _ _ (ex_fuel' h m)
section WP
variable {X : Env0} {d k pc len : Nat} {ls st : List Value} {μ : Mem} {P : Option Value → Mem → Prop} {i : Instr}
theorem Wp_step {k2 pc2 : Nat} {ls2 st2 : List Value} {μ2 : Mem} (h : ∀ n, ex (o2 X.1 X.2) d (n + 1) k pc ls st μ = ex (o2 X.1 X.2) d n k2 pc2 ls2 st2 μ2) : Wp X d k pc ls st μ P = Wp X d k2 pc2 ls2 st2 μ2 P := by
  apply propext
  constructor
  · rintro ⟨n, v, μ', h1, h2⟩
    cases n with
    | zero => cases h1
    | succ n => exact ⟨n, v, μ', (h n).symm.trans h1, h2⟩
  · rintro ⟨n, v, μ', h1, h2⟩
    exact ⟨n + 1, v, μ', (h n).trans h1, h2⟩
theorem Wp_p {q : Nat × List Value × List Value} (hd : decode (mC k) pc = .ok (i, len)) (h : pstep (mO k) i len pc ls st = some q) : Wp X d k pc ls st μ P = Wp X d k q.1 q.2.1 q.2.2 μ P :=
  Wp_step (fun n => by rw [ex, hd]; simp only [h])
/-- no step: no run -/
theorem Wp_no (hd : decode (mC k) pc = .ok (i, len)) (h : pstep (mO k) i len pc ls st = none) (h2 : hstep (o2 X.1 X.2) k i len st μ = none) (hi : isX i = false) : Wp X d k pc ls st μ P = False := by
  apply propext
  refine ⟨?_, False.elim⟩
  rintro ⟨n, v, μ', h1, -⟩
  cases n with
  | zero => cases h1
  | succ n =>
    rw [ex, hd] at h1
    have hj : jstep (mO k) d i len st = none := by
      cases hj : jstep (mO k) d i len st with
      | none => rfl
      | some s => rw [j_x hj] at hi; cases hi
    have hc : cstep (o2 X.1 X.2) k i len st μ = none := by
      cases hc : cstep (o2 X.1 X.2) k i len st μ with
      | none => rfl
      | some q =>
        unfold cstep at hc
        obtain ⟨z, hz, -⟩ := opt_bind_inv hc
        rw [c_x hz] at hi
        cases hi
    have hr : rstep k i len st = none := by
      cases hr : rstep k i len st with
      | none => rfl
      | some q => rw [(r_x hr).1] at hi; cases hi
    simp only [h, h2, hj, hc, hr] at h1
    cases h1
theorem Wp_h {q : List Value × Mem} (hd : decode (mC k) pc = .ok (i, len)) (hp : pstep (mO k) i len pc ls st = none) (h : hstep (o2 X.1 X.2) k i len st μ = some q) : Wp X d k pc ls st μ P = Wp X d k (pc + len) ls q.1 q.2 P :=
  Wp_step (fun n => by rw [ex, hd]; simp only [hp, h])
theorem Wp_j {s : List Value} (hd : decode (mC k) pc = .ok (i, len)) (hp : pstep (mO k) i len pc ls st = none) (h : jstep (mO k) d i len st = some s) : Wp X d k pc ls st μ P = Wp X d k (pc + 3) ls s μ P :=
  Wp_step (fun n => by rw [ex, hd]; simp only [hp, h_x (j_x h), h])
theorem Wp_r {v : Option Value} (hd : decode (mC k) pc = .ok (i, len)) (hp : pstep (mO k) i len pc ls st = none) (h : rstep k i len st = some v) : Wp X d k pc ls st μ P = P v μ := by
  obtain ⟨hx, hck⟩ := r_x h
  have hj : jstep (mO k) d i len st = none := by
    cases hj : jstep (mO k) d i len st with
    | none => rfl
    | some s =>
      unfold jstep at hj
      split at hj
      · cases hj
      · split at hj <;> first | (cases hck; done) | (cases hj; done) | skip
  have hc : cstep (o2 X.1 X.2) k i len st μ = none := by
    unfold cstep
    rw [hck]
    rfl
  have he : ∀ n, ex (o2 X.1 X.2) d (n + 1) k pc ls st μ = some (v, μ) := by
    intro n
    rw [ex, hd]
    simp only [hp, h_x hx, hj, hc, h]
    rfl
  apply propext
  constructor
  · rintro ⟨n, v2, μ', h1, h2⟩
    cases n with
    | zero => cases h1
    | succ n =>
      rw [he n] at h1
      cases h1
      exact h2
  · intro h2
    exact ⟨1, v, μ, he 0, h2⟩
theorem Wp_c {q : Nat × List Value × List Value} (hd : decode (mC k) pc = .ok (i, len)) (hp : pstep (mO k) i len pc ls st = none) (hj : jstep (mO k) (d + 1) i len st = none) (h : cstep (o2 X.1 X.2) k i len st μ = some q) :
    Wp X (d + 1) k pc ls st μ P = Wp X d q.1 0 (c_ent q.1 q.2.1) [] μ (fun v μ' => Wp X (d + 1) k (pc + 3) ls (psh v q.2.2) μ' P) := by
  have hx : isX i = true := by
    have h2 := h
    unfold cstep at h2
    obtain ⟨z, hz, -⟩ := opt_bind_inv h2
    exact c_x hz
  have he : ∀ n, ex (o2 X.1 X.2) (d + 1) (n + 1) k pc ls st μ = (match ex (o2 X.1 X.2) d n q.1 0 (c_ent q.1 q.2.1) [] μ with
      | some z => ex (o2 X.1 X.2) (d + 1) n k (pc + 3) ls (z.1.toList ++ q.2.2) z.2
      | none => none) := by
    intro n
    rw [ex, hd]
    simp only [hp, h_x hx, hj, h]
    cases ex (o2 X.1 X.2) d n q.1 0 (c_ent q.1 q.2.1) [] μ <;> rfl
  apply propext
  constructor
  · rintro ⟨n, v, μ', h1, h2⟩
    cases n with
    | zero => cases h1
    | succ n =>
      rw [he n] at h1
      split at h1
      · rename_i z hz
        refine ⟨n, z.1, z.2, hz, n, v, μ', ?_, h2⟩
        rw [← psh_eq]
        exact h1
      · cases h1
  · rintro ⟨n, v, μ', h1, n2, v2, μ2, h2, h3⟩
    refine ⟨n + n2 + 1, v2, μ2, ?_, h3⟩
    rw [he]
    have h4 := ex_fuel' h1 n2
    have h5 := ex_fuel' h2 n
    rw [h4]
    dsimp only
    rw [psh_eq, Nat.add_comm n n2]
    exact h5
/-- a run has one end -/
theorem Wp.mono {Q : Option Value → Mem → Prop} (h : Wp X d k pc ls st μ P) (hPQ : ∀ v μ', P v μ' → Q v μ') : Wp X d k pc ls st μ Q := by
  obtain ⟨n, v, μ', h1, h2⟩ := h
  exact ⟨n, v, μ', h1, hPQ v μ' h2⟩
end WP
