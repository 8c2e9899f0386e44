theorem i_in_dec {j : Int32} {n : Nat} : i_in j n ↔ ¬ (j < 0 ∨ n ≤ j.toNatClampNeg) := Iff.rfl
theorem kd_SC {c n : Nat} (h : kd c = n) (hn : n < 100) : ¬ c = SC := lt_SC (kd_lt (by omega))
section WP
variable {X : Env0} {d k pc len : Nat} {ls st r : List Value} {μ : Mem} {P : Option Value → Mem → Prop} {i : Instr}
theorem Wp_br {c : Prop} [Decidable c] {t : Nat} {ls2 : List Value} (hd : decode (mC k) pc = .ok (i, len)) (hp : pstep (mO k) i len pc ls st = some (if decide c = true then t else pc + 3, ls2, r)) : Wp X d k pc ls st μ P = if c then Wp X d k t ls2 r μ P else Wp X d k (pc + 3) ls2 r μ P := by
  rw [Wp_p hd hp]
  by_cases h : c
  · simp [h]
  · simp [h]
theorem Wp_brn {c : Prop} [Decidable c] {t : Nat} {ls2 : List Value} (hd : decode (mC k) pc = .ok (i, len)) (hp : pstep (mO k) i len pc ls st = some (if decide (¬ c) = true then t else pc + 3, ls2, r)) : Wp X d k pc ls st μ P = if c then Wp X d k (pc + 3) ls2 r μ P else Wp X d k t ls2 r μ P := by
  rw [Wp_p hd hp]
  by_cases h : c
  · simp [h]
  · simp [h]
theorem Wp_div {x y : Int32} (hd : decode (mC k) pc = .ok (.idiv, 1)) : Wp X d k pc ls (.int y :: .int x :: r) μ P = (¬ y = 0 ∧ Wp X d k (pc + 1) ls (.int (x / y) :: r) μ P) := by
  by_cases hy : y = 0
  · rw [Wp_no hd (by simp [pstep, p_bin, hy]) rfl rfl]
    simp [hy]
  · rw [Wp_p (q := (pc + 1, ls, .int (x / y) :: r)) hd (by simp [pstep, p_bin, hy])]
    simp [hy]
theorem Wp_rem {x y : Int32} (hd : decode (mC k) pc = .ok (.irem, 1)) : Wp X d k pc ls (.int y :: .int x :: r) μ P = (¬ y = 0 ∧ Wp X d k (pc + 1) ls (.int (irm x y) :: r) μ P) := by
  by_cases hy : y = 0
  · rw [Wp_no hd (by simp [pstep, p_bin, hy]) rfl rfl]
    simp [hy]
  · rw [Wp_p (q := (pc + 1, ls, .int (irm x y) :: r)) hd (by simp [pstep, p_bin, hy, irm])]
    simp [hy]
theorem Wp_push {v w : Int32} (hd : decode (mC k) pc = .ok (i, len)) (hp : pstep (mO k) i len pc ls st = some (pc + len, ls, .int v :: st)) (hv : v = w) : Wp X d k pc ls st μ P = Wp X d k (pc + len) ls (.int w :: st) μ P := by
  subst hv
  exact Wp_p hd hp
theorem Wp_iald {c : Nat} {j : Int32} (hd : decode (mC k) pc = .ok (.iaload, 1)) (hk : kd c = 6) : Wp X d k pc ls (.int j :: .ref c :: r) μ P = (i_in j (ln c) ∧ Wp X d k (pc + 1) ls (.int (μ c j.toNatClampNeg) :: r) μ P) := by
  have hS := kd_SC hk (by decide)
  by_cases hy : ¬ (j < 0 ∨ ln c ≤ j.toNatClampNeg)
  · rw [Wp_h (q := (.int (μ c j.toNatClampNeg) :: r, μ)) hd rfl (by show (l2 X.1 X.2 μ c 0 j).map _ = _; unfold l2; rw [if_neg hS, if_pos (by decide), if_pos ⟨hk, hy⟩]; rfl)]
    exact propext ⟨fun h => ⟨hy, h⟩, fun h => h.2⟩
  · rw [Wp_no hd rfl (by show (l2 X.1 X.2 μ c 0 j).map _ = none; unfold l2; rw [if_neg hS, if_pos (by decide), if_neg (fun z => hy z.2)]; rfl) rfl]
    exact propext ⟨fun h => h.elim, fun h => hy h.1⟩
theorem Wp_bald {c : Nat} {j : Int32} (hd : decode (mC k) pc = .ok (.baload, 1)) (hk : kd c = 7) : Wp X d k pc ls (.int j :: .ref c :: r) μ P = (i_in j (ln c) ∧ Wp X d k (pc + 1) ls (.int (μ c j.toNatClampNeg) :: r) μ P) := by
  have hS := kd_SC hk (by decide)
  by_cases hy : ¬ (j < 0 ∨ ln c ≤ j.toNatClampNeg)
  · rw [Wp_h (q := (.int (μ c j.toNatClampNeg) :: r, μ)) hd rfl (by show (l2 X.1 X.2 μ c 1 j).map _ = _; unfold l2; rw [if_neg hS, if_pos (by decide), if_pos ⟨hk, hy⟩]; rfl)]
    exact propext ⟨fun h => ⟨hy, h⟩, fun h => h.2⟩
  · rw [Wp_no hd rfl (by show (l2 X.1 X.2 μ c 1 j).map _ = none; unfold l2; rw [if_neg hS, if_pos (by decide), if_neg (fun z => hy z.2)]; rfl) rfl]
    exact propext ⟨fun h => h.elim, fun h => hy h.1⟩
theorem Wp_aald {c : Nat} {j : Int32} (hd : decode (mC k) pc = .ok (.aaload, 1)) (hk : kd c = 8 ∨ kd c = 9) : Wp X d k pc ls (.int j :: .ref c :: r) μ P = (i_in j (ln c) ∧ Wp X d k (pc + 1) ls (.ref (rf c j.toNatClampNeg) :: r) μ P) := by
  have hS : ¬ c = SC := by rcases hk with h | h <;> exact kd_SC h (by decide)
  by_cases hy : ¬ (j < 0 ∨ ln c ≤ j.toNatClampNeg)
  · rw [Wp_h (q := (.ref (rf c j.toNatClampNeg) :: r, μ)) hd rfl (by show (l2 X.1 X.2 μ c 2 j).map _ = _; unfold l2; rw [if_neg hS, if_neg (by decide), if_pos ⟨rfl, hk, hy⟩]; rfl)]
    exact propext ⟨fun h => ⟨hy, h⟩, fun h => h.2⟩
  · rw [Wp_no hd rfl (by show (l2 X.1 X.2 μ c 2 j).map _ = none; unfold l2; rw [if_neg hS, if_neg (by decide), if_neg (fun z => hy z.2.2)]; rfl) rfl]
    exact propext ⟨fun h => h.elim, fun h => hy h.1⟩
theorem Wp_sld {j : Int32} (hd : decode (mC k) pc = .ok (.iaload, 1)) : Wp X d k pc ls (.int j :: .ref SC :: r) μ P = (i_in j X.1 ∧ Wp X d k (pc + 1) ls (.int (X.2 j.toNatClampNeg) :: r) μ P) := by
  by_cases hy : ¬ (j < 0 ∨ X.1 ≤ j.toNatClampNeg)
  · rw [Wp_h (q := (.int (X.2 j.toNatClampNeg) :: r, μ)) hd rfl (by show (l2 X.1 X.2 μ SC 0 j).map _ = _; unfold l2; rw [if_pos rfl, if_pos ⟨rfl, hy⟩]; rfl)]
    exact propext ⟨fun h => ⟨hy, h⟩, fun h => h.2⟩
  · rw [Wp_no hd rfl (by show (l2 X.1 X.2 μ SC 0 j).map _ = none; unfold l2; rw [if_pos rfl, if_neg (fun z => hy z.2)]; rfl) rfl]
    exact propext ⟨fun h => h.elim, fun h => hy h.1⟩
theorem Wp_slen (hd : decode (mC k) pc = .ok (.arraylength, 1)) : Wp X d k pc ls (.ref SC :: r) μ P = Wp X d k (pc + 1) ls (.int (iI X.1) :: r) μ P := by
  rw [Wp_h (q := (.int (nI X.1) :: r, μ)) hd rfl (by show (n2 X.1 μ SC).map (fun v => (Value.int v :: r, μ)) = _; unfold n2; rw [if_pos rfl]; rfl), nI_iI]
theorem Wp_alen {c : Nat} (hd : decode (mC k) pc = .ok (.arraylength, 1)) (hk : kd c = 6) : Wp X d k pc ls (.ref c :: r) μ P = Wp X d k (pc + 1) ls (.int (iI (ln c)) :: r) μ P := by
  have hS := kd_SC hk (by decide)
  rw [Wp_h (q := (.int (nI (ln c)) :: r, μ)) hd rfl (by show (n2 X.1 μ c).map (fun v => (Value.int v :: r, μ)) = _; unfold n2; rw [if_neg hS, if_pos (by omega)]; rfl), nI_iI]
theorem Wp_iast {c : Nat} {j x : Int32} (hd : decode (mC k) pc = .ok (.iastore, 1)) (hk : kd c = 6) : Wp X d k pc ls (.int x :: .int j :: .ref c :: r) μ P = (i_in j (ln c) ∧ Wp X d k (pc + 1) ls r (u2 μ c j.toNatClampNeg x) P) := by
  by_cases hy : ¬ (j < 0 ∨ ln c ≤ j.toNatClampNeg)
  · rw [Wp_h (q := (r, u2 μ c j.toNatClampNeg x)) hd rfl (by show (s2 μ c 0 j (.int x)).map _ = _; unfold s2; dsimp only; rw [if_pos ⟨hk, by decide, fun z => absurd z (by decide), hy⟩]; rfl)]
    exact propext ⟨fun h => ⟨hy, h⟩, fun h => h.2⟩
  · rw [Wp_no hd rfl (by show (s2 μ c 0 j (.int x)).map _ = none; unfold s2; dsimp only; rw [if_neg (fun z => hy z.2.2.2)]; rfl) rfl]
    exact propext ⟨fun h => h.elim, fun h => hy h.1⟩
theorem Wp_bast {c : Nat} {j x : Int32} (hd : decode (mC k) pc = .ok (.bastore, 1)) (hk : kd c = 7) : Wp X d k pc ls (.int x :: .int j :: .ref c :: r) μ P = ((x = 0 ∨ x = 1) ∧ i_in j (ln c) ∧ Wp X d k (pc + 1) ls r (u2 μ c j.toNatClampNeg x) P) := by
  by_cases hx : x = 0 ∨ x = 1
  · by_cases hy : ¬ (j < 0 ∨ ln c ≤ j.toNatClampNeg)
    · rw [Wp_h (q := (r, u2 μ c j.toNatClampNeg x)) hd rfl (by show (s2 μ c 1 j (.int x)).map _ = _; unfold s2; dsimp only; rw [if_pos ⟨hk, by decide, fun z => hx, hy⟩]; rfl)]
      exact propext ⟨fun h => ⟨hx, hy, h⟩, fun h => h.2.2⟩
    · rw [Wp_no hd rfl (by show (s2 μ c 1 j (.int x)).map _ = none; unfold s2; dsimp only; rw [if_neg (fun z => hy z.2.2.2)]; rfl) rfl]
      exact propext ⟨fun h => h.elim, fun h => hy h.2.1⟩
  · rw [Wp_no hd rfl (by show (s2 μ c 1 j (.int x)).map _ = none; unfold s2; dsimp only; rw [if_neg (fun z => hx (z.2.2.1 rfl))]; rfl) rfl]
    exact propext ⟨fun h => h.elim, fun h => hx h.1⟩
theorem Wp_getI {c ix ci s z w : Nat} (hd : decode (mC k) pc = .ok (.getfield ix, 3)) (hf : kG ftb (mO k) ix = some (ci, s, z, w)) (hi : (decide (ci < 6) && decide (s < cNn ci) && fI ci s) = true) (hk : kd c = ci) : Wp X d k pc ls (.ref c :: r) μ P = Wp X d k (pc + 3) ls (.int (μ c s) :: r) μ P := by
  simp only [Bool.and_eq_true, decide_eq_true_eq] at hi
  exact Wp_h (q := (.int (μ c s) :: r, μ)) hd rfl (by
    show (if 3 = 3 then (kG ftb (mO k) ix).bind (fun e => (g2 μ c e.1 e.2.1).map (fun v => (v :: r, μ))) else none) = _
    rw [if_pos rfl, hf, Option.bind_some]
    dsimp only
    unfold g2
    rw [if_pos ⟨hk, hi.1.1, hi.1.2⟩, if_pos hi.2]
    rfl)
theorem Wp_getR {c ix ci s z w : Nat} (hd : decode (mC k) pc = .ok (.getfield ix, 3)) (hf : kG ftb (mO k) ix = some (ci, s, z, w)) (hi : (decide (ci < 6) && decide (s < cNn ci) && !(fI ci s)) = true) (hk : kd c = ci) : Wp X d k pc ls (.ref c :: r) μ P = Wp X d k (pc + 3) ls (.ref (rf c s) :: r) μ P := by
  simp only [Bool.and_eq_true, decide_eq_true_eq, Bool.not_eq_true'] at hi
  exact Wp_h (q := (.ref (rf c s) :: r, μ)) hd rfl (by
    show (if 3 = 3 then (kG ftb (mO k) ix).bind (fun e => (g2 μ c e.1 e.2.1).map (fun v => (v :: r, μ))) else none) = _
    rw [if_pos rfl, hf, Option.bind_some]
    dsimp only
    unfold g2
    rw [if_pos ⟨hk, hi.1.1, hi.1.2⟩, if_neg (by rw [hi.2]; decide)]
    rfl)
theorem Wp_putI {c ix ci s z w : Nat} {x : Int32} (hd : decode (mC k) pc = .ok (.putfield ix, 3)) (hf : kG ftb (mO k) ix = some (ci, s, z, w)) (hi : (decide (ci < 6) && decide (s < cNn ci) && !(cTf ci s).2.2.2) = true) (hok : f_ok (cTy ci s) (.int x) = true) (hk : kd c = ci) : Wp X d k pc ls (.int x :: .ref c :: r) μ P = Wp X d k (pc + 3) ls r (u2 μ c s x) P := by
  simp only [Bool.and_eq_true, decide_eq_true_eq, Bool.not_eq_true'] at hi
  exact Wp_h (q := (r, u2 μ c s x)) hd rfl (by
    show (if 3 = 3 then (kG ftb (mO k) ix).bind (fun e => if (cTf e.1 e.2.1).2.2.2 = false ∨ (mF k = 2 ∧ mO k = e.1 ∧ e.2.2.1 = 0) then (f2 μ c e.1 e.2.1 (.int x)).map (fun A' => (r, A')) else none) else none) = _
    rw [if_pos rfl, hf, Option.bind_some]
    dsimp only
    rw [if_pos (Or.inl hi.2)]
    unfold f2
    dsimp only
    rw [if_pos ⟨hk, hi.1.1, hi.1.2, hok⟩]
    rfl)
theorem Wp_ireti {x : Int32} (hd : decode (mC k) pc = .ok (.ireturn, 1)) (hr : mR k = some .int) : Wp X d k pc ls [.int x] μ P = P (some (.int x)) μ :=
  Wp_r hd rfl (by unfold rstep; dsimp only; rw [if_pos ⟨rfl, Or.inl hr⟩])
theorem Wp_iretz {x : Int32} (hd : decode (mC k) pc = .ok (.ireturn, 1)) (hr : mR k = some .boolean) (hx : x = 0 ∨ x = 1) : Wp X d k pc ls [.int x] μ P = P (some (.int x)) μ :=
  Wp_r hd rfl (by unfold rstep; dsimp only; rw [if_pos ⟨rfl, Or.inr ⟨hr, hx⟩⟩])
theorem Wp_aretr {c : Nat} (hd : decode (mC k) pc = .ok (.areturn, 1)) (hr : r_obj (mR k) = true) : Wp X d k pc ls [.ref c] μ P = P (some (.ref c)) μ :=
  Wp_r hd rfl (by unfold rstep; dsimp only; rw [if_pos ⟨rfl, hr⟩])
theorem Wp_aretn (hd : decode (mC k) pc = .ok (.areturn, 1)) (hr : r_obj (mR k) = true) : Wp X d k pc ls [.null] μ P = P (some .null) μ :=
  Wp_r hd rfl (by unfold rstep; dsimp only; rw [if_pos ⟨rfl, hr⟩])
theorem Wp_vret (hd : decode (mC k) pc = .ok (.return_, 1)) (hr : mR k = none) : Wp X d k pc ls [] μ P = P none μ :=
  Wp_r hd rfl (by unfold rstep; dsimp only; rw [if_pos ⟨rfl, hr⟩])
theorem j_v {o ix len : Nat} {st : List Value} : jstep o (d + 1) (.invokevirtual ix) len st = none := by
  unfold jstep
  split <;> rfl
theorem j_s {o ix len : Nat} {st : List Value} (h : kG jtb o ix = none) : jstep o (d + 1) (.invokestatic ix) len st = none := by
  unfold jstep
  split
  · rfl
  · dsimp only
    rw [h]
    rfl
theorem Wp_callV {b0 ix : Nat} {e : Nat × Nat × Nat × Nat} {as rest : List Value} (hd : decode (mC k) pc = .ok (.invokevirtual ix, 3)) (hc : kG ctb (mO k) ix = some e) (hF : mF e.1 = 0) (h0 : (decide (mO e.1 < 6) && decide (0 < cNn (mO e.1))) = true)
    (h1 : c_n e.1 ≤ st.length) (h2 : st.drop (c_n e.1) = rest) (h3 : rest.length ≤ 4) (h4 : (st.take (c_n e.1)).all p_ok = true) (h5 : (st.take (c_n e.1)).reverse = .ref b0 :: as) (hk : kd b0 = mO e.1) :
    Wp X (d + 1) k pc ls st μ P = Wp X d e.1 0 (c_ent e.1 (.ref b0 :: as)) [] μ (fun v μ' => Wp X (d + 1) k (pc + 3) ls (psh v rest) μ' P) := by
  simp only [Bool.and_eq_true, decide_eq_true_eq] at h0
  refine Wp_c (q := (e.1, .ref b0 :: as, rest)) hd rfl j_v ?_
  have h6 : c_rec (o2 X.1 X.2) e.1 (st.take (c_n e.1)).reverse μ = true := by
    rw [h5]
    unfold c_rec
    rw [if_neg (by omega)]
    show (g2 μ b0 (mO e.1) 0).isSome = true
    unfold g2
    rw [if_pos ⟨hk, h0.1, h0.2⟩]
    rfl
  unfold cstep
  rw [show c_kind (.invokevirtual ix) = some (ix, 0) from rfl, Option.bind_some]
  dsimp only
  rw [hc, Option.bind_some, if_pos ⟨rfl, hF, h1, by rw [h2]; exact h3, h4, h6⟩, h2, h5]
theorem Wp_callS {ix : Nat} {e : Nat × Nat × Nat × Nat} {as rest : List Value} (hd : decode (mC k) pc = .ok (.invokestatic ix, 3)) (hj : kG jtb (mO k) ix = none) (hc : kG ctb (mO k) ix = some e) (hF : mF e.1 = 1)
    (h1 : c_n e.1 ≤ st.length) (h2 : st.drop (c_n e.1) = rest) (h3 : rest.length ≤ 4) (h4 : (st.take (c_n e.1)).all p_ok = true) (h5 : (st.take (c_n e.1)).reverse = as) :
    Wp X (d + 1) k pc ls st μ P = Wp X d e.1 0 (c_ent e.1 as) [] μ (fun v μ' => Wp X (d + 1) k (pc + 3) ls (psh v rest) μ' P) := by
  refine Wp_c (q := (e.1, as, rest)) hd rfl (j_s hj) ?_
  have h6 : c_rec (o2 X.1 X.2) e.1 (st.take (c_n e.1)).reverse μ = true := by
    unfold c_rec
    rw [if_pos hF]
  unfold cstep
  rw [show c_kind (.invokestatic ix) = some (ix, 1) from rfl, Option.bind_some]
  dsimp only
  rw [hc, Option.bind_some, if_pos ⟨rfl, hF, h1, by rw [h2]; exact h3, h4, h6⟩, h2, h5]
theorem Wp_math {ix : Nat} {e : Nat × Nat × Nat × Nat} {x y : Int32} {rest : List Value} (hd : decode (mC k) pc = .ok (.invokestatic ix, 3)) (hj : kG jtb (mO k) ix = some e) (he : ¬ e.1 = 2) (h3 : rest.length ≤ 4) :
    Wp X (d + 1) k pc ls (.int y :: .int x :: rest) μ P = Wp X (d + 1) k (pc + 3) ls (.int (if e.1 = 0 then (if y < x then y else x) else (if x < y then y else x)) :: rest) μ P := by
  refine Wp_j hd rfl ?_
  have h7 : ¬ (d + 1 = 0 ∨ ¬ 3 = 3 ∨ 8 < (Value.int y :: Value.int x :: rest).length) := by
    rintro (h | h | h)
    · omega
    · exact h rfl
    · simp only [List.length_cons] at h
      omega
  unfold jstep
  rw [if_neg h7]
  dsimp only
  rw [hj, Option.bind_some]
  rw [if_neg he, if_pos h3]
  split <;> rfl
theorem Wp_abs {ix : Nat} {e : Nat × Nat × Nat × Nat} {y : Int32} {rest : List Value} (hd : decode (mC k) pc = .ok (.invokestatic ix, 3)) (hj : kG jtb (mO k) ix = some e) (he : e.1 = 2) (h3 : rest.length ≤ 4) :
    Wp X (d + 1) k pc ls (.int y :: rest) μ P = Wp X (d + 1) k (pc + 3) ls (.int (if 0 ≤ y then y else 0 - y) :: rest) μ P := by
  refine Wp_j hd rfl ?_
  have h7 : ¬ (d + 1 = 0 ∨ ¬ 3 = 3 ∨ 8 < (Value.int y :: rest).length) := by
    rintro (h | h | h)
    · omega
    · exact h rfl
    · simp only [List.length_cons] at h
      omega
  unfold jstep
  rw [if_neg h7]
  dsimp only
  rw [hj, Option.bind_some]
  rw [if_pos he, if_pos h3]
/-- a switch whose value is told -/
theorem Wp_sw {x : Int32} {t : Nat} (hd : decode (mC k) pc = .ok (i, len)) (hp : pstep (mO k) i len pc ls (.int x :: r) = some (t, ls, r)) : Wp X d k pc ls (.int x :: r) μ P = Wp X d k t ls r μ P := Wp_p hd hp
end WP
theorem Wp_sw2 {X : Env0} {d k pc len t : Nat} {ls r : List Value} {μ : Mem} {P : Option Value → Mem → Prop} {x : Int32} {v dd lo hi off : Int} {offs : Array Int} (hd : decode (mC k) pc = .ok (.tableswitch dd lo hi offs, len)) (hx : x.toInt = v) (h : ¬ (v < lo ∨ hi < v)) (ho : offs[(v - lo).toNat]? = some off) (ht : p_tg pc off = some t) : Wp X d k pc ls (.int x :: r) μ P = Wp X d k t ls r μ P := by
  refine Wp_p (q := (t, ls, r)) hd ?_
  show p_sw pc ls (.int x :: r) dd lo hi offs = _
  unfold p_sw
  dsimp only
  rw [hx, if_neg h, ho]
  dsimp only
  unfold p_go
  rw [ht]
  rfl
theorem Wp_swd {X : Env0} {d k pc len t : Nat} {ls r : List Value} {μ : Mem} {P : Option Value → Mem → Prop} {x : Int32} {dd lo hi : Int} {offs : Array Int} (hd : decode (mC k) pc = .ok (.tableswitch dd lo hi offs, len)) (ht : p_tg pc dd = some t) (h : x.toInt < lo ∨ hi < x.toInt) : Wp X d k pc ls (.int x :: r) μ P = Wp X d k t ls r μ P := by
  refine Wp_p (q := (t, ls, r)) hd ?_
  show p_sw pc ls (.int x :: r) dd lo hi offs = _
  unfold p_sw
  dsimp only
  rw [if_pos h]
  unfold p_go
  rw [ht]
  rfl
theorem Wp_pp {X : Env0} {d k pc len pc2 : Nat} {ls st ls2 st2 : List Value} {μ : Mem} {P : Option Value → Mem → Prop} {i : Instr} (hd : decode (mC k) pc = .ok (i, len)) (h : pstep (mO k) i len pc ls st = some (pc2, ls2, st2)) : Wp X d k pc ls st μ P = Wp X d k pc2 ls2 st2 μ P := Wp_p hd h
theorem Wp_cV {X : Env0} {d k pc k2 pc2 b0 ix : Nat} {ls st ls2 rest : List Value} {μ : Mem} {P : Option Value → Mem → Prop} {z : Nat × Nat × Nat} (as : List Value) (hd : decode (mC k) pc = .ok (.invokevirtual ix, 3)) (hc : kG ctb (mO k) ix = some (k2, z)) (hF : (decide (mF k2 = 0) && decide (mO k2 < 6) && decide (0 < cNn (mO k2))) = true)
    (h1 : Nat.ble (c_n k2) st.length = true) (h2 : st.drop (c_n k2) = rest) (h3 : Nat.ble rest.length 4 = true) (h4 : (st.take (c_n k2)).all p_ok = true) (h5 : (st.take (c_n k2)).reverse = .ref b0 :: as) (h6 : c_ent k2 (.ref b0 :: as) = ls2) (h7 : pc + 3 = pc2) (hk : kd b0 = mO k2) :
    Wp X (d + 1) k pc ls st μ P = Wp X d k2 0 ls2 [] μ (fun v μ' => Wp X (d + 1) k pc2 ls (psh v rest) μ' P) := by
  subst h6
  subst h7
  simp only [Bool.and_eq_true, decide_eq_true_eq] at hF
  exact Wp_callV hd hc hF.1.1 (by simp [hF.1.2, hF.2]) (Nat.le_of_ble_eq_true h1) h2 (Nat.le_of_ble_eq_true h3) h4 h5 hk
theorem Wp_cS {X : Env0} {d k pc k2 pc2 ix : Nat} {ls st ls2 rest : List Value} {μ : Mem} {P : Option Value → Mem → Prop} {z : Nat × Nat × Nat} (as : List Value) (hd : decode (mC k) pc = .ok (.invokestatic ix, 3)) (hj : kG jtb (mO k) ix = none) (hc : kG ctb (mO k) ix = some (k2, z)) (hF : mF k2 = 1)
    (h1 : Nat.ble (c_n k2) st.length = true) (h2 : st.drop (c_n k2) = rest) (h3 : Nat.ble rest.length 4 = true) (h4 : (st.take (c_n k2)).all p_ok = true) (h5 : (st.take (c_n k2)).reverse = as) (h6 : c_ent k2 as = ls2) (h7 : pc + 3 = pc2) :
    Wp X (d + 1) k pc ls st μ P = Wp X d k2 0 ls2 [] μ (fun v μ' => Wp X (d + 1) k pc2 ls (psh v rest) μ' P) := by
  subst h6
  subst h7
  exact Wp_callS hd hj hc hF (Nat.le_of_ble_eq_true h1) h2 (Nat.le_of_ble_eq_true h3) h4 h5
