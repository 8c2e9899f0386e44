/-! the abstract machine is true to the machine: arrays, new cells -/
theorem cV_vnar {x : Int32} (h : x = 0 ∨ x = 1) : vp_nar .boolean x = x := by
  rcases h with rfl | rfl <;> decide
section SND
variable {p : Program} {l : Launch} {e : Env} {R : Room} {s : State} {m : MethodId} {args : Array Value} {below : List Frame} {meth : Method} {c : Code} {H : Heap} {locs : List Loc} {cells slots : Nat} {Q : State → Prop}
theorem asnd_load {D : va_G} {cT : Nat → ClassId} {B b k L : Nat} {xs : Nat → Int32} {t pc : Nat} {j : Int32} {cc : Nat} {r : List Value} {A : aH} {v : Value} {lc : Array Slot}
    (hx : p.tables.exec = Jvm.exec) (hb : c.code = mC k) (hC : Cx D cT B b L xs s) (hB : B ≤ s.heap.size)
    (hd : (t = 0 ∧ decode (mC k) pc = .ok (.iaload, 1)) ∨ (t = 1 ∧ decode (mC k) pc = .ok (.baload, 1)) ∨ (t = 2 ∧ decode (mC k) pc = .ok (.aaload, 1))) (h : l1 L xs A cc t j = some v) (hH : HR D cT B b A H) (hS : va_S (Ab B) s.heap H locs)
    (kk : W p l e R s m args below meth c H locs cells slots Q (F0 m (pc + 1) lc (cV B b v :: r))) :
    W p l e R s m args below meth c H locs cells slots Q (F0 m pc lc (.int j :: cV B b (.ref cc) :: r)) := by
  show W p l e R s m args below meth c H locs cells slots Q (F0 m pc lc (.int j :: .ref (adr B b cc) :: r))
  unfold l1 at h
  by_cases hSC : cc = SC
  · rw [if_pos hSC] at h
    split at h
    · rename_i h2
      obtain ⟨rfl, hin⟩ := h2
      cases h
      rw [show adr B b cc = b from if_pos hSC]
      rcases hd with ⟨-, hd⟩ | ⟨h3, -⟩ | ⟨h3, -⟩
      · exact va_sld (A := Ab B) hx hb hC.2.2.1 (Nat.lt_of_lt_of_le hC.2.2.2 hB) (Nat.not_le.mpr hC.2.2.2) hS hin hd kk
      · exact absurd h3 (by decide)
      · exact absurd h3 (by decide)
    · cases h
  · rw [if_neg hSC] at h
    rw [adr_ne hSC]
    split at h
    · rename_i t' n f hA
      split at h
      · rename_i h2
        obtain ⟨rfl, ht, hin⟩ := h2
        cases h
        have he := wL_get (cT := cT) (B := B) (b := b) hA
        rcases hd with ⟨h3, hd⟩ | ⟨h3, hd⟩ | ⟨h3, hd⟩
        · subst h3
          exact va_iald hx hb hC.1 hH cc 0 he rfl hin hd kk
        · subst h3
          exact va_zald hx hb hC.1 hH cc 1 he rfl hin hd kk
        · subst h3
          exact absurd ht (by decide)
      · cases h
    · rename_i t' n f hA
      split at h
      · rename_i h2
        obtain ⟨rfl, h4, h5, hin⟩ := h2
        cases h
        have he := wL_get (cT := cT) (B := B) (b := b) hA
        rw [cV_rf] at kk
        rcases hd with ⟨h3, hd⟩ | ⟨h3, hd⟩ | ⟨h3, hd⟩
        · exact absurd h3 (by decide)
        · exact absurd h3 (by decide)
        · have h6 : t' = 2 ∨ t' = 3 := by omega
          rcases h6 with rfl | rfl
          · exact va_aldq hx hb hC.1 hH cc 2 he rfl hin hd kk
          · exact va_aldq hx hb hC.1 hH cc 3 he rfl hin hd kk
      · cases h
    · cases h
theorem asnd_len {D : va_G} {cT : Nat → ClassId} {B b k L : Nat} {xs : Nat → Int32} {pc : Nat} {cc : Nat} {r : List Value} {A : aH} {v : Int32} {lc : Array Slot}
    (hx : p.tables.exec = Jvm.exec) (hb : c.code = mC k) (hC : Cx D cT B b L xs s) (hB : B ≤ s.heap.size)
    (hd : decode (mC k) pc = .ok (.arraylength, 1)) (h : n1 L A cc = some v) (hH : HR D cT B b A H) (hS : va_S (Ab B) s.heap H locs)
    (kk : W p l e R s m args below meth c H locs cells slots Q (F0 m (pc + 1) lc (.int v :: r))) :
    W p l e R s m args below meth c H locs cells slots Q (F0 m pc lc (cV B b (.ref cc) :: r)) := by
  show W p l e R s m args below meth c H locs cells slots Q (F0 m pc lc (.ref (adr B b cc) :: r))
  unfold n1 at h
  by_cases hSC : cc = SC
  · rw [if_pos hSC] at h
    cases h
    rw [show adr B b cc = b from if_pos hSC]
    exact va_slen (A := Ab B) hx hb hC.2.2.1 (Nat.lt_of_lt_of_le hC.2.2.2 hB) (Nat.not_le.mpr hC.2.2.2) hS hd kk
  · rw [if_neg hSC] at h
    rw [adr_ne hSC]
    split at h
    · rename_i t' n f hA
      split at h
      · rename_i h2
        cases h
        have he := wL_get (cT := cT) (B := B) (b := b) hA
        have h6 : t' = 0 ∨ t' = 1 ∨ t' = 2 ∨ t' = 3 := by omega
        cases f with
        | inl f => rcases h6 with rfl | rfl | rfl | rfl
                   · exact va_alen hx hb hC.1 hH cc 0 he rfl rfl hd kk
                   · exact va_alen hx hb hC.1 hH cc 1 he rfl rfl hd kk
                   · exact va_alen hx hb hC.1 hH cc 2 he rfl rfl hd kk
                   · exact va_alen hx hb hC.1 hH cc 3 he rfl rfl hd kk
        | inr f => rcases h6 with rfl | rfl | rfl | rfl
                   · exact va_alen hx hb hC.1 hH cc 0 he rfl rfl hd kk
                   · exact va_alen hx hb hC.1 hH cc 1 he rfl rfl hd kk
                   · exact va_alen hx hb hC.1 hH cc 2 he rfl rfl hd kk
                   · exact va_alen hx hb hC.1 hH cc 3 he rfl rfl hd kk
      · cases h
    · cases h
theorem asnd_store {D : va_G} {cT : Nat → ClassId} {B b k L : Nat} {xs : Nat → Int32} {t pc : Nat} {j : Int32} {cc : Nat} {r : List Value} {A A' : aH} {v : Value} {lc : Array Slot}
    (hx : p.tables.exec = Jvm.exec) (hb : c.code = mC k) (hC : Cx D cT B b L xs s)
    (hd : (t = 0 ∧ decode (mC k) pc = .ok (.iastore, 1)) ∨ (t = 1 ∧ decode (mC k) pc = .ok (.bastore, 1)) ∨ (t = 2 ∧ decode (mC k) pc = .ok (.aastore, 1))) (h : s1 A cc t j v = some A') (hH : HR D cT B b A H) (hS : va_S (Ab B) s.heap H locs)
    (kk : ∀ H' locs', HR D cT B b A' H' → va_S (Ab B) s.heap H' locs' → A'.length = A.length → slA A' = slA A → W p l e R s m args below meth c H' locs' cells slots Q (F0 m (pc + 1) lc r)) :
    W p l e R s m args below meth c H locs cells slots Q (F0 m pc lc (cV B b v :: .int j :: cV B b (.ref cc) :: r)) := by
  show W p l e R s m args below meth c H locs cells slots Q (F0 m pc lc (cV B b v :: .int j :: .ref (adr B b cc) :: r))
  unfold s1 at h
  split at h
  · rename_i t' n f x hA
    split at h
    · rename_i h2
      obtain ⟨rfl, hSC, ht, hbo, hin⟩ := h2
      cases h
      rw [adr_ne hSC]
      have he := wL_get (cT := cT) (B := B) (b := b) hA
      have k2 : ∀ H' locs', va_P D vwCl ((wL cT B b A).set cc (B + cc, .inl (cT t', n, .inl (upd f j.toNatClampNeg x)))) H' → va_S (Ab B) s.heap H' locs' → W p l e R s m args below meth c H' locs' cells slots Q (F0 m (pc + 1) lc r) := by
        intro H' locs' hP hS'
        refine kk H' locs' ?_ hS' (List.length_set ..) (slA_set hA rfl)
        have e1 : (.inl (cT t', n, .inl (upd f j.toNatClampNeg x)) : va_E) = wE cT B b (.inl (t', n, .inl (upd f j.toNatClampNeg x))) := rfl
        rw [e1, wL_set] at hP
        exact hP
      rcases hd with ⟨h3, hd⟩ | ⟨h3, hd⟩ | ⟨h3, hd⟩
      · subst h3
        exact va_iast hx hb hC.1 hH wL_D hS cc 0 he rfl hin hd (fun H' locs' hP _ hS' => k2 H' locs' hP hS')
      · subst h3
        have hx1 := cV_vnar (hbo rfl)
        exact va_zast hx hb hC.1 hH wL_D hS cc 1 he rfl hin hd (fun H' locs' hP _ hS' => k2 H' locs' (by rw [hx1] at hP; exact hP) hS')
      · subst h3
        exact absurd ht (by decide)
    · cases h
  · rename_i t' n f x hA
    split at h
    · rename_i h2
      obtain ⟨rfl, hSC, hxS, hin⟩ := h2
      rw [adr_ne hSC]
      show W p l e R s m args below meth c H locs cells slots Q (F0 m pc lc (.ref (adr B b x) :: .int j :: .ref (B + cc) :: r))
      rw [adr_ne hxS]
      split at h
      · rename_i ci fs hX
        split at h
        · rename_i h7
          cases h
          have he := wL_get (cT := cT) (B := B) (b := b) hA
          have hex := wL_get (cT := cT) (B := B) (b := b) hX
          have k2 : ∀ H' locs', va_P D vwCl ((wL cT B b A).set cc (B + cc, .inl (cT t', n, .inr (.inr (.inr (.inr (va_up (fun i => (f i).map (adr B b)) j.toNatClampNeg (some (B + x))))))))) H' → va_S (Ab B) s.heap H' locs' → W p l e R s m args below meth c H' locs' cells slots Q (F0 m (pc + 1) lc r) := by
            intro H' locs' hP hS'
            refine kk H' locs' ?_ hS' (List.length_set ..) (slA_set hA rfl)
            have e0 : va_up (fun i => (f i).map (adr B b)) j.toNatClampNeg (some (B + x)) = fun i => (va_up f j.toNatClampNeg (some x) i).map (adr B b) := by
              funext i
              unfold va_up
              by_cases hi : i = j.toNatClampNeg
              · simp [hi, adr_ne hxS]
              · simp [hi]
            have e1 : (.inl (cT t', n, .inr (.inr (.inr (.inr (va_up (fun i => (f i).map (adr B b)) j.toNatClampNeg (some (B + x))))))) : va_E) = wE cT B b (.inl (t', n, .inr (va_up f j.toNatClampNeg (some x)))) := by
              rw [e0]
              rfl
            rw [e1, wL_set] at hP
            exact hP
          rcases hd with ⟨h3, hd⟩ | ⟨h3, hd⟩ | ⟨h3, hd⟩
          · exact absurd h3 (by decide)
          · exact absurd h3 (by decide)
          · rcases h7 with ⟨rfl, rfl⟩ | ⟨rfl, rfl⟩
            · exact va_astq hx hb hC.1 hH wL_D hS cc 2 x 2 (r := (cRn 2, cTf 2, cNn 2)) he rfl hex (cl_at 2 (by decide)) hin hd (fun H' locs' hP _ hS' => k2 H' locs' hP hS')
            · exact va_astq hx hb hC.1 hH wL_D hS cc 3 x 0 (r := (cRn 0, cTf 0, cNn 0)) he rfl hex (cl_at 0 (by decide)) hin hd (fun H' locs' hP _ hS' => k2 H' locs' hP hS')
        · cases h
      · cases h
    · cases h
  · cases h
/-- where a new cell comes to lie -/
theorem new_at {D : va_G} {cT : Nat → ClassId} {B b : Nat} {A : aH} {q : Nat} {x : va_E} {H1 : Heap} (hP : va_P D vwCl (wL cT B b A ++ [(q, x)]) H1) (hD : va_D (Ab B) (wL cT B b A ++ [(q, x)])) (hz : H1.size ≤ B + A.length + 1) : q = B + A.length := by
  have hl : (wL cT B b A ++ [(q, x)])[A.length]? = some (q, x) := by
    rw [List.getElem?_append_right (by rw [wL_len]; exact Nat.le_refl _), wL_len, Nat.sub_self]
    rfl
  have h1 := (hP _ _ hl).lt
  have h2 : B ≤ q := hD.2 _ _ hl
  dsimp only at h1
  rcases Nat.lt_or_ge q (B + A.length) with h3 | h3
  · exfalso
    have h4 : q - B < A.length := by omega
    have h5 := wL_get (cT := cT) (B := B) (b := b) (List.getElem?_eq_getElem h4)
    have h6 : (wL cT B b A ++ [(q, x)])[q - B]? = some (B + (q - B), wE cT B b A[q - B]) := by
      rw [List.getElem?_append_left (by rw [wL_len]; exact h4)]
      exact h5
    have h7 := hD.1 _ _ _ _ h6 hl (by show B + (q - B) = q; omega)
    omega
  · omega
theorem asnd_new {D : va_G} {cT : Nat → ClassId} {B b k L a0 s0 : Nat} {xs : Nat → Int32} {ix pc : Nat} {st : List Value} {A A' : aH} {cc : Nat} {lc : Array Slot} {e0 : Nat × Nat × Nat × Nat}
    (hx : p.tables.exec = Jvm.exec) (hb : c.code = mC k) (hown : s.vm.findClass (cRn (mO k)) = some m.cls) (hts : ∀ w ∈ lw_g, w.before args s = true) (hC : Cx D cT B b L xs s) (hB : s.heap.size = B + a0)
    (hd : decode (mC k) pc = .ok (.new ix, 3)) (hk : kG ntb (mO k) ix = some e0) (h : w1 A e0.1 = some (A', cc)) (hH : HR D cT B b A H) (hS : va_S (Ab B) s.heap H locs)
    (hc : A.length = a0 + cells) (hs : slA A = s0 + slots) (hRc : A'.length ≤ a0 + R.cells) (hRs : slA A' ≤ s0 + R.slots)
    (kk : ∀ H' locs' cells' slots', HR D cT B b A' H' → va_S (Ab B) s.heap H' locs' → A'.length = a0 + cells' → slA A' = s0 + slots' → W p l e R s m args below meth c H' locs' cells' slots' Q (F0 m (pc + 3) lc (cV B b (.ref cc) :: st))) :
    W p l e R s m args below meth c H locs cells slots Q (F0 m pc lc st) := by
  obtain ⟨hw, hci⟩ := nbool_of hk
  unfold w1 at h
  split at h
  · rename_i h2
    cases h
    rw [List.length_append, List.length_singleton] at hRc
    rw [slA_push] at hRs
    have hsl : slC (.inr (e0.1, (List.range (cNn e0.1)).map (fun s => d_f (cTy e0.1 s))) : aC) = cNn e0.1 := rfl
    rw [hsl] at hRs
    refine va_new hx hb hts (cl_ws _ hci) (cTy e0.1) (cl_ty _ hci) hown (lw_word hts hw) (hts _ (inst_of _ hci)) (hts _ (init_of _ hci)) hC.1 hH wL_D hS (fun q hq => Nat.le_trans (by omega) hq) (cl_at _ hci) (d_fs (B := B) (b := b) _ hci) (by omega) (by omega) hd (fun q H1 hP hD hS1 => ?_)
    refine W.size (fun hz => ?_)
    have hq := new_at hP hD (by omega)
    subst hq
    have e1 : (.inr (e0.1, ((List.range (cNn e0.1)).map (fun s => d_f (cTy e0.1 s))).map (cV B b)) : va_E) = wE cT B b (.inr (e0.1, (List.range (cNn e0.1)).map (fun s => d_f (cTy e0.1 s)))) := rfl
    rw [e1, wL_push] at hP
    have k2 := kk H1 locs (cells + 1) (slots + cNn e0.1) hP hS1 (by rw [List.length_append, List.length_singleton]; omega) (by rw [slA_push, hsl]; omega)
    rw [show cV B b (.ref A.length) = .ref (B + A.length) from congrArg Value.ref (adr_ne h2.2)] at k2
    exact k2
  · cases h
theorem asnd_arr {D : va_G} {cT : Nat → ClassId} {B b k L a0 s0 : Nat} {xs : Nat → Int32} {pc t : Nat} {ty : ArrayType} {n : Int32} {r : List Value} {A A' : aH} {cc : Nat} {lc : Array Slot}
    (hx : p.tables.exec = Jvm.exec) (hb : c.code = mC k) (hts : ∀ w ∈ lw_g, w.before args s = true) (hC : Cx D cT B b L xs s) (hB : s.heap.size = B + a0)
    (hd : decode (mC k) pc = .ok (.newarray ty, 2)) (ht : (t = 0 ∧ ty = .int) ∨ (t = 1 ∧ ty = .boolean)) (h : a1 A t n = some (A', cc)) (hH : HR D cT B b A H) (hS : va_S (Ab B) s.heap H locs)
    (hc : A.length = a0 + cells) (hs : slA A = s0 + slots) (hRc : A'.length ≤ a0 + R.cells) (hRs : slA A' ≤ s0 + R.slots)
    (kk : ∀ H' locs' cells' slots', HR D cT B b A' H' → va_S (Ab B) s.heap H' locs' → A'.length = a0 + cells' → slA A' = s0 + slots' → W p l e R s m args below meth c H' locs' cells' slots' Q (F0 m (pc + 2) lc (cV B b (.ref cc) :: r))) :
    W p l e R s m args below meth c H locs cells slots Q (F0 m pc lc (.int n :: r)) := by
  unfold a1 at h
  split at h
  · cases h
  · rename_i h2
    have h3 : ¬ n < 0 ∧ n.toNatClampNeg ≤ 1000000 ∧ ¬ A.length = SC := ⟨fun z => h2 (Or.inl z), Nat.le_of_not_lt (fun z => h2 (Or.inr (Or.inl z))), fun z => h2 (Or.inr (Or.inr z))⟩
    have ht2 : t < 2 := by omega
    rw [if_pos ht2] at h
    cases h
    rw [List.length_append, List.length_singleton] at hRc
    rw [slA_push] at hRs
    have hsl : slC (.inl (t, n.toNatClampNeg, .inl (fun _ => 0)) : aC) = n.toNatClampNeg := rfl
    rw [hsl] at hRs
    have fin : ∀ (fty : FieldType) (q : Nat) (cA : ClassId) (H1 : Heap), (t = 0 ∧ fty = .int) ∨ (t = 1 ∧ fty = .boolean) → va_K D vwCl (tyF cT ++ [(cA, fty)]) s → va_P D vwCl (wL cT B b A ++ [(q, .inl (cA, n.toNatClampNeg, .inl (fun _ => 0)))]) H1 → va_D (Ab B) (wL cT B b A ++ [(q, .inl (cA, n.toNatClampNeg, .inl (fun _ => 0)))]) → va_S (Ab B) s.heap H1 locs → W p l e R s m args below meth c H1 locs (cells + 1) (slots + n.toNatClampNeg) Q (F0 m (pc + 2) lc (.ref q :: r)) := by
      intro fty q cA H1 hty hK hP hD hS1
      refine W.size (fun hz => ?_)
      have hq := new_at hP hD (by omega)
      subst hq
      have hcA : cA = cT t := by
        have z4 := (hK.2 4 _ rfl).2
        rcases hty with ⟨rfl, rfl⟩ | ⟨rfl, rfl⟩
        · have z0 := (hC.1.2 0 _ rfl).2
          exact Option.some.inj (z4.symm.trans z0)
        · have z0 := (hC.1.2 1 _ rfl).2
          exact Option.some.inj (z4.symm.trans z0)
      subst hcA
      have e1 : (.inl (cT t, n.toNatClampNeg, .inl (fun _ => 0)) : va_E) = wE cT B b (.inl (t, n.toNatClampNeg, .inl (fun _ => 0))) := rfl
      rw [e1, wL_push] at hP
      have k2 := kk H1 locs (cells + 1) (slots + n.toNatClampNeg) hP hS1 (by rw [List.length_append, List.length_singleton]; omega) (by rw [slA_push, hsl]; omega)
      rw [show cV B b (.ref A.length) = .ref (B + A.length) from congrArg Value.ref (adr_ne h3.2.2)] at k2
      exact k2
    have wd := wd_arr
    simp only [Bool.and_eq_true] at wd
    rcases ht with ⟨ht, rfl⟩ | ⟨ht, rfl⟩
    · exact va_newa (atype := .int) (ty := .int) (a0 := (n.toNatClampNeg, .inl (fun _ => 0))) hx hb (lw_word hts wd.1.1.1) rfl hC.1 hH wL_D hS (fun q hq => Nat.le_trans (by omega) hq) (fun cA => rfl) h3.1 rfl (by have := h3.2.1; show n.toNatClampNeg * 4 ≤ _; omega) (by omega) (by omega) hd (fun q cA H1 hK hP hD hS1 => fin .int q cA H1 (Or.inl ⟨ht, rfl⟩) hK hP hD hS1)
    · exact va_newa (atype := .boolean) (ty := .boolean) (a0 := (n.toNatClampNeg, .inl (fun _ => 0))) hx hb (lw_word hts wd.1.1.2) rfl hC.1 hH wL_D hS (fun q hq => Nat.le_trans (by omega) hq) (fun cA => rfl) h3.1 rfl (by have := h3.2.1; show n.toNatClampNeg * 1 ≤ _; omega) (by omega) (by omega) hd (fun q cA H1 hK hP hD hS1 => fin .boolean q cA H1 (Or.inr ⟨ht, rfl⟩) hK hP hD hS1)
theorem asnd_arq {D : va_G} {cT : Nat → ClassId} {B b k L a0 s0 : Nat} {xs : Nat → Int32} {pc t ix : Nat} {n : Int32} {r : List Value} {A A' : aH} {cc : Nat} {lc : Array Slot} {e0 : Nat × Nat × Nat × Nat}
    (hx : p.tables.exec = Jvm.exec) (hb : c.code = mC k) (hown : s.vm.findClass (cRn (mO k)) = some m.cls) (hts : ∀ w ∈ lw_g, w.before args s = true) (hC : Cx D cT B b L xs s) (hB : s.heap.size = B + a0)
    (hd : decode (mC k) pc = .ok (.anewarray ix, 3)) (hk : kG ntb (mO k) ix = some e0) (ht : (t = 2 ∧ e0.1 = 2) ∨ (t = 3 ∧ e0.1 = 0)) (h : a1 A t n = some (A', cc)) (hH : HR D cT B b A H) (hS : va_S (Ab B) s.heap H locs)
    (hc : A.length = a0 + cells) (hs : slA A = s0 + slots) (hRc : A'.length ≤ a0 + R.cells) (hRs : slA A' ≤ s0 + R.slots)
    (kk : ∀ H' locs' cells' slots', HR D cT B b A' H' → va_S (Ab B) s.heap H' locs' → A'.length = a0 + cells' → slA A' = s0 + slots' → W p l e R s m args below meth c H' locs' cells' slots' Q (F0 m (pc + 3) lc (cV B b (.ref cc) :: r))) :
    W p l e R s m args below meth c H locs cells slots Q (F0 m pc lc (.int n :: r)) := by
  obtain ⟨hw, hci⟩ := nbool_of hk
  unfold a1 at h
  split at h
  · cases h
  · rename_i h2
    have h3 : ¬ n < 0 ∧ n.toNatClampNeg ≤ 1000000 ∧ ¬ A.length = SC := ⟨fun z => h2 (Or.inl z), Nat.le_of_not_lt (fun z => h2 (Or.inr (Or.inl z))), fun z => h2 (Or.inr (Or.inr z))⟩
    have ht2 : ¬ t < 2 := by omega
    rw [if_neg ht2, if_pos (by omega : t < 4)] at h
    cases h
    rw [List.length_append, List.length_singleton] at hRc
    rw [slA_push] at hRs
    have hsl : slC (.inl (t, n.toNatClampNeg, .inr (fun _ => none)) : aC) = n.toNatClampNeg := rfl
    rw [hsl] at hRs
    have fin : ∀ (C : String) (q : Nat) (cA : ClassId) (H1 : Heap), (t = 2 ∧ C = RX2) ∨ (t = 3 ∧ C = RX0) → va_K D vwCl (tyF cT ++ [(cA, .object C)]) s → va_P D vwCl (wL cT B b A ++ [(q, .inl (cA, n.toNatClampNeg, .inr (.inr (.inr (.inr (fun _ => none))))))]) H1 → va_D (Ab B) (wL cT B b A ++ [(q, .inl (cA, n.toNatClampNeg, .inr (.inr (.inr (.inr (fun _ => none))))))]) → va_S (Ab B) s.heap H1 locs → W p l e R s m args below meth c H1 locs (cells + 1) (slots + n.toNatClampNeg) Q (F0 m (pc + 3) lc (.ref q :: r)) := by
      intro C q cA H1 hty hK hP hD hS1
      refine W.size (fun hz => ?_)
      have hq := new_at hP hD (by omega)
      subst hq
      have hcA : cA = cT t := by
        obtain ⟨_, _, _, _, _, z4⟩ := (hK.2 4 _ rfl).2
        rcases hty with ⟨rfl, rfl⟩ | ⟨rfl, rfl⟩
        · obtain ⟨_, _, _, _, _, z0⟩ := (hC.1.2 2 _ rfl).2
          exact Option.some.inj (z4.symm.trans z0)
        · obtain ⟨_, _, _, _, _, z0⟩ := (hC.1.2 3 _ rfl).2
          exact Option.some.inj (z4.symm.trans z0)
      subst hcA
      have e1 : (.inl (cT t, n.toNatClampNeg, .inr (.inr (.inr (.inr (fun _ => none))))) : va_E) = wE cT B b (.inl (t, n.toNatClampNeg, .inr (fun _ => none))) := rfl
      rw [e1, wL_push] at hP
      have k2 := kk H1 locs (cells + 1) (slots + n.toNatClampNeg) hP hS1 (by rw [List.length_append, List.length_singleton]; omega) (by rw [slA_push, hsl]; omega)
      rw [show cV B b (.ref A.length) = .ref (B + A.length) from congrArg Value.ref (adr_ne h3.2.2)] at k2
      exact k2
    have wd := wd_arr
    simp only [Bool.and_eq_true] at wd
    rcases ht with ⟨ht, he⟩ | ⟨ht, he⟩
    · rw [he] at hw
      exact va_newq (C := RX2) hx hb hown (lw_word hts hw) (hC.2.1 _ (lw_nat_mem wd.1.2)) hC.1 hH wL_D hS (fun q hq => Nat.le_trans (by omega) hq) h3.1 rfl (by have := h3.2.1; omega) (by omega) (by omega) hd (fun q cA H1 hK hP hD hS1 => fin RX2 q cA H1 (Or.inl ⟨ht, rfl⟩) hK hP hD hS1)
    · rw [he] at hw
      exact va_newq (C := RX0) hx hb hown (lw_word hts hw) (hC.2.1 _ (lw_nat_mem wd.2)) hC.1 hH wL_D hS (fun q hq => Nat.le_trans (by omega) hq) h3.1 rfl (by have := h3.2.1; omega) (by omega) (by omega) hd (fun q cA H1 hK hP hD hS1 => fin RX0 q cA H1 (Or.inr ⟨ht, rfl⟩) hK hP hD hS1)
end SND
