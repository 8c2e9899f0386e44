/-! the abstract machine is true to the machine: every method, and the law's own body -/
section SND
variable {p : Program} {l : Launch} {e : Env} {R : Room} {s : State} {m : MethodId} {args : Array Value} {below : List Frame} {meth : Method} {c : Code} {H : Heap} {locs : List Loc} {cells slots : Nat} {Q : State → Prop}
theorem hsnd {D : va_G} {cT : Nat → ClassId} {B b L d k a0 s0 pc len : Nat} {xs : Nat → Int32} {i : Instr} {st : List Value} {lc : Array Slot} {A : aH} {q : List Value × aH}
    (hX : Ctx p R s m args meth c D cT B b L xs d k a0) (hd : decode (mC k) pc = .ok (i, len)) (h : hstep (o1 L xs) k i len st A = some q)
    (hH : HR D cT B b A H) (hS : va_S (Ab B) s.heap H locs) (hc : A.length = a0 + cells) (hs : slA A = s0 + slots) (hRc : q.2.length ≤ a0 + R.cells) (hRs : slA q.2 ≤ s0 + R.slots)
    (kk : ∀ H' locs' cells' slots', HR D cT B b q.2 H' → va_S (Ab B) s.heap H' locs' → q.2.length = a0 + cells' → slA q.2 = s0 + slots' → W p l e R s m args below meth c H' locs' cells' slots' Q (F0 m (pc + len) lc (q.1.map (cV B b)))) :
    W p l e R s m args below meth c H locs cells slots Q (F0 m pc lc (st.map (cV B b))) := by
  obtain ⟨hx, hb, hml, hown, hts, hC, hnm, hRf, hRl, hB⟩ := hX
  have hB2 : B ≤ s.heap.size := by omega
  have h0 := h
  unfold hstep o1 at h
  dsimp only at h
  split at h <;> try (cases h; done)
  · exact hsnd_get hx hb hown hts hC hd h0 hH (fun hA => by rw [hA] at kk; exact kk _ _ _ _ hH hS hc hs)
  · exact hsnd_put hx hb hown hts hC hnm hd h0 hH hS (fun H' locs' hH' hS' hl1 hl2 => kk _ _ _ _ hH' hS' (hl1.trans hc) (hl2.trans hs))
  · split at h <;> try (cases h; done)
    split at h <;> try (cases h; done)
    rename_i h1
    subst h1
    obtain ⟨v, hv, rfl⟩ := opt_map_inv h
    exact asnd_load hx hb hC hB2 (Or.inl ⟨rfl, hd⟩) hv hH hS (kk _ _ _ _ hH hS hc hs)
  · split at h <;> try (cases h; done)
    split at h <;> try (cases h; done)
    rename_i h1
    subst h1
    obtain ⟨v, hv, rfl⟩ := opt_map_inv h
    exact asnd_load hx hb hC hB2 (Or.inr (Or.inl ⟨rfl, hd⟩)) hv hH hS (kk _ _ _ _ hH hS hc hs)
  · split at h <;> try (cases h; done)
    split at h <;> try (cases h; done)
    rename_i h1
    subst h1
    obtain ⟨v, hv, rfl⟩ := opt_map_inv h
    exact asnd_load hx hb hC hB2 (Or.inr (Or.inr ⟨rfl, hd⟩)) hv hH hS (kk _ _ _ _ hH hS hc hs)
  · split at h <;> try (cases h; done)
    split at h <;> try (cases h; done)
    rename_i h1
    subst h1
    obtain ⟨v, hv, rfl⟩ := opt_map_inv h
    exact asnd_store hx hb hC (Or.inl ⟨rfl, hd⟩) hv hH hS (fun H' locs' hH' hS' hl1 hl2 => kk _ _ _ _ hH' hS' (hl1.trans hc) (hl2.trans hs))
  · split at h <;> try (cases h; done)
    split at h <;> try (cases h; done)
    rename_i h1
    subst h1
    obtain ⟨v, hv, rfl⟩ := opt_map_inv h
    exact asnd_store hx hb hC (Or.inr (Or.inl ⟨rfl, hd⟩)) hv hH hS (fun H' locs' hH' hS' hl1 hl2 => kk _ _ _ _ hH' hS' (hl1.trans hc) (hl2.trans hs))
  · split at h <;> try (cases h; done)
    split at h <;> try (cases h; done)
    rename_i h1
    subst h1
    obtain ⟨v, hv, rfl⟩ := opt_map_inv h
    exact asnd_store hx hb hC (Or.inr (Or.inr ⟨rfl, hd⟩)) hv hH hS (fun H' locs' hH' hS' hl1 hl2 => kk _ _ _ _ hH' hS' (hl1.trans hc) (hl2.trans hs))
  · split at h <;> try (cases h; done)
    split at h <;> try (cases h; done)
    rename_i h1
    subst h1
    obtain ⟨v, hv, rfl⟩ := opt_map_inv h
    exact asnd_len hx hb hC hB2 hd hv hH hS (kk _ _ _ _ hH hS hc hs)
  · split at h <;> try (cases h; done)
    rename_i h1
    subst h1
    obtain ⟨e0, hk, h⟩ := opt_bind_inv h
    obtain ⟨⟨A', cc⟩, hv, rfl⟩ := opt_map_inv h
    exact asnd_new (a0 := a0) (s0 := s0) hx hb hown hts hC hB hd hk hv hH hS hc hs hRc hRs kk
  · split at h <;> try (cases h; done)
    split at h
    · rename_i h1
      obtain ⟨rfl, rfl⟩ := h1
      obtain ⟨⟨A', cc⟩, hv, rfl⟩ := opt_map_inv h
      exact asnd_arr (a0 := a0) (s0 := s0) hx hb hts hC hB hd (Or.inl ⟨rfl, rfl⟩) hv hH hS hc hs hRc hRs kk
    · split at h <;> try (cases h; done)
      rename_i h1
      obtain ⟨rfl, rfl⟩ := h1
      obtain ⟨⟨A', cc⟩, hv, rfl⟩ := opt_map_inv h
      exact asnd_arr (a0 := a0) (s0 := s0) hx hb hts hC hB hd (Or.inr ⟨rfl, rfl⟩) hv hH hS hc hs hRc hRs kk
  · split at h <;> try (cases h; done)
    split at h <;> try (cases h; done)
    rename_i h1
    subst h1
    obtain ⟨e0, hk, h⟩ := opt_bind_inv h
    split at h
    · rename_i h1
      obtain ⟨⟨A', cc⟩, hv, rfl⟩ := opt_map_inv h
      exact asnd_arq (a0 := a0) (s0 := s0) hx hb hown hts hC hB hd hk (Or.inl ⟨rfl, h1⟩) hv hH hS hc hs hRc hRs kk
    · split at h <;> try (cases h; done)
      rename_i h1
      obtain ⟨⟨A', cc⟩, hv, rfl⟩ := opt_map_inv h
      exact asnd_arq (a0 := a0) (s0 := s0) hx hb hown hts hC hB hd hk (Or.inr ⟨rfl, h1⟩) hv hH hS hc hs hRc hRs kk
theorem SWn {D : va_G} {cT : Nat → ClassId} {B b L k a0 s0 : Nat} {xs : Nat → Int32} {v : Option Value} {A' : aH}
    (hE : Ends p l e R s m args below meth c Q D cT B b k a0 s0 v A') (hRc : A'.length ≤ a0 + R.cells) (hRs : slA A' ≤ s0 + R.slots) :
    ∀ (n : Nat), (∀ i, i < n → SM L xs i) → ∀ (d : Nat), Ctx p R s m args meth c D cT B b L xs d k a0 → ∀ (pc : Nat) (ls st : List Value) (A : aH) (lc : Array Slot) (H : Heap) (locs : List Loc) (cells slots : Nat), ex (o1 L xs) d n k pc ls st A = some (v, A') → LR B b (mL k) ls lc → HR D cT B b A H → va_S (Ab B) s.heap H locs → A.length = a0 + cells → slA A = s0 + slots → W p l e R s m args below meth c H locs cells slots Q (F0 m pc lc (st.map (cV B b))) := by
  intro n
  induction n with
  | zero => intro _ d hX pc ls st A lc H locs cells slots h; cases h
  | succ n ih =>
    intro hSM d hX pc ls st A lc H locs cells slots h hl hH hS hc hs
    have ih2 := ih (fun i hi => hSM i (Nat.lt_succ_of_lt hi))
    have hX2 := hX
    obtain ⟨hx, hb, hml, hown, hts, hC, hnm, hRf, hRl, hB⟩ := hX2
    unfold ex at h
    split at h
    · cases h
    · rename_i il hd
      obtain ⟨i, len⟩ := il
      dsimp only at h
      split at h
      · rename_i q hq
        exact psnd hx hb hown hts hd hq hl (fun lc' hl' => ih2 _ hX _ _ _ _ _ _ _ _ _ h hl' hH hS hc hs)
      · split at h
        · rename_i q hq
          have h2 := ex_len _ _ _ _ _ _ _ _ h
          dsimp only at h2
          exact hsnd (s0 := s0) hX hd hq hH hS hc hs (by omega) (by omega) (fun H' locs' cells' slots' hH' hS' hc' hs' => ih2 _ hX _ _ _ _ _ _ _ _ _ h hl hH' hS' hc' hs')
        · split at h
          · rename_i s2 hq
            have h2 := ex_len _ _ _ _ _ _ _ _ h
            dsimp only at h2
            exact jsnd hx hb hml hown hts hRf hRl (by omega) (by omega) hl.1 hd hq (ih2 _ hX _ _ _ _ _ _ _ _ _ h hl hH hS hc hs)
          · split at h
            · rename_i q _ _
              split at h
              · rename_i z hz
                have h2 := ex_len _ _ _ _ _ _ _ _ h
                dsimp only at h2
                exact csnd (s0 := s0) (hSM n (Nat.lt_succ_self n)) hX hd (by assumption) hz hl hH hS hc hs (by omega) (by omega) (fun H' locs' cells' slots' hH' hS' hc' hs' => ih2 _ hX _ _ _ _ _ _ _ _ _ h hl hH' hS' hc' hs')
              · cases h
            · obtain ⟨v2, hv, he⟩ := opt_map_inv h
              cases he
              exact hE pc (i, len) lc st H locs cells slots hd hv hH hS hc hs
end SND
theorem sl_len {B b : Nat} : ∀ (as : List Value), as.all p_ok = true → (lg_sl (as.map (cV B b))).length = as.length
  | [], _ => rfl
  | v :: as, h => by
    simp only [List.all_cons, Bool.and_eq_true] at h
    have h1 := sl_len (B := B) (b := b) as h.2
    unfold lg_sl at h1 ⊢
    rw [List.map_cons, List.flatMap_cons, List.length_append, h1, if_neg (by rw [cV_cat h.1]; decide)]
    simp only [List.length_cons, List.length_nil]
    omega
theorem ar_mem {B b : Nat} : ∀ (as : List Value) (j i : Nat) (v : Value), as.all p_ok = true → as[i]? = some v → (j + i, cV B b v) ∈ lv_args j (as.map (cV B b))
  | [], _, _, _, _, h => by simp at h
  | w :: as, j, i, v, h, hi => by
    simp only [List.all_cons, Bool.and_eq_true] at h
    rw [List.map_cons]
    unfold lv_args
    rw [if_neg (by rw [cV_cat h.1]; decide)]
    cases i with
    | zero =>
      rw [List.getElem?_cons_zero] at hi
      cases hi
      exact List.mem_cons_self
    | succ i =>
      rw [List.getElem?_cons_succ] at hi
      have h2 := ar_mem (B := B) (b := b) as (j + 1) i v h.2 hi
      rw [show j + (i + 1) = j + 1 + i by omega]
      exact List.mem_cons_of_mem _ h2
theorem ent_LR {B b nL : Nat} {as : List Value} (hok : as.all p_ok = true) (hn : as.length ≤ nL) : LR B b nL (as ++ List.replicate (nL - as.length) (.retAddr 0)) ((lg_sl (as.map (cV B b)) ++ List.replicate (nL - (lg_sl (as.map (cV B b))).length) Slot.unset).toArray) := by
  have hl := lv_entry (as.map (cV B b)) (n := nL) (by rw [sl_len as hok]; exact hn)
  refine ⟨hl.1, hl.2.1, by rw [List.length_append, List.length_replicate]; omega, fun i v hi hv => ?_⟩
  rcases Nat.lt_or_ge i as.length with h1 | h1
  · rw [List.getElem?_append_left h1] at hi
    have h2 := hl.2.2 _ (ar_mem (B := B) (b := b) as 0 i v hok hi)
    rw [Nat.zero_add] at h2
    exact h2
  · rw [List.getElem?_append_right h1, List.getElem?_replicate] at hi
    split at hi
    · cases hi
      cases hv
    · cases hi
theorem r_obj_inv {o : Option FieldType} (h : r_obj o = true) : ∃ n, o = some (.object n) := by
  unfold r_obj at h
  split at h
  · exact ⟨_, rfl⟩
  · cases h
theorem SM_of {L : Nat} {xs : Nat → Int32} {n : Nat} (hSM : ∀ i, i < n → SM L xs i) : SM L xs n := by
  intro l D cT B b d k as A v A' hk hex hlen hok
  obtain ⟨wq, w1, w2, w3, hcls, hpl, hne1, hne2, hpar, hini, hml20⟩ := mbool_of hk
  obtain ⟨mo6, hcl⟩ := mO_lt hk
  have hmono := ex_len _ _ _ _ _ _ _ _ hex
  dsimp only at hmono
  unfold MetK
  refine Met.ofW (cc := mC k) (maxL := mL k) (ret := mR k) hpl rfl ?_
  intro p e s m args below meth c s₁ Bd hml hv
  obtain ⟨rfl, hsz, hH, hC⟩ := hv
  have hts0 := atoms_spec (ws := wsK k) Bd.pre
  have hts : ∀ w ∈ lw_g, w.before ((as.map (cV B b)).toArray) s = true := fun w hw => hts0 w (List.mem_cons_of_mem _ hw)
  have hown : s.vm.findClass (cRn (mO k)) = some m.cls := by
    rw [← hcls]
    exact findClass_of_methodNamed Bd.named
  have hr := Bd.returns
  have hlocks := Bd.notSynchronized
  have hnm : mF k = 2 → meth.name = "<init>" := fun hf => by
    rw [(name_of_methodNamed Bd.named Bd.method).1]
    exact (hini hf).1
  rw [lg_entry_eq]
  have hX : Ctx p (headSpec (wsK k) (rmK d (A'.length - A.length) (slA A' - slA A))).room s m ((as.map (cV B b)).toArray) meth c D cT B b L xs d k A.length := ⟨Bd.exec, Bd.bytes, hml, hown, hts, hC, hnm, Nat.le_refl d, Nat.le_refl _, hsz⟩
  refine SWn (a0 := A.length) (s0 := slA A) ?_ (by show A'.length ≤ A.length + (A'.length - A.length); omega) (by show slA A' ≤ slA A + (slA A' - slA A); omega) n hSM d hX 0 (c_ent k as) [] A _ s.heap [] 0 0 hex (ent_LR hok (by omega)) hH va_S.rf rfl rfl
  intro pc il lc st H locs cells slots hd hrs hH' hS' hc' hs'
  obtain ⟨i, len⟩ := il
  have hc2 : cells = A'.length - A.length := by omega
  have hs2 : slots = slA A' - slA A := by omega
  subst hc2
  subst hs2
  dsimp only at hrs
  unfold rstep at hrs
  split at hrs <;> try (cases hrs; done)
  · split at hrs <;> try (cases hrs; done)
    rename_i x
    split at hrs <;> try (cases hrs; done)
    rename_i hcond
    obtain ⟨rfl, hty⟩ := hcond
    cases hrs
    rcases hty with hty | ⟨hty, hx01⟩
    · exact W.iret Bd.exec Bd.bytes (hr.trans hty) (fun t ht hW => ⟨rfl, by rw [ht]; exact hH', hS'.F ht⟩) hS'.2.2 hd
    · refine W.zret (ty := .boolean) Bd.exec Bd.bytes (hr.trans hty) ?_ (fun t ht hW => ⟨rfl, by rw [ht]; exact hH', hS'.F ht⟩) hS'.2.2 hd
      rcases hx01 with rfl | rfl <;> decide
  · split at hrs <;> try (cases hrs; done)
    · rename_i cc
      split at hrs <;> try (cases hrs; done)
      rename_i hcond
      obtain ⟨rfl, hty⟩ := hcond
      cases hrs
      obtain ⟨nm, hmr⟩ := r_obj_inv hty
      exact W.aret (rt := .object nm) Bd.exec Bd.bytes (hr.trans hmr) (Or.inl ⟨_, rfl⟩) (Or.inr ⟨_, rfl⟩) (fun t ht hW => ⟨rfl, by rw [ht]; exact hH', hS'.F ht⟩) hS'.2.2 hd
    · split at hrs <;> try (cases hrs; done)
      rename_i hcond
      obtain ⟨rfl, hty⟩ := hcond
      cases hrs
      obtain ⟨nm, hmr⟩ := r_obj_inv hty
      exact W.aret (rt := .object nm) Bd.exec Bd.bytes (hr.trans hmr) (Or.inl ⟨_, rfl⟩) (Or.inl rfl) (fun t ht hW => ⟨rfl, by rw [ht]; exact hH', hS'.F ht⟩) hS'.2.2 hd
  · split at hrs <;> try (cases hrs; done)
    split at hrs <;> try (cases hrs; done)
    rename_i hcond
    obtain ⟨rfl, hty⟩ := hcond
    cases hrs
    exact W.vret Bd.exec Bd.bytes (hr.trans hty) (fun t ht hW => ⟨rfl, by rw [ht]; exact hH', hS'.F ht⟩) hS'.2.2 hd
/-- every method of the abstract machine is met by the machine's -/
theorem SM_all (L : Nat) (xs : Nat → Int32) : ∀ n, SM L xs n := fun n => Nat.strongRecOn n (fun _ ih => SM_of ih)
