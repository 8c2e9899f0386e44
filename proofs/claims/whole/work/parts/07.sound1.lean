/-! the abstract machine is true to the machine: locals, stack, arithmetic, branches -/
def adr (B b c : Nat) : Nat := if c = SC then b else B + c
def cV (B b : Nat) (v : Value) : Value := match v with
  | .ref c => .ref (adr B b c)
  | .int x => .int x
  | .null => .null
  | v => v
def LR (B b nL : Nat) (ls : List Value) (lc : Array Slot) : Prop := lc.size = nL ∧ lv_wf lc ∧ ls.length = nL ∧ ∀ (i : Nat) (v : Value), ls[i]? = some v → p_ok v = true → lc[i]? = some (.val (cV B b v))
def LL (B b : Nat) (ls : List Value) : List (Nat × Value) := (ls.zipIdx.filter (fun q => p_ok q.1)).map (fun q => (q.2, cV B b q.1))
theorem cV_cat {B b : Nat} {v : Value} (h : p_ok v = true) : (cV B b v).category = 1 := by
  cases v <;> first | rfl | (simp [p_ok] at h)
theorem LL_mem {B b : Nat} {ls : List Value} {i : Nat} {w : Value} : (i, w) ∈ LL B b ls ↔ ∃ v, ls[i]? = some v ∧ p_ok v = true ∧ w = cV B b v := by
  simp only [LL, List.mem_map, List.mem_filter, Prod.mk.injEq]
  constructor
  · rintro ⟨⟨v, j⟩, ⟨h1, h2⟩, h3, h4⟩
    dsimp only at h3 h4 h2
    subst h3
    exact ⟨v, List.mem_zipIdx_iff_getElem?.mp h1, h2, h4.symm⟩
  · rintro ⟨v, h1, h2, h3⟩
    exact ⟨(v, i), ⟨List.mem_zipIdx_iff_getElem?.mpr h1, h2⟩, rfl, h3.symm⟩
theorem LR.has {B b nL : Nat} {ls : List Value} {lc : Array Slot} (h : LR B b nL ls lc) : lv_has lc nL (LL B b ls) := by
  refine ⟨h.1, h.2.1, fun q hq => ?_⟩
  obtain ⟨i, w⟩ := q
  obtain ⟨v, h1, h2, h3⟩ := LL_mem.mp hq
  subst h3
  exact h.2.2.2 i v h1 h2
theorem LR.set {B b nL : Nat} {ls : List Value} {lc lc' : Array Slot} {i : Nat} {v : Value} (h : LR B b nL ls lc) (hi : i < ls.length) (hv : p_ok v = true)
    (h2 : lv_has lc' nL ((i, cV B b v) :: (LL B b ls).filter (fun q => !(q.1 == i) && !(q.1 + 1 == i && q.2.category == 2)))) : LR B b nL (ls.set i v) lc' := by
  refine ⟨h2.1, h2.2.1, by rw [List.length_set]; exact h.2.2.1, fun j w hj hw => ?_⟩
  by_cases hji : j = i
  · subst hji
    rw [List.getElem?_set_self hi] at hj
    cases hj
    exact h2.2.2 (j, cV B b v) List.mem_cons_self
  · rw [List.getElem?_set_ne (Ne.symm hji)] at hj
    refine h2.2.2 (j, cV B b w) (List.mem_cons_of_mem _ (List.mem_filter.mpr ⟨LL_mem.mpr ⟨w, hj, hw, rfl⟩, ?_⟩))
    simp [hji, cV_cat hw]
theorem p_ld_inv {ls : List Value} {j : Nat} {a : Bool} {v : Value} (h : p_ld ls j a = some v) : ls[j]? = some v ∧ p_ok v = true ∧ (a = false → ∃ x, v = .int x) ∧ (a = true → v = .null ∨ ∃ c, v = .ref c) := by
  unfold p_ld at h
  split at h <;> first | (cases h; done) | (split at h <;> first | (cases h; done) | (cases h; refine ⟨by assumption, rfl, ?_, ?_⟩ <;> simp_all))
theorem p_push_inv {len want pc : Nat} {ls st : List Value} {v : Option Value} {q : Nat × List Value × List Value} (h : p_push len want pc ls st v = some q) : len = want ∧ ∃ w, v = some w ∧ q = (pc + want, ls, w :: st) := by
  unfold p_push at h
  split at h
  · cases v with
    | none => cases h
    | some w => cases h; exact ⟨by assumption, w, rfl, rfl⟩
  · cases h
theorem p_sto_inv {len want pc j : Nat} {ls st : List Value} {a : Bool} {q : Nat × List Value × List Value} (h : p_sto len want pc j ls st a = some q) : len = want ∧ j < ls.length ∧ ∃ v r, st = v :: r ∧ p_ok v = true ∧ (a = false → ∃ x, v = .int x) ∧ (a = true → v = .null ∨ ∃ c, v = .ref c) ∧ q = (pc + want, ls.set j v, r) := by
  unfold p_sto at h
  split at h <;> first | (cases h; done) | (split at h <;> first | (cases h; done) | (rename_i hh; cases h; refine ⟨hh.1, hh.2.2, _, _, rfl, rfl, ?_, ?_, rfl⟩ <;> simp_all))
theorem p_bin_inv {len pc : Nat} {ls st : List Value} {f : Int32 → Int32 → Option Int32} {q : Nat × List Value × List Value} (h : p_bin len pc ls st f = some q) : ∃ x y z r, st = .int y :: .int x :: r ∧ len = 1 ∧ f x y = some z ∧ q = (pc + 1, ls, .int z :: r) := by
  unfold p_bin at h
  split at h
  · rename_i y x r
    split at h
    · cases hf : f x y with
      | none => rw [hf] at h; cases h
      | some z => rw [hf] at h; cases h; exact ⟨x, y, z, r, rfl, by assumption, hf, rfl⟩
    · cases h
  · cases h
theorem p_go_inv {pc : Nat} {off : Int} {ls st : List Value} {q : Nat × List Value × List Value} (h : p_go pc off ls st = some q) : ∃ t : Nat, (pc : Int) + off = (t : Int) ∧ q = (t, ls, st) := by
  unfold p_go p_tg at h
  split at h
  · cases h
    exact ⟨_, by omega, rfl⟩
  · cases h
theorem p_br_inv {cc : Bool} {pc : Nat} {off : Int} {ls st : List Value} {q : Nat × List Value × List Value} (h : p_br cc pc off ls st = some q) : ∃ t : Nat, (pc : Int) + off = (t : Int) ∧ q = (if cc = true then t else pc + 3, ls, st) := by
  unfold p_br p_tg at h
  by_cases hc : 0 ≤ (pc : Int) + off
  · rw [if_pos hc, Option.map_some] at h
    exact ⟨((pc : Int) + off).toNat, by omega, (Option.some.inj h).symm⟩
  · rw [if_neg hc] at h
    cases h
theorem p_c1_inv {len pc : Nat} {ls st : List Value} {off : Int} {f : Int32 → Bool} {q : Nat × List Value × List Value} (h : p_c1 len pc ls st off f = some q) : ∃ x r, ∃ t : Nat, st = .int x :: r ∧ len = 3 ∧ (pc : Int) + off = (t : Int) ∧ q = (if f x = true then t else pc + 3, ls, r) := by
  unfold p_c1 at h
  split at h
  · rename_i x r
    split at h
    · obtain ⟨t, h1, h2⟩ := p_br_inv h
      exact ⟨x, r, t, rfl, by assumption, h1, h2⟩
    · cases h
  · cases h
theorem p_c2_inv {len pc : Nat} {ls st : List Value} {off : Int} {f : Int32 → Int32 → Bool} {q : Nat × List Value × List Value} (h : p_c2 len pc ls st off f = some q) : ∃ x y r, ∃ t : Nat, st = .int y :: .int x :: r ∧ len = 3 ∧ (pc : Int) + off = (t : Int) ∧ q = (if f x y = true then t else pc + 3, ls, r) := by
  unfold p_c2 at h
  split at h
  · rename_i y x r
    split at h
    · obtain ⟨t, h1, h2⟩ := p_br_inv h
      exact ⟨x, y, r, t, rfl, by assumption, h1, h2⟩
    · cases h
  · cases h
theorem p_nul_inv {len pc : Nat} {ls st : List Value} {off : Int} {bb : Bool} {q : Nat × List Value × List Value} (h : p_nul len pc ls st off bb = some q) : ∃ v r, st = v :: r ∧ len = 3 ∧ (((∃ c, v = .ref c) ∧ p_br bb pc off ls r = some q) ∨ (v = .null ∧ p_br (!bb) pc off ls r = some q)) := by
  unfold p_nul at h
  split at h
  · split at h
    · exact ⟨_, _, rfl, by assumption, Or.inl ⟨⟨_, rfl⟩, h⟩⟩
    · cases h
  · split at h
    · exact ⟨_, _, rfl, by assumption, Or.inr ⟨rfl, h⟩⟩
    · cases h
  · cases h
theorem kG_mem {t : List (Nat × Nat × Nat × Nat × Nat × Nat)} {o i : Nat} {e : Nat × Nat × Nat × Nat} (h : kG t o i = some e) : (o, i, e) ∈ t := by
  unfold kG at h
  cases hf : t.find? (fun e => e.1 == o && e.2.1 == i) with
  | none => rw [hf] at h; cases h
  | some x =>
    rw [hf] at h
    cases h
    have h1 := List.mem_of_find?_eq_some hf
    have h2 := List.find?_some hf
    simp only [Bool.and_eq_true, beq_iff_eq] at h2
    obtain ⟨a, c, r⟩ := x
    dsimp only at h2
    obtain ⟨h3, h4⟩ := h2
    subst h3; subst h4
    exact h1
theorem lw_word {args : Array Value} {s : State} (hts : ∀ w ∈ lw_g, w.before args s = true) {i : Nat} {w : Cond} (h : lw_at i w = true) : w.before args s = true := hts w (lw_at_mem h)
section SND
variable {p : Program} {l : Launch} {e : Env} {R : Room} {s : State} {m : MethodId} {args : Array Value} {below : List Frame} {meth : Method} {c : Code} {H : Heap} {locs : List Loc} {cells slots : Nat} {Q : State → Prop}
set_option maxHeartbeats 4000000 in
theorem psnd {B b k nL : Nat} {i : Instr} {len pc : Nat} {ls st : List Value} {q : Nat × List Value × List Value} {lc : Array Slot}
    (hx : p.tables.exec = Jvm.exec) (hb : c.code = mC k) (hown : s.vm.findClass (cRn (mO k)) = some m.cls) (hts : ∀ w ∈ lw_g, w.before args s = true)
    (hd : decode (mC k) pc = .ok (i, len)) (h : pstep (mO k) i len pc ls st = some q) (hl : LR B b nL ls lc)
    (kk : ∀ lc', LR B b nL q.2.1 lc' → W p l e R s m args below meth c H locs cells slots Q (F0 m q.1 lc' (q.2.2.map (cV B b)))) :
    W p l e R s m args below meth c H locs cells slots Q (F0 m pc lc (st.map (cV B b))) := by
  cases i <;> first | (change (none : pR) = some q at h; cases h; done) | skip
  case iconst n =>
    obtain ⟨rfl, w, hw, rfl⟩ := p_push_inv h
    cases hw
    exact lv_iconst hx hb hd rfl (kk _ hl)
  case bipush n =>
    obtain ⟨rfl, w, hw, rfl⟩ := p_push_inv h
    cases hw
    exact lv_bipush hx hb hd rfl (kk _ hl)
  case sipush n =>
    obtain ⟨rfl, w, hw, rfl⟩ := p_push_inv h
    cases hw
    exact lv_sipush hx hb hd rfl (kk _ hl)
  case ldc ix =>
    obtain ⟨rfl, w, hw, rfl⟩ := p_push_inv h
    cases hk : kG ktb (mO k) ix with
    | none => rw [hk] at hw; cases hw
    | some e0 =>
      rw [hk] at hw
      cases hw
      have h3 := List.all_eq_true.mp ktb_ok _ (kG_mem hk)
      exact lv_ldc hx hb hown (lw_word hts h3) hd (kk _ hl)
  case aconst_null =>
    obtain ⟨rfl, w, hw, rfl⟩ := p_push_inv h
    cases hw
    exact lv_null hx hb hd (kk _ hl)
  case iload_n j =>
    obtain ⟨rfl, w, hw, rfl⟩ := p_push_inv h
    obtain ⟨h1, h2, h3, -⟩ := p_ld_inv hw
    obtain ⟨x, rfl⟩ := h3 rfl
    exact lv_iload_n hx hb hd rfl (hl.2.2.2 _ _ h1 h2) (kk _ hl)
  case iload j =>
    obtain ⟨rfl, w, hw, rfl⟩ := p_push_inv h
    obtain ⟨h1, h2, h3, -⟩ := p_ld_inv hw
    obtain ⟨x, rfl⟩ := h3 rfl
    exact lv_iload hx hb hd (hl.2.2.2 _ _ h1 h2) (kk _ hl)
  case aload_n j =>
    obtain ⟨rfl, w, hw, rfl⟩ := p_push_inv h
    obtain ⟨h1, h2, -, h3⟩ := p_ld_inv hw
    rcases h3 rfl with rfl | ⟨x, rfl⟩
    · exact lv_aload_nN hx hb hd rfl (hl.2.2.2 _ _ h1 h2) (kk _ hl)
    · exact lv_aload_n hx hb hd rfl (hl.2.2.2 _ _ h1 h2) (kk _ hl)
  case aload j =>
    obtain ⟨rfl, w, hw, rfl⟩ := p_push_inv h
    obtain ⟨h1, h2, -, h3⟩ := p_ld_inv hw
    rcases h3 rfl with rfl | ⟨x, rfl⟩
    · exact lv_aloadN hx hb hd (hl.2.2.2 _ _ h1 h2) (kk _ hl)
    · exact lv_aload hx hb hd (hl.2.2.2 _ _ h1 h2) (kk _ hl)
  case istore_n j =>
    obtain ⟨rfl, hj, v, r, rfl, hv, h3, -, rfl⟩ := p_sto_inv h
    obtain ⟨x, rfl⟩ := h3 rfl
    exact lv_istore_n hx hb hd rfl hl.has (by rw [← hl.2.2.1]; exact hj) rfl (fun lc' h' => kk _ (hl.set hj hv h'))
  case istore j =>
    obtain ⟨rfl, hj, v, r, rfl, hv, h3, -, rfl⟩ := p_sto_inv h
    obtain ⟨x, rfl⟩ := h3 rfl
    exact lv_istore hx hb hd hl.has (by rw [← hl.2.2.1]; exact hj) rfl (fun lc' h' => kk _ (hl.set hj hv h'))
  case astore_n j =>
    obtain ⟨rfl, hj, v, r, rfl, hv, -, h3, rfl⟩ := p_sto_inv h
    rcases h3 rfl with rfl | ⟨x, rfl⟩
    · exact lv_astore_nN hx hb hd rfl hl.has (by rw [← hl.2.2.1]; exact hj) rfl (fun lc' h' => kk _ (hl.set hj hv h'))
    · exact lv_astore_n hx hb hd rfl hl.has (by rw [← hl.2.2.1]; exact hj) rfl (fun lc' h' => kk _ (hl.set hj hv h'))
  case astore j =>
    obtain ⟨rfl, hj, v, r, rfl, hv, -, h3, rfl⟩ := p_sto_inv h
    rcases h3 rfl with rfl | ⟨x, rfl⟩
    · exact lv_astoreN hx hb hd hl.has (by rw [← hl.2.2.1]; exact hj) rfl (fun lc' h' => kk _ (hl.set hj hv h'))
    · exact lv_astore hx hb hd hl.has (by rw [← hl.2.2.1]; exact hj) rfl (fun lc' h' => kk _ (hl.set hj hv h'))
  case iinc j n =>
    change p_inc len pc j n ls st = some q at h
    unfold p_inc at h
    split at h
    · rename_i x hx2
      obtain ⟨h1, h2, -, -⟩ := p_ld_inv hx2
      split at h
      · rename_i h4
        cases h
        obtain ⟨rfl, hj⟩ := h4
        obtain ⟨z, hz⟩ := List.getElem?_of_mem (LL_mem (B := B) (b := b).mpr ⟨_, h1, h2, rfl⟩)
        exact lv_iinc hx hb hd hl.has (k := z) hz rfl (by rw [← hl.2.2.1]; exact hj) rfl (fun lc' h' => kk _ (hl.set hj rfl h'))
      · cases h
    · cases h
  case iadd =>
    obtain ⟨x, y, z, r, rfl, rfl, hf, rfl⟩ := p_bin_inv h
    cases hf
    exact lv_iadd hx hb hd (kk _ hl)
  case isub =>
    obtain ⟨x, y, z, r, rfl, rfl, hf, rfl⟩ := p_bin_inv h
    cases hf
    exact lv_isub hx hb hd (kk _ hl)
  case imul =>
    obtain ⟨x, y, z, r, rfl, rfl, hf, rfl⟩ := p_bin_inv h
    cases hf
    exact lv_imul hx hb hd (kk _ hl)
  case idiv =>
    obtain ⟨x, y, z, r, rfl, rfl, hf, rfl⟩ := p_bin_inv h
    split at hf
    · cases hf
    · cases hf
      exact lv_idiv hx hb hd (by assumption) (kk _ hl)
  case irem =>
    obtain ⟨x, y, z, r, rfl, rfl, hf, rfl⟩ := p_bin_inv h
    split at hf
    · cases hf
    · cases hf
      exact lv_irem hx hb hd (by assumption) (kk _ hl)
  case iand =>
    obtain ⟨x, y, z, r, rfl, rfl, hf, rfl⟩ := p_bin_inv h
    cases hf
    exact lv_iand hx hb hd (kk _ hl)
  case ior =>
    obtain ⟨x, y, z, r, rfl, rfl, hf, rfl⟩ := p_bin_inv h
    cases hf
    exact lv_ior hx hb hd (kk _ hl)
  case ixor =>
    obtain ⟨x, y, z, r, rfl, rfl, hf, rfl⟩ := p_bin_inv h
    cases hf
    exact lv_ixor hx hb hd (kk _ hl)
  case ishl =>
    obtain ⟨x, y, z, r, rfl, rfl, hf, rfl⟩ := p_bin_inv h
    cases hf
    exact lv_ishl hx hb hd (kk _ hl)
  case ishr =>
    obtain ⟨x, y, z, r, rfl, rfl, hf, rfl⟩ := p_bin_inv h
    cases hf
    exact lv_ishr hx hb hd (kk _ hl)
  case dup =>
    change p_dup len pc ls st = some q at h
    unfold p_dup at h
    split at h
    · split at h
      · rename_i h4
        cases h
        obtain ⟨rfl, hv⟩ := h4
        exact lv_dup hx hb hd (cV_cat hv) (kk _ hl)
      · cases h
    · cases h
  case dup2 =>
    change p_dup2 len pc ls st = some q at h
    unfold p_dup2 at h
    split at h
    · split at h
      · rename_i h4
        cases h
        obtain ⟨rfl, hv, hw⟩ := h4
        exact lv_dup2_11 hx hb hd (cV_cat hv) (cV_cat hw) (kk _ hl)
      · cases h
    · cases h
  case pop =>
    change p_pop len pc ls st = some q at h
    unfold p_pop at h
    split at h
    · split at h
      · rename_i h4
        cases h
        obtain ⟨rfl, hv⟩ := h4
        exact lv_pop hx hb hd (cV_cat hv) (kk _ hl)
      · cases h
    · cases h
  case goto off =>
    change (if len = 3 then p_go pc off ls st else none) = some q at h
    split at h
    · rename_i h4
      subst h4
      obtain ⟨t, ht, rfl⟩ := p_go_inv h
      exact lv_goto hx hb hd ht (kk _ hl)
    · cases h
  case ifCond op off =>
    obtain ⟨x, r, t, rfl, rfl, ht, rfl⟩ := p_c1_inv h
    have kt : W p l e R s m args below meth c H locs cells slots Q _ := kk _ hl
    cases op
    · exact lv_if_eq hx hb hd ht (fun hc => W.eq (by simp [hc]) kt) (fun hc => W.eq (by simp [hc]) kt)
    · exact lv_if_ne hx hb hd ht (fun hc => W.eq (by simp [hc]) kt) (fun hc => W.eq (by simp [hc]) kt)
    · exact lv_if_lt hx hb hd ht (fun hc => W.eq (by simp [hc]) kt) (fun hc => W.eq (by simp [hc]) kt)
    · exact lv_if_ge hx hb hd ht (fun hc => W.eq (by simp [hc]) kt) (fun hc => W.eq (by simp [hc]) kt)
    · exact lv_if_gt hx hb hd ht (fun hc => W.eq (by simp [hc]) kt) (fun hc => W.eq (by simp [hc]) kt)
    · exact lv_if_le hx hb hd ht (fun hc => W.eq (by simp [hc]) kt) (fun hc => W.eq (by simp [hc]) kt)
  case if_icmp op off =>
    obtain ⟨x, y, r, t, rfl, rfl, ht, rfl⟩ := p_c2_inv h
    have kt : W p l e R s m args below meth c H locs cells slots Q _ := kk _ hl
    cases op
    · exact lv_icmp_eq hx hb hd ht (fun hc => W.eq (by simp [hc]) kt) (fun hc => W.eq (by simp [hc]) kt)
    · exact lv_icmp_ne hx hb hd ht (fun hc => W.eq (by simp [hc]) kt) (fun hc => W.eq (by simp [hc]) kt)
    · exact lv_icmp_lt hx hb hd ht (fun hc => W.eq (by simp [hc]) kt) (fun hc => W.eq (by simp [hc]) kt)
    · exact lv_icmp_ge hx hb hd ht (fun hc => W.eq (by simp [hc]) kt) (fun hc => W.eq (by simp [hc]) kt)
    · exact lv_icmp_gt hx hb hd ht (fun hc => W.eq (by simp [hc]) kt) (fun hc => W.eq (by simp [hc]) kt)
    · exact lv_icmp_le hx hb hd ht (fun hc => W.eq (by simp [hc]) kt) (fun hc => W.eq (by simp [hc]) kt)
  case ifnull off =>
    obtain ⟨v, r, rfl, rfl, ⟨⟨cc, rfl⟩, h5⟩ | ⟨rfl, h5⟩⟩ := p_nul_inv h
    · obtain ⟨t, ht, rfl⟩ := p_br_inv h5
      exact lv_ifnull hx hb hd (kk _ hl)
    · obtain ⟨t, ht, rfl⟩ := p_br_inv h5
      exact lv_ifnullN hx hb hd ht (kk _ hl)
  case ifnonnull off =>
    obtain ⟨v, r, rfl, rfl, ⟨⟨cc, rfl⟩, h5⟩ | ⟨rfl, h5⟩⟩ := p_nul_inv h
    · obtain ⟨t, ht, rfl⟩ := p_br_inv h5
      exact lv_ifnonnull hx hb hd ht (kk _ hl)
    · obtain ⟨t, ht, rfl⟩ := p_br_inv h5
      exact lv_ifnonnullN hx hb hd (kk _ hl)
  case tableswitch d lo hi offs =>
    change p_sw pc ls st d lo hi offs = some q at h
    unfold p_sw at h
    split at h
    · split at h
      · rename_i hc
        obtain ⟨t, ht, rfl⟩ := p_go_inv h
        exact lv_tableOut hx hb hd hc ht (kk _ hl)
      · rename_i hc
        split at h
        · rename_i off ho
          obtain ⟨t, ht, rfl⟩ := p_go_inv h
          exact lv_tableIn hx hb hd (fun z => hc (Or.inl z)) (fun z => hc (Or.inr z)) ho ht (kk _ hl)
        · cases h
    · cases h
end SND
