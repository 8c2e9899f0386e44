/-! the abstract machine is true to the machine: the walk -/
section SND
variable {p : Program} {l : Launch} {e : Env} {R : Room} {s : State} {m : MethodId} {args : Array Value} {below : List Frame} {meth : Method} {c : Code} {H : Heap} {locs : List Loc} {cells slots : Nat} {Q : State → Prop}
theorem callW {D : va_G} {cT : Nat → ClassId} {B b mc ms pc : Nat} {v : Option Value} {A' : aH} {a : Array Value} {ls : Array Slot} {st0 rest : List Value} {H0 : Heap}
    (hr : va_Run p l e R s m args below meth c H locs cells slots mc ms (F0 m pc ls st0) rest (QcK D cT B b v A' a) (Ab B)) (hS : va_S (Ab B) H0 H locs)
    (kk : ∀ H1 locs1, HR D cT B b A' H1 → va_S (Ab B) H0 H1 locs1 → W p l e R s m args below meth c H1 locs1 (cells + mc) (slots + ms) Q (F0 m (pc + 3) ls ((v.map (cV B b)).toList ++ rest))) : W p l e R s m args below meth c H locs cells slots Q (F0 m pc ls st0) := by
  intro T hT X
  obtain ⟨v2, st₀, t, T', L, h0, X', hL, e1, e2, ⟨hv, hH, hz, hk⟩, st⟩ := hr T hT X
  cases hv
  rw [h0] at hz hk
  rw [← e1] at hH
  obtain ⟨t2, a1, b1⟩ := kk T'.heap (locs ++ L) hH ⟨Nat.le_trans hS.1 (by rw [e1]; exact hz), fun q h1 h2 => by rw [e1, hk q (Nat.lt_of_lt_of_le h1 hS.1) h2]; exact hS.2.1 q h1 h2, fun q hq => by
      rcases List.mem_append.mp hq with h | h
      · exact hS.2.2 q h
      · exact hL q h⟩ T' rfl X'
  exact ⟨t2, st t2 a1, b1⟩
theorem jsnd {B b d k nL pc len : Nat} {i : Instr} {st s2 : List Value} {lc : Array Slot}
    (hx : p.tables.exec = Jvm.exec) (hb : c.code = mC k) (hml : c.maxLocals = nL) (hown : s.vm.findClass (cRn (mO k)) = some m.cls) (hts : ∀ w ∈ lw_g, w.before args s = true) (hRf : d ≤ R.frames) (hRl : 64 * d ≤ R.locals) (hRc : cells ≤ R.cells) (hRs : slots ≤ R.slots)
    (hsz : lc.size = nL) (hd : decode (mC k) pc = .ok (i, len)) (h : jstep (mO k) d i len st = some s2)
    (kk : W p l e R s m args below meth c H locs cells slots Q (F0 m (pc + 3) lc (s2.map (cV B b)))) : W p l e R s m args below meth c H locs cells slots Q (F0 m pc lc (st.map (cV B b))) := by
  unfold jstep at h
  split at h
  · cases h
  · rename_i hcond
    have h0 : 0 < d ∧ len = 3 := ⟨Nat.pos_of_ne_zero (fun z => hcond (Or.inl z)), Decidable.of_not_not (fun z => hcond (Or.inr (Or.inl z)))⟩
    obtain ⟨hd0, rfl⟩ := h0
    split at h
    · rename_i ix
      obtain ⟨e0, hk, hq⟩ := opt_bind_inv h
      clear h
      have h := hq
      clear hq
      obtain ⟨hw, h3⟩ := jbool_of hk
      have wm := wd_math
      simp only [Bool.and_eq_true] at wm
      split at h
      · rename_i y r
        split at h
        · rename_i h2
          split at h
          · rename_i hr4
            cases h
            rw [h2] at hw
            have hc := cat_le (B := B) (b := b) r
            exact va_mabs hx hb (hml.trans hsz.symm) hown (lw_word hts hw) (lw_word hts wm.1.2) (lw_word hts wm.1.1.1.1.1.1) (lw_word hts wm.2) (by omega) (by omega) hRc hRs hd kk
          · cases h
        · rename_i h2
          split at h
          · rename_i x r
            split at h
            · rename_i hr4
              have hc := cat_le (B := B) (b := b) r
              split at h
              · rename_i h5
                cases h
                rw [h5] at hw
                exact va_mmin hx hb (hml.trans hsz.symm) hown (lw_word hts hw) (lw_word hts wm.1.1.1.1.1.2) (lw_word hts wm.1.1.1.1.1.1) (lw_word hts wm.1.1.1.1.2) (by omega) (by omega) hRc hRs hd kk
              · rename_i h5
                cases h
                have h6 : e0.1 = 1 := by omega
                rw [h6] at hw
                exact va_mmax hx hb (hml.trans hsz.symm) hown (lw_word hts hw) (lw_word hts wm.1.1.1.2) (lw_word hts wm.1.1.1.1.1.1) (lw_word hts wm.1.1.2) (by omega) (by omega) hRc hRs hd kk
            · cases h
          · cases h
      · cases h
    · rename_i ix
      obtain ⟨e0, hk, h⟩ := opt_bind_inv h
      have hw := obool_of hk
      have wo := wd_obj
      simp only [Bool.and_eq_true] at wo
      split at h
      · rename_i cc r
        split at h
        · rename_i hr4
          cases h
          have hc := cat_le (B := B) (b := b) s2
          exact W.objInit hx hb hown (lw_word hts hw) (lw_word hts wo.1) (lw_word hts wo.2) rfl (by rw [hml]; exact hsz) rfl hd (by omega) (by show 2 * 0 + _ + 12 ≤ _; omega) kk
        · cases h
      · cases h
    · cases h
def Ends (p : Program) (l : Launch) (e : Env) (R : Room) (s : State) (m : MethodId) (args : Array Value) (below : List Frame) (meth : Method) (c : Code) (Q : State → Prop) (D : va_G) (cT : Nat → ClassId) (B b k a0 s0 : Nat) (v : Option Value) (A' : aH) : Prop :=
  ∀ (pc : Nat) (il : Instr × Nat) (lc : Array Slot) (st : List Value) (H : Heap) (locs : List Loc) (cells slots : Nat), decode (mC k) pc = .ok il → rstep k il.1 il.2 st = some v → HR D cT B b A' H → va_S (Ab B) s.heap H locs → A'.length = a0 + cells → slA A' = s0 + slots → W p l e R s m args below meth c H locs cells slots Q (F0 m pc lc (st.map (cV B b)))
theorem csnd {D : va_G} {cT : Nat → ClassId} {B b L d k a0 s0 n pc len : Nat} {xs : Nat → Int32} {i : Instr} {st ls : List Value} {lc : Array Slot} {A : aH} {q : Nat × List Value × List Value} {z : Option Value × aH}
    (hSM : SM L xs n) (hX : Ctx p R s m args meth c D cT B b L xs (d + 1) k a0) (hd : decode (mC k) pc = .ok (i, len)) (h : cstep (o1 L xs) k i len st A = some q) (hz : ex (o1 L xs) d n q.1 0 (c_ent q.1 q.2.1) [] A = some z)
    (hl : LR B b (mL k) ls lc) (hH : HR D cT B b A H) (hS : va_S (Ab B) s.heap H locs) (hc : A.length = a0 + cells) (hs : slA A = s0 + slots) (hRc : z.2.length ≤ a0 + R.cells) (hRs : slA z.2 ≤ s0 + R.slots)
    (kk : ∀ H' locs' cells' slots', HR D cT B b z.2 H' → va_S (Ab B) s.heap H' locs' → z.2.length = a0 + cells' → slA z.2 = s0 + slots' → W p l e R s m args below meth c H' locs' cells' slots' Q (F0 m (pc + 3) lc ((z.1.toList ++ q.2.2).map (cV B b)))) :
    W p l e R s m args below meth c H locs cells slots Q (F0 m pc lc (st.map (cV B b))) := by
  obtain ⟨hx, hb, hml, hown, hts, hC, hnm, hRf, hRl, hB⟩ := hX
  unfold cstep at h
  obtain ⟨kd, hkd, h⟩ := opt_bind_inv h
  obtain ⟨e0, hk, h⟩ := opt_bind_inv h
  split at h
  · rename_i hcond
    cases h
    obtain ⟨rfl, hF, hn, hr4, hall, hrec⟩ := hcond
    obtain ⟨hw, hlt⟩ := cbool_of hk
    obtain ⟨mo6, hcl⟩ := mO_lt hlt
    obtain ⟨wq, w1, w2, w3, hcls, hpl, hne1, hne2, hpar, hini, hml20⟩ := mbool_of hlt
    dsimp only at hz kk
    generalize hrest : st.drop (c_n e0.1) = rest at hr4 kk
    generalize hargs : (st.take (c_n e0.1)).reverse = as at hz hrec
    have hlen : as.length = c_n e0.1 := by
      rw [← hargs, List.length_reverse, List.length_take]
      omega
    have hok : as.all p_ok = true := by
      rw [← hargs, List.all_reverse]
      exact hall
    have hst : st = as.reverse ++ rest := by
      rw [← hargs, ← hrest, List.reverse_reverse, List.take_append_drop]
    have hM := hSM l D cT B b d e0.1 as A z.1 z.2 hlt hz hlen hok
    have hmono := ex_len _ _ _ _ _ _ _ _ hz
    refine W.size (fun hsz => ?_)
    have hlo := HR_lo hH (Nat.le_trans (by omega : B ≤ s.heap.size) hS.1)
    have hHs : H.size = B + A.length := by omega
    have hCU : ∀ U : State, U.heap = H → s.WarmedH U.vm → PcK D cT B b L xs as A (as.map (cV B b)).toArray U := fun U hU hW => ⟨rfl, by rw [hU]; exact hHs, by rw [hU]; exact hH, hC.warm hW (by rw [hU]; exact hS.2.1 b (by have := hC.2.2.2; omega) (Nat.not_le.mpr hC.2.2.2))⟩
    have hcat := cat_le (B := B) (b := b) rest
    have hR1 : (rmK d (z.2.length - A.length) (slA z.2 - slA A)).frames + 1 ≤ R.frames ∧ 8 + (mL e0.1 + 11) + (rmK d (z.2.length - A.length) (slA z.2 - slA A)).locals ≤ R.locals := by
      refine ⟨hRf, ?_⟩
      show 8 + (mL e0.1 + 11) + 64 * d ≤ _
      omega
    have hG := wsK_good hlt
    have hcells : cells + (z.2.length - A.length) ≤ R.cells ∧ slots + (slA z.2 - slA A) ≤ R.slots := by omega
    have hinit : (Cond.initialized (mY e0.1).cls).before args s = true := lw_word hts w3
    have fin : ∀ {a : Array Value}, va_Run p l e R s m args below meth c H locs cells slots (z.2.length - A.length) (slA z.2 - slA A) (F0 m pc lc (st.map (cV B b))) (rest.map (cV B b)) (QcK D cT B b z.1 z.2 a) (Ab B) → W p l e R s m args below meth c H locs cells slots Q (F0 m pc lc (st.map (cV B b))) := by
      intro a hr
      refine callW hr hS (fun H1 locs1 hH1 hS1 => ?_)
      have k2 := kk H1 locs1 _ _ hH1 hS1 (by omega : z.2.length = a0 + (cells + (z.2.length - A.length))) (by omega : slA z.2 = s0 + (slots + (slA z.2 - slA A)))
      have e1 : (z.1.map (cV B b)).toList ++ rest.map (cV B b) = (z.1.toList ++ rest).map (cV B b) := by
        cases z.1 <;> rfl
      rw [e1]
      exact k2
    have hstk : st.map (cV B b) = (as.map (cV B b)).reverse ++ rest.map (cV B b) := by
      rw [hst, List.map_append, List.map_reverse]
    have hS2 : CallFix p m c (mC k) (mL k) s args lw_g (cRn (mO k)) := ⟨hx, hb, hml, hown, hts⟩
    have hd3 : (mY e0.1).cls ≠ "java/lang/invoke/MethodHandle" ∧ (mY e0.1).cls ≠ "java/lang/invoke/VarHandle" ∧ (parseMethodDescriptor (mY e0.1).desc).map (fun d => d.parameters.length) = some (mA e0.1) := ⟨hne1, hne2, hpar⟩
    unfold c_kind at hkd
    split at hkd
    · rename_i ix
      cases hkd
      dsimp only at hF hk hw
      have hsel := w2 hF
      have hin : (Cond.instanceMethod (mY e0.1)).before args s = true := by
        have := lw_word hts w1
        rw [if_neg (by omega)] at this
        exact this
      unfold c_rec at hrec
      rw [if_neg (by omega)] at hrec
      have hcn : c_n e0.1 = mA e0.1 + 1 := by
        unfold c_n
        rw [if_neg (by omega)]
      split at hrec
      · rename_i cc as2
        cases hg : (o1 L xs).1 A cc (mO e0.1) 0 with
        | none => rw [hg] at hrec; cases hrec
        | some v0 =>
          change g1 A cc (mO e0.1) 0 = some v0 at hg
          unfold g1 at hg
          split at hg
          · rename_i ci' fs hA
            split at hg
            · rename_i hc2
              obtain ⟨rfl, hSC⟩ := hc2
              have hrv := va_recv hC.1 hH (cl_at _ mo6) (wL_get (cT := cT) (B := B) (b := b) hA)
              rw [show (cRn (mO e0.1), cTf (mO e0.1), cNn (mO e0.1)).1 = (mY e0.1).cls from hcls.symm] at hrv
              have hpre : PreV s H (mY e0.1).cls (B + cc) (PcK D cT B b L xs (.ref cc :: as2) A) (as2.map (cV B b)) := by
                refine ⟨PcK_blind, hrv, fun U hU hW => ?_⟩
                have := hCU U hU hW
                rw [List.map_cons] at this
                rw [show cV B b (.ref cc) = .ref (B + cc) from congrArg Value.ref (adr_ne hSC)] at this
                exact this
              have hstk2 : st.map (cV B b) = (as2.map (cV B b)).reverse ++ .ref (B + cc) :: rest.map (cV B b) := by
                rw [hstk, List.map_cons, List.reverse_cons, show cV B b (.ref cc) = .ref (B + cc) from congrArg Value.ref (adr_ne hSC), List.append_assoc]
                rfl
              have hln : (as2.map (cV B b)).length = mA e0.1 := by
                rw [List.length_map]
                rw [List.length_cons] at hlen
                omega
              by_cases hnest : e0.2.1 = 0
              · rw [if_pos hnest] at hw
                exact fin (va_runV hS2 hM ⟨callB_of (mA e0.1) hts hG rfl rfl rfl hinit (lw_word hts hw) hd3 hR1, hin, lw_word hts hsel⟩ hpre rfl hln hl.1 hstk2 (lv_room (by omega)) hd hcells)
              · rw [if_neg hnest] at hw
                exact fin (va_runVN hS2 hM ⟨va_cnB (mA e0.1) hts hG rfl rfl rfl (hC.2.1 _ (lw_nat_mem hw)) hinit hd3 hR1, hin, lw_word hts hsel⟩ hpre rfl hln hl.1 hstk2 (lv_room (by omega)) hd hcells)
            · cases hg
          · cases hg
      · cases hrec
    · rename_i ix
      cases hkd
      dsimp only at hF hk hw
      have hin : (Cond.static (mY e0.1)).before args s = true := by
        have := lw_word hts w1
        rw [if_pos hF] at this
        exact this
      have hcn : c_n e0.1 = mA e0.1 := by
        unfold c_n
        rw [if_pos hF, Nat.add_zero]
      have hpre : PreS s H (PcK D cT B b L xs as A) (as.map (cV B b)) := ⟨PcK_blind, hCU⟩
      have hln : (as.map (cV B b)).length = mA e0.1 := by
        rw [List.length_map, hlen, hcn]
      by_cases hnest : e0.2.1 = 0
      · rw [if_pos hnest] at hw
        exact fin (va_runS hS2 hM ⟨callB_of (mA e0.1) hts hG rfl rfl rfl hinit (lw_word hts hw) hd3 hR1, hin⟩ hpre rfl hln hl.1 hstk (lv_room (by omega)) hd hcells)
      · rw [if_neg hnest] at hw
        exact fin (va_runSN hS2 hM ⟨va_cnB (mA e0.1) hts hG rfl rfl rfl (hC.2.1 _ (lw_nat_mem hw)) hinit hd3 hR1, hin, trivial⟩ hpre rfl hln hl.1 hstk (lv_room (by omega)) hd hcells)
    · rename_i ix
      cases hkd
      dsimp only at hF hk hw
      obtain ⟨hnm2, hret⟩ := hini hF
      have hin : (Cond.instanceMethod (mY e0.1)).before args s = true := by
        have := lw_word hts w1
        rw [if_neg (by omega)] at this
        exact this
      unfold c_rec at hrec
      rw [if_neg (by omega)] at hrec
      have hcn : c_n e0.1 = mA e0.1 + 1 := by
        unfold c_n
        rw [if_neg (by omega)]
      split at hrec
      · rename_i cc as2
        have hpre : PreS s H (PcK D cT B b L xs (.ref cc :: as2) A) (.ref (adr B b cc) :: as2.map (cV B b)) := ⟨PcK_blind, hCU⟩
        have hstk2 : st.map (cV B b) = (as2.map (cV B b)).reverse ++ .ref (adr B b cc) :: rest.map (cV B b) := by
          rw [hstk, List.map_cons, List.reverse_cons, List.append_assoc]
          rfl
        have hln : (as2.map (cV B b)).length = mA e0.1 := by
          rw [List.length_map]
          rw [List.length_cons] at hlen
          omega
        have hwk : wsK e0.1 = Cond.code (mY e0.1) (mC e0.1) (mL e0.1) none :: lw_g := by
          unfold wsK
          rw [hret]
        by_cases hnest : e0.2.1 = 0
        · rw [if_pos hnest] at hw
          exact fin (va_runI hS2 hM ⟨callB_of (mA e0.1) hts hG hwk rfl rfl hinit (lw_word hts hw) hd3 hR1, hnm2, hin⟩ hpre rfl hln hl.1 hstk2 (lv_room (by omega)) hd hcells)
        · rw [if_neg hnest] at hw
          exact fin (va_runIN hS2 hM ⟨va_cnB (mA e0.1) hts hG hwk rfl rfl (hC.2.1 _ (lw_nat_mem hw)) hinit hd3 hR1, hnm2, hin⟩ hpre rfl hln hl.1 hstk2 (lv_room (by omega)) hd hcells)
      · cases hrec
    · cases hkd
  · cases h
end SND
