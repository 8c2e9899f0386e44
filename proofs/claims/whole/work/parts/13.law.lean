/-! THE CLAIM OUT OF ONE WALK OF THE LAW'S BODY. Your part is whole_start (and what it stands on); all else here is the same for every law, but numbers. -/
def R_law : String := "KnotSignsLaw"
def lw_P (b : Addr) (xs : List Int32) (args : Array Value) (s : State) : Prop := args = #[.ref b] ∧ s.IntsAt b xs ∧ xs.length ≤ 320 ∧ (Jvm.Cond.and given_1 narrow_1).before args s = true
def lw_Q (_ : Array Value) (s : State) (o : Outcome) (t : State) : Prop := o = .returned (some (.int 1)) ∧ Framed s o t [] 600000 7302250
def lw_Z (below : List Frame) (a : Array Value) (s : State) : State → Prop := fun t => ∃ o, t.status = .running ∧ Ended t below o ∧ lw_Q a s o t
/-- the law's own end, with 1 on the stack, nothing written that was there before, its room as the claim has it -/
theorem lw_ret {p : Program} {l : Launch} {e : Env} {s : State} {m : MethodId} {below : List Frame} {meth : Method} {c : Code} {b : Nat} (hx : p.tables.exec = Jvm.exec) (hb : c.code = code) (hr : meth.sig.returnType = ret) (hlocks : meth.locks = false) {pc : Nat} {H : Heap} {ls : Array Slot} (hdg : decode code pc = .ok (.ireturn, 1)) : W p l e room_1 s m #[Value.ref b] below meth c H [] 600000 7302250 (lw_Z below #[Value.ref b] s) (F0 m pc ls [.int 1]) := by
  intro T hT X
  obtain ⟨fs, hret, hrun, hended, hW, hframe⟩ := X.leave (v := some (.int 1)) (hlocks := hlocks) (fun h => by rw [hr] at h; cases h)
  have hmeth' : T.vm.method? m = some meth := X.method'
  refine ⟨T.setFrames fs, ?_, .returned (some (.int 1)), hrun, hended, rfl, ⟨_, rfl⟩, hW, hframe⟩
  jvm_step X.here [X.here.top, hx, hb, hdg, hmeth', hr, ret, narrow_b1]
  (try refine ⟨rfl, ?_⟩); (try refine ⟨rfl, ?_⟩)
  first | (intro acts; rw [hret _ acts rfl rfl rfl]) | rw [hret _ _ rfl rfl rfl]
  exact Steps.refl _
/-- what holds at the law's entry: the machine, the code, the tables' words (any of lw_tbl by 'hts w (by decide +kernel)'), the script of L ints xs at the cell b, what the Statement gives of the start (any of its parts by flat_of_before) -/
def lw_At (p : Program) (s : State) (m : MethodId) (meth : Method) (c : Code) (b L : Nat) (xs : Nat → Int32) : Prop :=
  p.tables.exec = Jvm.exec ∧ c.code = code ∧ meth.sig.returnType = ret ∧ c.maxLocals = 4 ∧ s.vm.findClass R_law = some m.cls ∧ (∀ w ∈ lw_tbl, w.before #[Value.ref b] s = true) ∧ va_X b L xs s s.heap ∧ b < s.heap.size ∧ meth.locks = false ∧ (Jvm.Cond.and given_1 narrow_1).before #[Value.ref b] s = true

section SND
variable {p : Program} {l : Launch} {e : Env} {R : Room} {s : State} {m : MethodId} {args : Array Value} {below : List Frame} {meth : Method} {c : Code} {H : Heap} {locs : List Loc} {cells slots : Nat} {Q : State → Prop}
theorem arr_known {ty : FieldType} (hts : ∀ w ∈ lw_g, w.before args s = true) (hm : Cond.arrayClass ty ∈ lw_g) (hn : (match ty with | .object _ => false | _ => true) = true) : ∃ cA : ClassId, ArrOfT s cA ty ∧ va_RA s cA ty := by
  obtain ⟨cA, kA, comp, h1, h2, h3⟩ := Cond.arrayClass_spec (hts _ hm)
  refine ⟨cA, fun n z => ⟨fun k h => (by cases h), kA, h2, comp, h3⟩, ?_⟩
  cases ty <;> first | exact h1 | (cases hn)
theorem aro_known {C : String} (h : va_AO C s) : ∃ cA : ClassId, ArrOfT s cA (.object C) ∧ va_RA s cA (.object C) := by
  obtain ⟨comp, c, k, h1, h2, h3, h4, h5⟩ := Cond.arrayOver_spec h
  exact ⟨c, fun N z => ⟨(fun k h => by cases h), k, h3, comp, h4⟩, k, comp, h3, h4, h1, h5⟩
/-- the law's walk out of one run of the abstract machine -/
theorem start_of {L b : Nat} {xs : Nat → Int32} (C0 : lw_At p s m meth c b L xs) {d n : Nat} {A' : aH} (hd : d ≤ 1000)
    (hrun : ex (o1 L xs) d n 150 0 (c_ent 150 [.ref SC]) [] [] = some (some (.int 1), A')) (h1 : A'.length ≤ 600000) (h2 : slA A' ≤ 7302250) :
    W p l e room_1 s m #[Value.ref b] below meth c s.heap [] 0 0 (lw_Z below #[Value.ref b] s) (entryFrame m ([Value.ref b] : List Value).toArray 4) := by
  obtain ⟨hx, hb, hr, hml, hown, hts0, hX, hbl, hlocks, hgv⟩ := id C0
  have hts : ∀ w ∈ lw_g, w.before #[Value.ref b] s = true := fun w hw => hts0 w (List.mem_filter.mp hw).1
  have hkn : ∀ k, k < 6 → ∃ (cC : ClassId) (iS : Nat → Nat), u_Kn s (cRn k) (cTf k) (cNn k) cC iS := fun k hk => u_known hts (cl_ws k hk) (hts _ (inst_of k hk))
  have hD : ∃ D : va_G, ∀ k, k < 6 → u_Kn s (cRn k) (cTf k) (cNn k) (D.1 k) (D.2 k) := by
    refine ⟨(fun k => if h : k < 6 then (hkn k h).choose else 0, fun k => if h : k < 6 then (hkn k h).choose_spec.choose else fun _ => 0), fun k hk => ?_⟩
    dsimp only
    rw [dif_pos hk, dif_pos hk]
    exact (hkn k hk).choose_spec.choose_spec
  obtain ⟨D, hD⟩ := hD
  have wd := wd_arr
  simp only [Bool.and_eq_true] at wd
  have hnw : ∀ w ∈ lw_n, va_Nw w s := by
    intro w hw
    have h0 := hts0 w (List.mem_filter.mp hw).1
    rcases nest_kinds (lw_n_nest w hw) with ⟨a, i, b, n, d, h, rfl⟩ | ⟨a, i, x, h, rfl⟩ | ⟨C, rfl⟩
    · exact va_Nw.of rfl h0
    · exact va_Nw.of rfl h0
    · exact va_AO.of h0
  obtain ⟨cI, hI⟩ := arr_known hts (lw_at_mem wd.1.1.1) rfl
  obtain ⟨cZ, hZ⟩ := arr_known hts (lw_at_mem wd.1.1.2) rfl
  obtain ⟨cR, hR⟩ := aro_known (hnw _ (lw_nat_mem wd.1.2))
  obtain ⟨cC, hC⟩ := aro_known (hnw _ (lw_nat_mem wd.2))
  have hcT : ∃ cT : Nat → ClassId, va_K D vwCl (tyF cT) s := by
    refine ⟨fun k => if k = 0 then cI else if k = 1 then cZ else if k = 2 then cR else cC, fun k q hq => ?_, fun k q hq => ?_⟩
    · have hk : k < 6 := (List.getElem?_eq_some_iff.mp hq).1
      have := cl_at k hk
      rw [this] at hq
      cases hq
      exact hD k hk
    · match k, hq with
      | 0, hq => cases hq; exact hI
      | 1, hq => cases hq; exact hZ
      | 2, hq => cases hq; exact hR
      | 3, hq => cases hq; exact hC
      | k + 4, hq => simp [tyF] at hq
  obtain ⟨cT, hK⟩ := hcT
  have hCx : Cx D cT s.heap.size b L xs s := ⟨hK, hnw, hX, hbl⟩
  have hXc : Ctx p room_1 s m #[Value.ref b] meth c D cT s.heap.size b L xs d 150 0 := ⟨hx, hb, hml, hown, hts, hCx, fun h => absurd h (by decide), (by show d ≤ 2048; omega), (by show 64 * d ≤ 84000; omega), rfl⟩
  have hP0 : HR D cT s.heap.size b [] s.heap := fun k q h => by simp [wL] at h
  have hent := ent_LR (B := s.heap.size) (b := b) (nL := 4) (as := [.ref SC]) rfl (by decide)
  rw [show ([Value.ref SC].map (cV s.heap.size b)) = [Value.ref b] from congrArg (fun z => [Value.ref z]) (if_pos rfl)] at hent
  rw [lg_entry_eq]
  refine SWn (a0 := 0) (s0 := 0) ?_ (by show A'.length ≤ 0 + 600000; omega) (by show slA A' ≤ 0 + 7302250; omega) n (fun i _ => SM_all L xs i) d hXc 0 (c_ent 150 [.ref SC]) [] [] _ s.heap [] 0 0 hrun hent hP0 va_S.rf rfl rfl
  intro pc il lc st H locs cells slots hdd hrs hH' hS' hc' hs'
  obtain ⟨i, len⟩ := il
  dsimp only at hrs
  unfold rstep at hrs
  split at hrs <;> try (cases hrs; done)
  · split at hrs <;> try (cases hrs; done)
    rename_i x
    split at hrs <;> try (cases hrs; done)
    rename_i hcond
    obtain ⟨rfl, -⟩ := hcond
    cases hrs
    refine va_forget hS'.2.2 ?_
    refine W.widen (k := 600000) (n := 7302250) (by omega) (by omega) ?_
    exact lw_ret hx hb hr hlocks hdd
  · split at hrs <;> try (cases hrs; done)
    · split at hrs <;> cases hrs
    · split at hrs <;> cases hrs
  · split at hrs <;> try (cases hrs; done)
    split at hrs <;> cases hrs
end SND
