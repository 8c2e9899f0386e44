/-! the abstract machine is true to the machine: cells -/
def wE (cT : Nat → ClassId) (B b : Nat) (x : aC) : va_E := match x with
  | .inl (t, n, .inl f) => .inl (cT t, n, .inl f)
  | .inl (t, n, .inr f) => .inl (cT t, n, .inr (.inr (.inr (.inr (fun i => (f i).map (adr B b))))))
  | .inr (ci, fs) => .inr (ci, fs.map (cV B b))
def wL (cT : Nat → ClassId) (B b : Nat) (A : aH) : va_W := A.mapIdx (fun i x => (B + i, wE cT B b x))
def tyF (cT : Nat → ClassId) : List (ClassId × FieldType) := [(cT 0, .int), (cT 1, .boolean), (cT 2, .object RX2), (cT 3, .object RX0)]
theorem wL_get {cT : Nat → ClassId} {B b : Nat} {A : aH} {c : Nat} {x : aC} (h : A[c]? = some x) : (wL cT B b A)[c]? = some (B + c, wE cT B b x) := by
  unfold wL
  rw [List.getElem?_mapIdx, h]
  rfl
theorem wL_inv {cT : Nat → ClassId} {B b : Nat} {A : aH} {c : Nat} {q : Nat × va_E} (h : (wL cT B b A)[c]? = some q) : ∃ x, A[c]? = some x ∧ q = (B + c, wE cT B b x) := by
  unfold wL at h
  rw [List.getElem?_mapIdx] at h
  cases hc : A[c]? with
  | none => rw [hc] at h; cases h
  | some x => rw [hc] at h; cases h; exact ⟨x, rfl, rfl⟩
theorem wL_set {cT : Nat → ClassId} {B b : Nat} {A : aH} {c : Nat} {x : aC} : (wL cT B b A).set c (B + c, wE cT B b x) = wL cT B b (A.set c x) := by
  apply List.ext_getElem?
  intro i
  unfold wL
  rw [List.getElem?_set, List.getElem?_mapIdx, List.getElem?_mapIdx, List.getElem?_set, List.length_mapIdx]
  by_cases h : c = i
  · subst h
    by_cases h2 : c < A.length
    · simp [h2]
    · simp [h2]
  · simp [h]
theorem wL_push {cT : Nat → ClassId} {B b : Nat} {A : aH} {x : aC} : wL cT B b A ++ [(B + A.length, wE cT B b x)] = wL cT B b (A ++ [x]) := by
  unfold wL
  rw [List.mapIdx_append]
  simp
theorem wL_len {cT : Nat → ClassId} {B b : Nat} {A : aH} : (wL cT B b A).length = A.length := List.length_mapIdx
def Ab (B : Nat) : Nat → Prop := fun q => B ≤ q
theorem wL_D {cT : Nat → ClassId} {B b : Nat} {A : aH} : va_D (Ab B) (wL cT B b A) := by
  refine ⟨fun i j p q hi hj hpq => ?_, fun k q h => ?_⟩
  · obtain ⟨x, -, rfl⟩ := wL_inv hi
    obtain ⟨y, -, rfl⟩ := wL_inv hj
    dsimp only at hpq
    omega
  · obtain ⟨x, -, rfl⟩ := wL_inv h
    exact Nat.le_add_right B k
theorem adr_ne {B b c : Nat} (h : ¬ c = SC) : adr B b c = B + c := if_neg h
theorem cV_rf {B b : Nat} (o : Option Nat) : cV B b (va_rf o) = va_rf (o.map (adr B b)) := by
  cases o <;> rfl
theorem cl_at : ∀ c, c < 6 → vwCl[c]? = some (cRn c, cTf c, cNn c) := by
  intro c h
  match c, h with
  | 0, _ => rfl
  | 1, _ => rfl
  | 2, _ => rfl
  | 3, _ => rfl
  | 4, _ => rfl
  | 5, _ => rfl
theorem cl_ws : ∀ c, c < 6 → ∀ w ∈ u_ws (cRn c) (cTf c) (cNn c), w ∈ lw_g := by
  intro c h w hw
  have h1 := List.all_eq_true.mp wd_cls c (List.mem_range.mpr h)
  have h2 := List.all_eq_true.mp h1 w hw
  simp only [Bool.and_eq_true, decide_eq_true_eq] at h2
  exact List.mem_filter.mpr h2
theorem cl_ty : ∀ c, c < 6 → ∀ k, k < cNn c → parseFieldDescriptor (cTf c k).2.2.1 = some (cTy c k) := by
  intro c h
  match c, h with
  | 0, _ => exact tyX0_ok
  | 1, _ => exact tyX1_ok
  | 2, _ => exact tyX2_ok
  | 3, _ => exact tyX3_ok
  | 4, _ => exact tyX4_ok
  | 5, _ => exact tyX5_ok
theorem cl_nm : ∀ c, c < 6 → ∀ a, a < cNn c → ∀ b, b < cNn c → a ≠ b → (cTf c a).2.1 ≠ (cTf c b).2.1 := by
  intro c h
  match c, h with
  | 0, _ => exact nmX0
  | 1, _ => exact nmX1
  | 2, _ => exact nmX2
  | 3, _ => exact nmX3
  | 4, _ => exact nmX4
  | 5, _ => exact nmX5
def HR (D : va_G) (cT : Nat → ClassId) (B b : Nat) (A : aH) (H : Heap) : Prop := va_P D vwCl (wL cT B b A) H
def Cx (D : va_G) (cT : Nat → ClassId) (B b L : Nat) (xs : Nat → Int32) (U : State) : Prop := va_K D vwCl (tyF cT) U ∧ (∀ w ∈ lw_n, va_Nw w U) ∧ va_X b L xs U U.heap ∧ b < B
def slC (x : aC) : Nat := match x with
  | .inl (_, n, _) => n
  | .inr (ci, _) => cNn ci
def slA (A : aH) : Nat := (A.map slC).sum
theorem slA_set {A : aH} {c : Nat} {x y : aC} (h : A[c]? = some x) (e : slC y = slC x) : slA (A.set c y) = slA A := by
  unfold slA
  rw [List.map_set, e]
  congr 1
  apply List.ext_getElem?
  intro i
  rw [List.getElem?_set]
  by_cases hi : c = i
  · subst hi
    simp only [if_true, List.length_map, List.getElem?_map, h, Option.map_some]
    rw [if_pos (List.getElem?_eq_some_iff.mp h).1]
  · rw [if_neg hi]
theorem slA_push {A : aH} {x : aC} : slA (A ++ [x]) = slA A + slC x := by
  simp [slA]
theorem f_ok_ty {B b : Nat} {ty : FieldType} {v : Value} (h : f_ok ty v = true) : narrow ty (cV B b v) = cV B b v ∧ fits ty (cV B b v) = true := by
  unfold f_ok at h
  split at h
  · exact ⟨rfl, rfl⟩
  · rename_i x
    simp only [Bool.or_eq_true, decide_eq_true_eq] at h
    rcases h with rfl | rfl
    · show narrow .boolean (.int 0) = .int 0 ∧ fits .boolean (.int 0) = true
      decide
    · show narrow .boolean (.int 1) = .int 1 ∧ fits .boolean (.int 1) = true
      decide
  · exact ⟨rfl, rfl⟩
  · exact ⟨rfl, rfl⟩
  · cases h
theorem d_f_ty (ty : FieldType) (h : (match ty with | .int => true | .boolean => true | .object _ => true | .array _ => true | _ => false) = true) : defaultValue ty = d_f ty := by
  cases ty <;> first | rfl | (cases h)
section SND
variable {p : Program} {l : Launch} {e : Env} {R : Room} {s : State} {m : MethodId} {args : Array Value} {below : List Frame} {meth : Method} {c : Code} {H : Heap} {locs : List Loc} {cells slots : Nat} {Q : State → Prop}
theorem W.size {g : JFrame} (k : H.size ≤ s.heap.size + cells → W p l e R s m args below meth c H locs cells slots Q g) : W p l e R s m args below meth c H locs cells slots Q g := by
  intro T hT X
  exact k (by rw [← hT]; exact X.same.2.2.1) T hT X
theorem HR_lo {D : va_G} {cT : Nat → ClassId} {B b : Nat} {A : aH} (h : HR D cT B b A H) (h0 : B ≤ H.size) : B + A.length ≤ H.size := by
  cases hn : A.length with
  | zero => exact h0
  | succ n =>
    have h1 : ∃ x, A[n]? = some x := ⟨A[n]'(by omega), List.getElem?_eq_getElem (by omega)⟩
    obtain ⟨x, hx⟩ := h1
    have h2 := (h n _ (wL_get hx)).lt
    dsimp only at h2
    omega

theorem nbool_of {o i : Nat} {e : Nat × Nat × Nat × Nat} (h : kG ntb o i = some e) : lw_at e.2.2.2 (.classLink (cRn o) i (cRn e.1)) = true ∧ e.1 < 6 := by
  have h1 := List.all_eq_true.mp ntb_ok _ (kG_mem h)
  simp only [nbool, Bool.and_eq_true, decide_eq_true_eq] at h1
  exact h1
theorem fbool_of {o i : Nat} {e : Nat × Nat × Nat × Nat} (h : kG ftb o i = some e) : (if e.2.2.1 = 0 then lw_at e.2.2.2 (fwd (o, i, e)) else lw_nat e.2.2.2 (fwd (o, i, e))) = true ∧ e.1 < 6 ∧ e.2.1 < cNn e.1 ∧ (cTf e.1 e.2.1).1 = cRn e.1 := by
  have h1 := List.all_eq_true.mp ftb_ok _ (kG_mem h)
  simp only [fbool, Bool.and_eq_true, decide_eq_true_eq] at h1
  exact ⟨h1.1.1.1, h1.1.1.2, h1.1.2, h1.2⟩
theorem inst_of : ∀ c, c < 6 → Cond.instantiable (cRn c) (cNn c) ∈ lw_g := by
  intro c h
  have h1 := List.all_eq_true.mp wd_inst
  match c, h with
  | 0, _ => exact lw_at_mem (h1 (82, 0) (by decide))
  | 1, _ => exact lw_at_mem (h1 (142, 1) (by decide))
  | 2, _ => exact lw_at_mem (h1 (66, 2) (by decide))
  | 3, _ => exact lw_at_mem (h1 (114, 3) (by decide))
  | 4, _ => exact lw_at_mem (h1 (58, 4) (by decide))
  | 5, _ => exact lw_at_mem (h1 (557, 5) (by decide))
theorem init_of : ∀ c, c < 6 → Cond.initialized (cRn c) ∈ lw_g := by
  intro c h
  have h1 := List.all_eq_true.mp wd_init
  match c, h with
  | 0, _ => exact lw_at_mem (h1 (52, 0) (by decide))
  | 1, _ => exact lw_at_mem (h1 (54, 1) (by decide))
  | 2, _ => exact lw_at_mem (h1 (51, 2) (by decide))
  | 3, _ => exact lw_at_mem (h1 (53, 3) (by decide))
  | 4, _ => exact lw_at_mem (h1 (50, 4) (by decide))
  | 5, _ => exact lw_at_mem (h1 (55, 5) (by decide))
theorem d_fs {B b : Nat} : ∀ c, c < 6 → ∀ j, j < cNn c → defaultValue (cTy c j) = vp_V (((List.range (cNn c)).map (fun s => d_f (cTy c s))).map (cV B b)) j := by
  intro c hc j hj
  have h1 : ((List.range (cNn c)).map (fun s => d_f (cTy c s)))[j]? = some (d_f (cTy c j)) := by
    rw [List.getElem?_map, List.getElem?_range hj]
    rfl
  unfold vp_V
  rw [List.getD_eq_getElem?_getD, List.getElem?_map, h1]
  have h2 : ∀ c, c < 6 → ∀ j, j < cNn c → (match cTy c j with | .int => true | .boolean => true | .object _ => true | .array _ => true | _ => false) = true := by decide +kernel
  have h3 := d_f_ty _ (h2 c hc j hj)
  rw [h3]
  cases cTy c j <;> rfl
/-- one step over the cells -/
theorem hsnd_get {D : va_G} {cT : Nat → ClassId} {B b k L : Nat} {xs : Nat → Int32} {ix len pc : Nat} {st : List Value} {A : aH} {q : List Value × aH} {lc : Array Slot}
    (hx : p.tables.exec = Jvm.exec) (hb : c.code = mC k) (hown : s.vm.findClass (cRn (mO k)) = some m.cls) (hts : ∀ w ∈ lw_g, w.before args s = true) (hC : Cx D cT B b L xs s)
    (hd : decode (mC k) pc = .ok (.getfield ix, len)) (h : hstep (o1 L xs) k (.getfield ix) len st A = some q) (hH : HR D cT B b A H)
    (kk : q.2 = A → W p l e R s m args below meth c H locs cells slots Q (F0 m (pc + len) lc (q.1.map (cV B b)))) :
    W p l e R s m args below meth c H locs cells slots Q (F0 m pc lc (st.map (cV B b))) := by
  unfold hstep at h
  dsimp only at h
  split at h
  · rename_i cc r
    split at h
    · rename_i hlen
      subst hlen
      cases hk : kG ftb (mO k) ix with
      | none => rw [hk] at h; cases h
      | some e0 =>
        rw [hk] at h
        obtain ⟨hw, hci, hsl, hT⟩ := fbool_of hk
        obtain ⟨ci, sl, nest, wd⟩ := e0
        dsimp only at hw hci hsl hT
        change (g1 A cc ci sl).map (fun v => (v :: r, A)) = some q at h
        cases hg : g1 A cc ci sl with
        | none => rw [hg] at h; cases h
        | some v =>
          rw [hg] at h
          cases h
          unfold g1 at hg
          split at hg
          · rename_i ci' fs hA
            split at hg
            · rename_i hc2
              obtain ⟨rfl, hSC⟩ := hc2
              have he := wL_get (cT := cT) (B := B) (b := b) hA
              have hv : (fs.map (cV B b))[sl]? = some (cV B b v) := by rw [List.getElem?_map, hg]; rfl
              show W p l e R s m args below meth c H locs cells slots Q (F0 m pc lc (.ref (adr B b cc) :: r.map (cV B b)))
              rw [adr_ne hSC]
              have k2 := kk rfl
              by_cases hn : nest = 0
              · rw [if_pos hn] at hw
                unfold fwd at hw
                rw [if_pos hn] at hw
                exact va_get hx hb hts (cl_ws _ hci) hown hC.1 hH cc he (cl_at _ hci) sl hsl (lw_word hts hw) (fun z hz => by rw [hT] at hz; exact hz) hv hd k2
              · rw [if_neg hn] at hw
                unfold fwd at hw
                rw [if_neg hn] at hw
                exact va_getN hx hb hts (cl_ws _ hci) hown hC.1 hH cc he (cl_at _ hci) sl hsl (va_Nw.use rfl (hC.2.1 _ (lw_nat_mem hw))) (fun z hz => by rw [hT] at hz; exact hz) hv hd k2
            · cases hg
          · cases hg
    · cases h
  · cases h
theorem hsnd_put {D : va_G} {cT : Nat → ClassId} {B b k L : Nat} {xs : Nat → Int32} {ix len pc : Nat} {st : List Value} {A : aH} {q : List Value × aH} {lc : Array Slot}
    (hx : p.tables.exec = Jvm.exec) (hb : c.code = mC k) (hown : s.vm.findClass (cRn (mO k)) = some m.cls) (hts : ∀ w ∈ lw_g, w.before args s = true) (hC : Cx D cT B b L xs s) (hnm : mF k = 2 → meth.name = "<init>")
    (hd : decode (mC k) pc = .ok (.putfield ix, len)) (h : hstep (o1 L xs) k (.putfield ix) len st A = some q) (hH : HR D cT B b A H) (hS : va_S (Ab B) s.heap H locs)
    (kk : ∀ H' locs', HR D cT B b q.2 H' → va_S (Ab B) s.heap H' locs' → q.2.length = A.length → slA q.2 = slA A → W p l e R s m args below meth c H' locs' cells slots Q (F0 m (pc + len) lc (q.1.map (cV B b)))) :
    W p l e R s m args below meth c H locs cells slots Q (F0 m pc lc (st.map (cV B b))) := by
  unfold hstep at h
  dsimp only at h
  split at h
  · rename_i v cc r
    split at h
    · rename_i hlen
      subst hlen
      cases hk : kG ftb (mO k) ix with
      | none => rw [hk] at h; cases h
      | some e0 =>
        rw [hk] at h
        obtain ⟨hw, hci, hsl, hT⟩ := fbool_of hk
        obtain ⟨ci, sl, nest, wd⟩ := e0
        dsimp only at hw hci hsl hT
        rw [Option.bind_some] at h
        dsimp only at h
        split at h
        · rename_i hfin
          change (f1 A cc ci sl v).map (fun A' => (r, A')) = some q at h
          cases hg : f1 A cc ci sl v with
          | none => rw [hg] at h; cases h
          | some A' =>
            rw [hg] at h
            cases h
            unfold f1 at hg
            split at hg
            · rename_i ci' fs hA
              split at hg
              · rename_i hc2
                obtain ⟨rfl, hSC, hlt, hok⟩ := hc2
                cases hg
                have he := wL_get (cT := cT) (B := B) (b := b) hA
                obtain ⟨hn1, hn2⟩ := f_ok_ty (B := B) (b := b) hok
                have hset : ∀ H', va_P D vwCl ((wL cT B b A).set cc (B + cc, .inr (ci', (fs.map (cV B b)).set sl (cV B b v)))) H' → HR D cT B b (A.set cc (.inr (ci', fs.set sl v))) H' := by
                  intro H' hP
                  have e1 : (.inr (ci', (fs.map (cV B b)).set sl (cV B b v)) : va_E) = wE cT B b (.inr (ci', fs.set sl v)) := by
                    show (Sum.inr (ci', (fs.map (cV B b)).set sl (cV B b v)) : va_E) = Sum.inr (ci', (fs.set sl v).map (cV B b))
                    rw [List.map_set]
                  rw [e1, wL_set] at hP
                  exact hP
                have k2 : ∀ H' locs', va_P D vwCl ((wL cT B b A).set cc (B + cc, .inr (ci', (fs.map (cV B b)).set sl (cV B b v)))) H' → va_D (Ab B) ((wL cT B b A).set cc (B + cc, .inr (ci', (fs.map (cV B b)).set sl (cV B b v)))) → va_S (Ab B) s.heap H' locs' → W p l e R s m args below meth c H' locs' cells slots Q (F0 m (pc + 3) lc (r.map (cV B b))) :=
                  fun H' locs' hP _ hS' => kk H' locs' (hset H' hP) hS' (List.length_set ..) (slA_set hA rfl)
                show W p l e R s m args below meth c H locs cells slots Q (F0 m pc lc (cV B b v :: .ref (adr B b cc) :: r.map (cV B b)))
                rw [adr_ne hSC]
                by_cases hn : nest = 0
                · rw [if_pos hn] at hw
                  unfold fwd at hw
                  rw [if_pos hn] at hw
                  by_cases hfi : (cTf ci' sl).2.2.2 = false
                  · exact va_put hx hb hts (cl_ws _ hci) (cTy ci') (cl_ty _ hci) (cl_nm _ hci) hown hC.1 hH wL_D hS cc he (cl_at _ hci) sl hsl (lw_word hts hw) (fun z hz => by rw [hT] at hz; exact hz) hfi (cl_ty _ hci sl hsl) hn1 hn2 (by rw [List.length_map]; exact hlt) hd k2
                  · rcases hfin with hfin | ⟨hf1, hf2, -⟩
                    · exact absurd hfin hfi
                    · exact va_putF hx hb hts (cl_ws _ hci) (cTy ci') (cl_ty _ hci) (cl_nm _ hci) hown hC.1 hH wL_D hS cc he (cl_at _ hci) sl hsl (lw_word hts hw) (fun z hz => by rw [hT] at hz; exact hz) (by simpa using hfi) (hnm hf1) (by rw [hT, hf2]) (cl_ty _ hci sl hsl) hn1 hn2 (by rw [List.length_map]; exact hlt) hd k2
                · rw [if_neg hn] at hw
                  unfold fwd at hw
                  rw [if_neg hn] at hw
                  rcases hfin with hfi | ⟨-, -, hf3⟩
                  · exact va_putN hx hb hts (cl_ws _ hci) (cTy ci') (cl_ty _ hci) (cl_nm _ hci) hown hC.1 hH wL_D hS cc he (cl_at _ hci) sl hsl (va_Nw.use rfl (hC.2.1 _ (lw_nat_mem hw))) (fun z hz => by rw [hT] at hz; exact hz) hfi (cl_ty _ hci sl hsl) hn1 hn2 (by rw [List.length_map]; exact hlt) hd k2
                  · exact absurd hf3 hn
              · cases hg
            · cases hg
        · cases h
    · cases h
  · cases h
end SND
