/-! the tables are right: each entry's word stands in lw_tbl at its place -/
def isNestW : Cond → Bool
  | .fieldLinkNest .. => true
  | .methodLinkNest .. => true
  | .arrayOver (.object _) => true
  | _ => false
def lw_g : List Cond := lw_tbl.filter goodWord
def lw_n : List Cond := lw_tbl.filter isNestW
def lw_at (i : Nat) (w : Cond) : Bool := decide (lw_tbl[i]? = some w) && goodWord w
def lw_nat (i : Nat) (w : Cond) : Bool := decide (lw_tbl[i]? = some w) && isNestW w
theorem lw_at_mem {i : Nat} {w : Cond} (h : lw_at i w = true) : w ∈ lw_g := by
  simp only [lw_at, Bool.and_eq_true, decide_eq_true_eq] at h
  exact List.mem_filter.mpr ⟨List.mem_of_getElem? h.1, h.2⟩
theorem lw_nat_mem {i : Nat} {w : Cond} (h : lw_nat i w = true) : w ∈ lw_n := by
  simp only [lw_nat, Bool.and_eq_true, decide_eq_true_eq] at h
  exact List.mem_filter.mpr ⟨List.mem_of_getElem? h.1, h.2⟩
theorem lw_g_good : GoodIn lw_g lw_g := fun w hw => ⟨hw, good_of_word (List.mem_filter.mp hw).2⟩
theorem lw_n_nest : ∀ w ∈ lw_n, isNestW w = true := fun w hw => (List.mem_filter.mp hw).2
def fwd (e : Nat × Nat × Nat × Nat × Nat × Nat) : Cond :=
  if e.2.2.2.2.1 = 0 then .fieldLink (cRn e.1) e.2.1 (cRn e.2.2.1) (cTf e.2.2.1 e.2.2.2.1).2.1 (cTf e.2.2.1 e.2.2.2.1).2.2.1
  else .fieldLinkNest (cRn e.1) e.2.1 (cRn e.2.2.1) (cTf e.2.2.1 e.2.2.2.1).2.1 (cTf e.2.2.1 e.2.2.2.1).2.2.1 "KnotSigns"
def fbool (e : Nat × Nat × Nat × Nat × Nat × Nat) : Bool := (if e.2.2.2.2.1 = 0 then lw_at e.2.2.2.2.2 (fwd e) else lw_nat e.2.2.2.2.2 (fwd e)) && decide (e.2.2.1 < 6) && decide (e.2.2.2.1 < cNn e.2.2.1) && decide ((cTf e.2.2.1 e.2.2.2.1).1 = cRn e.2.2.1)
set_option maxRecDepth 100000 in
theorem ftb_ok : ftb.all fbool = true := by decide +kernel
def cwd (e : Nat × Nat × Nat × Nat × Nat × Nat) : Cond :=
  if e.2.2.2.1 = 0 then .methodLink (cRn e.1) e.2.1 (mY e.2.2.1) else .methodLinkNest (cRn e.1) e.2.1 (mY e.2.2.1) "KnotSigns"
def cbool (e : Nat × Nat × Nat × Nat × Nat × Nat) : Bool := (if e.2.2.2.1 = 0 then lw_at e.2.2.2.2.2 (cwd e) else lw_nat e.2.2.2.2.2 (cwd e)) && decide (e.2.2.1 < 150)
set_option maxRecDepth 100000 in
theorem ctb_ok : ctb.all cbool = true := by decide +kernel
def kbool (e : Nat × Nat × Nat × Nat × Nat × Nat) : Bool := lw_at e.2.2.2.2.2 (.constant (cRn e.1) e.2.1 (Int32.ofNat e.2.2.1))
set_option maxRecDepth 100000 in
theorem ktb_ok : ktb.all kbool = true := by decide +kernel
def nbool (e : Nat × Nat × Nat × Nat × Nat × Nat) : Bool := lw_at e.2.2.2.2.2 (.classLink (cRn e.1) e.2.1 (cRn e.2.2.1)) && decide (e.2.2.1 < 6)
set_option maxRecDepth 100000 in
theorem ntb_ok : ntb.all nbool = true := by decide +kernel
def jnm (j : Nat) : MethodName := if j = 0 then Lib.Math.min.name else if j = 1 then Lib.Math.max.name else Lib.Math.abs.name
def jbool (e : Nat × Nat × Nat × Nat × Nat × Nat) : Bool := lw_at e.2.2.2.2.2 (.methodLink (cRn e.1) e.2.1 (jnm e.2.2.1)) && decide (e.2.2.1 < 3)
set_option maxRecDepth 100000 in
theorem jtb_ok : jtb.all jbool = true := by decide +kernel
def obool (e : Nat × Nat × Nat × Nat × Nat × Nat) : Bool := lw_at e.2.2.2.2.2 (.methodLink (cRn e.1) e.2.1 Lib.objectInit)
set_option maxRecDepth 100000 in
theorem otb_ok : otb.all obool = true := by decide +kernel
def mbool (k : Nat) : Bool := match mpl[k]? with
  | none => false
  | some q => lw_at q.2.1 (if mF k = 1 then .static (mY k) else .instanceMethod (mY k)) && (if mF k = 0 then lw_at q.2.2.1 (.selects (mY k).cls (mY k) (mY k)) else true) && lw_at q.2.2.2 (.initialized (mY k).cls)
   && decide ((mY k).cls = cRn (mO k)) && plainName (mY k).cls && decide ((mY k).cls ≠ "java/lang/invoke/MethodHandle") && decide ((mY k).cls ≠ "java/lang/invoke/VarHandle") && decide ((parseMethodDescriptor (mY k).desc).map (fun d => d.parameters.length) = some (mA k)) && (if mF k = 2 then decide ((mY k).name = "<init>") && decide (mR k = none) else true) && decide (mL k ≤ 20)
set_option maxRecDepth 100000 in
theorem mt_ok : (List.range 150).all mbool = true := by decide +kernel
set_option maxRecDepth 100000 in
theorem wd_obj : (lw_at 63 (.instanceMethod Lib.objectInit) && lw_at 64 (.code Lib.objectInit ⟨#[0xb1]⟩ 1 none)) = true := by decide +kernel
set_option maxRecDepth 100000 in
theorem wd_math : (lw_at 56 (.initialized "java/lang/Math") && lw_at 367 (.static Lib.Math.min.name) && lw_at 368 (.code Lib.Math.min.name Lib.Math.min.code 2 (some .int)) && lw_at 399 (.static Lib.Math.max.name) && lw_at 400 (.code Lib.Math.max.name Lib.Math.max.code 2 (some .int)) && lw_at 336 (.static Lib.Math.abs.name) && lw_at 337 (.code Lib.Math.abs.name Lib.Math.abs.code 1 (some .int))) = true := by decide +kernel
set_option maxRecDepth 100000 in
theorem wd_arr : (lw_at 80 (.arrayClass .int) && lw_at 111 (.arrayClass .boolean) && lw_nat 88 (.arrayOver (.object RX2)) && lw_nat 112 (.arrayOver (.object RX0))) = true := by decide +kernel
set_option maxRecDepth 100000 in
theorem wd_inst : (([82, 142, 66, 114, 58, 557] : List Nat).zipIdx.all fun q => lw_at q.1 (.instantiable (cRn q.2) (cNn q.2))) = true := by decide +kernel
set_option maxRecDepth 100000 in
theorem wd_init : (([52, 54, 51, 53, 50, 55] : List Nat).zipIdx.all fun q => lw_at q.1 (.initialized (cRn q.2))) = true := by decide +kernel
set_option maxRecDepth 100000 in
theorem wd_cls : ((List.range 6).all fun c => (u_ws (cRn c) (cTf c) (cNn c)).all (fun w => decide (w ∈ lw_tbl) && goodWord w)) = true := by decide +kernel
