/-! ===== methods that throw: NoSuchElementException (1), IllegalArgumentException (2) ===== -/
abbrev sv_xn : List String := ["java/lang/RuntimeException", "java/lang/Exception"]
abbrev sv_nse : String := "java/util/NoSuchElementException"
abbrev sv_iae : String := "java/lang/IllegalArgumentException"
def sv_xb (w : Cond) : Bool := match w with
  | .castable _ _ => true
  | .declares _ => true
  | _ => false
/-- the words of 'throw new NoSuchElementException("..")' in SeaReceiver -/
def sv_xN : List Cond := (sv_oa RX8 104 sv_nse "java/lang/RuntimeException" ["java/lang/Exception"] 13 prog_22_method_4_code).filter vx_no
/-- the words of a throw that no method's own list can hold -/
def sv_xw : List Cond := sv_xN.filter (fun w => !goodWord w) ++ (vx_atS RX8 144 sv_iae sv_xn).filter (fun w => !goodWord w)
theorem sv_xw_b : sv_xw.all sv_xb = true := by decide +kernel
theorem sv_xb_warm {w : Cond} (h : sv_xb w = true) {s U : State} (hW : s.WarmedH U.vm) (hZ : va_Nw w s) : va_Nw w U := by
  cases w <;> first | exact va_Nw.warmC hW hZ | exact va_Nw.warmD hW hZ | (simp [sv_xb] at h; done)
theorem sv_xb_same {w : Cond} (h : sv_xb w = true) {u U : State} (he : u.vm = U.vm) (hZ : va_Nw w u) : va_Nw w U := by
  cases w <;> first | exact va_Nw.same rfl he hZ | (simp [sv_xb] at h; done)
theorem sv_xb_use {w : Cond} (h : sv_xb w = true) {A : Array Value} {U : State} (hZ : va_Nw w U) : w.before A U = true := by
  cases w <;> first | exact va_Nw.use rfl hZ | (simp [sv_xb] at h; done)
theorem sv_xw_w {w : Cond} (h : w ∈ sv_xw) : sv_xb w = true := List.all_eq_true.mp sv_xw_b w h
set_option maxRecDepth 20000 in
theorem sv_xg1 : ∀ w ∈ sv_xN.filter goodWord, w ∈ lw_tbl := by decide +kernel
set_option maxRecDepth 20000 in
theorem sv_xg2 : ∀ w ∈ (vx_atS RX8 144 sv_iae sv_xn).filter goodWord, w ∈ lw_tbl := by decide +kernel
theorem sv_xo1 : ∀ w ∈ Cond.classLink RX8 100 sv_nse :: Cond.initialized sv_nse :: sv_xN, vx_ot w = true := by decide +kernel
theorem sv_xo2 : ∀ w ∈ Cond.classLink RX8 140 sv_iae :: Cond.initialized sv_iae :: vx_atS RX8 144 sv_iae sv_xn, vx_ot w = true := by decide +kernel
def sv_Th (A : Nat → Prop) (U : State) (H : Heap) : Prop := vx_Zq Bundle.tN "UNASSIGNED_STACK" Bundle.steD A U H ∧ vx_Zq Bundle.tN "SUPPRESSED_SENTINEL" Bundle.listD A U H
theorem sv_Th.move {A B : Nat → Prop} {s U : State} {H H1 : Heap} (h : sv_Th A s H) (hvm : s.vm.Alike U.vm) (hq : ∀ a : Nat, a < H.size → ¬ A a → H1[a]? = H[a]?) (hAB : ∀ q, B q → A q) : sv_Th B U H1 := ⟨((h.1.moved hvm).kept hq).narrow hAB, ((h.2.moved hvm).kept hq).narrow hAB⟩
def sv_PreT (E : sv_E) (vs : List Value) (wd : va_W) (sz : Nat) : Array Value → State → Prop := fun a U => sv_Pre E [] vs wd sz a U ∧ sv_Th (va_A wd sz) U U.heap ∧ ∀ w ∈ sv_xw, va_Nw w U
def sv_QX (E : sv_E) (wd : va_W) (sz : Nat) (k : Int32) (res : Option Value) (wd' : va_W) : Array Value → State → Outcome → State → Prop := fun a st o t => k = 0 ∧ sv_Q E wd sz res wd' sz a st o t
def sv_XX (E : sv_E) (wd : va_W) (sz : Nat) (k : Int32) (wd' : va_W) : String → State → State → Prop := fun En st t => (k = 1 ∧ En = sv_nse ∨ k = 2 ∧ En = sv_iae) ∧ sz ≤ t.heap.size ∧ va_P E.1 vwCl wd' t.heap ∧ va_D (va_A wd sz) wd' ∧ va_F (va_A wd sz) st t
def sv_MetX (l : Launch) (E : sv_E) (y : MethodName) (cc : ByteArray) (mL : Nat) (rt : Option FieldType) (fr lo : Nat) (vs : List Value) (wd : va_W) (sz : Nat) (k : Int32) (res : Option Value) (wd' : va_W) : Prop :=
  vx_Met l y (Cond.code y cc mL rt :: sv_w) { frames := fr, cells := 1, slots := 6, locals := lo } (sv_PreT E vs wd sz) (sv_QX E wd sz k res wd') (sv_XX E wd sz k wd') 1 6 (va_A wd sz)
def sv_ZX (E : sv_E) (X : sv_X) (rt : Option FieldType) (k : Int32) (res : Option Value) (wd' : va_W) (sz : Nat) : Prop := match X with
  | (_, _, _, _, s, _, args, below, meth, _, Q, A, _) => meth.sig.returnType = rt ∧ (∃ wd, A = va_A wd sz ∧ Q = vx_MQ below (sv_QX E wd sz k res wd') (sv_XX E wd sz k wd') args s 1 6 A)
def sv_CX (X : sv_X) : Prop := match X with
  | (_, l, _, _, s, _, _, _, _, c, _, A, _) => l.stackTraces = false ∧ sv_Th A s s.heap ∧ (∀ w ∈ sv_xw, va_Nw w s) ∧ ∀ x ∈ c.exceptionTable.toList, False
set_option maxHeartbeats 4000000 in
theorem sv_vthrow {p : Program} {l : Launch} {e : Env} {R : Room} {s : State} {m : MethodId} {args : Array Value} {below : List Frame} {meth : Method} {c : Code} {H : Heap} {locs : List Loc} {cells slots : Nat} {free : Addr → Prop} {ls : Array Slot} {rest : List Value} {Qc : Array Value → State → Outcome → State → Prop} {XC : String → State → State → Prop}
    {cc : ByteArray} {pc : Nat} (hexec : p.tables.exec = Jvm.exec) (hb : c.code = cc) (hl : l.stackTraces = false) {own cls text Y1 : String} {r1 : List String} {ik is ic idx mc ms sa : Nat} {bytes : ByteArray} {A : Nat → Prop}
    (b0 : decode bytes 0 = .ok (.aload_n 0, 1)) (b1 : decode bytes 1 = .ok (.aload_n 1, 1)) (b2 : decode bytes 2 = .ok (.invokespecial idx, 3)) (b5 : decode bytes 5 = .ok (.return_, 1))
    (hown : s.vm.findClass own = some m.cls) (hcls : Bundle.fit cls = true) (hnames : ∀ n ∈ Y1 :: r1, Bundle.fit n = true)
    (hk : (Cond.classLink own ik cls).before args s = true) (hini : (Cond.initialized cls).before args s = true) (hstr : vk_R own is text sa s) (hat : ∀ w ∈ (sv_oa own ic cls Y1 r1 idx bytes).filter vx_no, w.before args s = true)
    (hgood : ∀ w ∈ Cond.classLink own ik cls :: Cond.initialized cls :: (sv_oa own ic cls Y1 r1 idx bytes).filter vx_no, vx_ot w = true)
    (hU : vx_Zq Bundle.tN "UNASSIGNED_STACK" Bundle.steD A s s.heap) (hN : vx_Zq Bundle.tN "SUPPRESSED_SENTINEL" Bundle.listD A s s.heap) (hS : va_S A s.heap H locs) (hsize : ls.size = c.maxLocals)
    (d0 : decode cc pc = .ok (.new ik, 3)) (d3 : decode cc (pc + 3) = .ok (.dup, 1)) (d4 : decode cc (pc + 4) = .ok (.ldc is, 2)) (d6 : decode cc (pc + 6) = .ok (.invokespecial ic, 3)) (d9 : decode cc (pc + 9) = .ok (.athrow, 1))
    (hout : ∀ x ∈ c.exceptionTable.toList, covers x (pc + 9) = false)
    (hRframes : (r1.length + 1) + 3 < R.frames) (hRlocals : (rest.map fun v => v.category).sum + (13 * ((r1.length + 1) + 1) + 43) ≤ R.locals) (hRcells : cells + 1 ≤ R.cells) (hRslots : slots + 6 ≤ R.slots) (hlocks : meth.locks = false)
    (hx : ∀ t : State, s.vm.Alike t.vm → H.size ≤ t.heap.size → (∀ q : Nat, q < H.size → t.heap[q]? = H[q]?) → XC cls s t)
    (hf : ∀ z ∈ locs, free z.base) (hc : cells + 1 ≤ mc) (hs : slots + 6 ≤ ms) :
    W p l e R s m args below meth c H locs cells slots (vx_MQ below Qc XC args s mc ms free) (F0 m pc ls rest) := by
  intro T hT X
  have htr : e.platform.stackTraces = false := (show e.platform.stackTraces = l.stackTraces by rw [X.admits.platform]).trans hl
  have Y := vx_rebase X (R' := { frames := R.frames, locals := R.locals, cells := 1, slots := 6 }) (Nat.le_refl _) (Nat.le_refl _) hRcells hRslots
  obtain ⟨s', hA⟩ : ∃ z, z = (T.setVm s.vm).setFrames (.invoking m args :: below) := ⟨_, rfl⟩
  rw [← hA] at Y
  have hvm : s'.vm = s.vm := by rw [hA]; rfl
  have hhp : s'.heap = H := by rw [hA]; exact hT
  have hW0 : s.WarmedH s'.vm := by rw [hvm]; exact State.WarmedH.refl s
  have hat' : ∀ w ∈ (sv_oa own ic cls Y1 r1 idx bytes).filter vx_no, w.before args s' = true := fun w hw => vx_ot_at hW0 hvm.symm (hgood w (List.mem_cons_of_mem _ (List.mem_cons_of_mem _ hw))) (hat w hw)
  have hk' : (Cond.classLink own ik cls).before args s' = true := vx_ot_at hW0 hvm.symm (hgood _ List.mem_cons_self) hk
  have hini' : (Cond.initialized cls).before args s' = true := vx_ot_at hW0 hvm.symm (hgood _ (List.mem_cons_of_mem _ List.mem_cons_self)) hini
  have hU' : vx_Zq Bundle.tN "UNASSIGNED_STACK" Bundle.steD A s' s'.heap := by rw [hhp]; exact vx_Zq.moved hW0.alike (hU.kept hS.2.1)
  have hN' : vx_Zq Bundle.tN "SUPPRESSED_SENTINEL" Bundle.listD A s' s'.heap := by rw [hhp]; exact vx_Zq.moved hW0.alike (hN.kept hS.2.1)
  have h : ∀ w ∈ sv_oa own ic cls Y1 r1 idx bytes, w.before args s' = true := vx_own hat' (vx_isRefq hU'.1) (vx_isRefq hN'.1) hU'.2.word hN'.2.word
  have hown' : s'.vm.findClass own = some m.cls := by rw [hvm]; exact hown
  have hins : (Cond.instantiable cls 6).before args s' = true := h _ (by simp [sv_oa])
  obtain ⟨vm₁, cX, kX, hfX, hkX, -, -, X₁, st1⟩ := Y.newCold hexec (own := own) (C := cls) (index := ik) (n := 6) hown' hk' hins hini'
    (g := F0 m pc ls rest) rfl (by rw [hb]; exact d0) (Nat.le_refl _) (Nat.le_refl _)
  generalize hT1 : (T.setVm vm₁).pushCell { cls := cX, slots := kX.instanceTypes.map defaultValue, vm := .none } = T1 at X₁ st1
  have hcat : (Value.ref T.heap.size).category = 1 := rfl
  have hcellA : T1.heap[T.heap.size]? = some (freshCell cX kX) := by rw [← hT1]; exact State.heap_pushCell_size _ _
  have d3' : decode c.code (pc + 3) = .ok (.dup, 1) := by rw [hb]; exact d3
  have d4' : decode c.code (pc + 4) = .ok (.ldc is, 2) := by rw [hb]; exact d4
  have hstr' : vk_R own is text sa s' := vk_R.warm hW0 hstr
  obtain ⟨U, hsteps, hrun, hend, hW, hsame, ce, hce, hcv, hcc⟩ := sv_ctorThrow X₁ hexec htr (own := own) (cls := cls) (ic := ic) b0 b1 b2 b5 hown' hcls hnames h (fun x hx => nomatch hx) hfX hkX hcellA (by rw [hhp, hT]; exact Nat.le_refl _) (msg := .ref sa) rfl
    (g := { method := m, pc := pc + 6, locals := ls, stack := .ref sa :: .ref T.heap.size :: .ref T.heap.size :: rest, locked := none }) rfl hsize rfl rfl (rest := rest) rfl
    (by rw [hb]; exact d6) (by rw [hb]; exact d9) hout hRframes (by simp only [List.map_cons, List.sum_cons, hcat]; show 2 * 0 + _ + _ ≤ _; omega) hlocks
  obtain ⟨f1, f2⟩ := vx_frame hsame
  rw [hhp] at f1 f2
  have hWs : s.WarmedH U.vm := State.WarmedH.trans hW0 hW
  have hcl : s.vm.findClass cls = some ce.cls := by
    rw [hvm] at hcc
    exact hcc
  have hall : s.sameButNew ({ U with vm := s.vm } : State) locs mc ms := by
    subst hA
    obtain ⟨e1, e2⟩ := hsame
    rw [State.setFrames_setFrames] at e1
    have h2 : (T.setVm s.vm).sameButNew ({ U with vm := s.vm } : State) [] (0 + 1) (0 + 6) := ⟨e1, e2⟩
    have h3 := X.same.trans h2
    rw [List.append_nil] at h3
    exact h3.mono hc hs
  refine ⟨U, ?_, .threw T.heap.size, hrun, hend, Or.inr ⟨T.heap.size, rfl, cls, ce, locs, hx U hWs.alike f1 (fun q hq => f2 q hq (fun z hz => nomatch hz)), hce, hcv, hcl, hWs, hall, hf⟩⟩
  refine st1 _ ?_
  show Steps p.tables e below (T1.setTop { method := m, pc := pc + 3, locals := ls, stack := .ref T.heap.size :: rest, locked := none }) _
  jvm_step X₁.here [X₁.here.top, hexec, d3', Value.category]
  exact X₁.ldcString hexec (own := own) (text := text) (index := is) (a := sa) hown' hstr'.1 hstr'.2
    (g := { method := m, pc := pc + 4, locals := ls, stack := .ref T.heap.size :: .ref T.heap.size :: rest, locked := none }) rfl d4' _ hsteps
section THR
variable {E : sv_E} {X : sv_X} {cc : ByteArray} {own : String} {sx : List (Nat × Nat × List Int32)} {wd : va_W} {sz pc : Nat} {lv : List (Nat × Value)} {st : List Value}
theorem sv_ofJX {l : Launch} {y : MethodName} {mL : Nat} {rt : Option FieldType} {fr lo : Nat} {vs : List Value} {k : Int32} {res : Option Value} {wd' : va_W} (hl : l.stackTraces = false) (hy : plainName y.cls = true) (hvs : (lg_sl vs).length ≤ mL)
    (h : ∀ X : sv_X, sv_l X = l → sv_nL X = mL → sv_nm X = y.name → sv_R X = { frames := fr, cells := 1, slots := 6, locals := lo } → sv_C E X cc y.cls [] → sv_CX X → sv_ZX E X rt k res wd' sz → sv_J E X wd sz 0 0 0 (lv_args 0 vs) []) : sv_MetX l E y cc mL rt fr lo vs wd sz k res wd' := by
  refine vx_ofW (cc := cc) (maxL := mL) (ret := rt) hy rfl ?_
  intro p e s m args below meth c s₁ B hml hno hv
  obtain ⟨⟨rfl, hsz, hP, hK, hD0, hE, hX⟩, hTh, hxw⟩ := hv
  have hts := atoms_spec (ws := Cond.code y cc mL rt :: sv_w) B.pre
  have hown : s.vm.findClass y.cls = some m.cls := findClass_of_methodNamed B.named
  subst hsz
  have hD := hD0.self (sz := s.heap.size)
  have hA : ∀ q : Nat, s.heap.size ≤ q → va_A wd s.heap.size q := fun q h => Or.inr h
  have hlv := lv_entry vs (n := mL) hvs
  have hk := h (p, l, e, { frames := fr, cells := 1, slots := 6, locals := lo }, s, m, vs.toArray, below, meth, c, vx_MQ below (sv_QX E wd s.heap.size k res wd') (sv_XX E wd s.heap.size k wd') vs.toArray s 1 6 (va_A wd s.heap.size), va_A wd s.heap.size, mL) rfl rfl (name_of_methodNamed B.named B.method).1 rfl
    ⟨⟨B.exec, B.bytes, hml, hown, fun w hw => hts w (List.mem_cons_of_mem _ hw)⟩, hK, B.notSynchronized, hA, hE, hX⟩ ⟨hl, hTh, hxw, hno⟩ ⟨B.returns, wd, rfl, rfl⟩
  rw [lg_entry_eq]
  exact hk s.heap [] _ rfl hP hD va_S.rf hlv
theorem sv_iretX {v : Int32} (C : sv_C E X cc own sx) (hZ : sv_ZX E X (some .int) 0 (some (.int v)) wd sz) (hd : decode cc pc = .ok (.ireturn, 1)) : sv_J E X wd sz 0 0 pc lv [.int v] := by
  obtain ⟨p, l, e, R, s, m, args, below, meth, c, Q, A, nL⟩ := X
  obtain ⟨hr, wd0, rfl, rfl⟩ := hZ
  exact fun H locs ls h1 h2 h3 h4 h5 => vx_ret (W.widen (k := 1) (n := 6) (Nat.zero_le _) (Nat.zero_le _) (W.iret C.1.1 C.1.2.1 hr (fun t ht hW => ⟨rfl, ⟨rfl, by rw [ht]; exact h1, by rw [ht]; exact h2, h3⟩, h4.F ht⟩) h4.2.2 hd C.2.2.1))
theorem sv_xxof {A : Nat → Prop} {s : State} {H : Heap} {locs : List Loc} {wd0 : va_W} {k : Int32} {cls : String} (hk : k = 1 ∧ cls = sv_nse ∨ k = 2 ∧ cls = sv_iae) (hA : A = va_A wd0 sz) (h1 : H.size = sz) (h2 : va_P E.1 vwCl wd H) (h3 : va_D A wd) (h4 : va_S A s.heap H locs) : ∀ t : State, s.vm.Alike t.vm → H.size ≤ t.heap.size → (∀ q : Nat, q < H.size → t.heap[q]? = H[q]?) → sv_XX E wd0 sz k wd cls s t := fun t _ hz hq => by
  subst hA
  exact ⟨hk, by rw [← h1]; exact hz, h2.kept (fun j q hj => hq _ (h2 j q hj).lt), h3, Nat.le_trans h4.1 hz, fun q g1 g2 => (hq q (Nat.lt_of_lt_of_le g1 h4.1)).trans (h4.2.1 q g1 g2)⟩
/-- throw new NoSuchElementException("..") in SeaReceiver -/
theorem sv_thr1 {rt : Option FieldType} {res : Option Value} {i is : Nat} {tx : String} {bs : List Int32} (C : sv_C E X cc RX8 sx) (CX : sv_CX X) (hZ : sv_ZX E X rt 1 res wd sz) (hi : sv_strs[i]? = some (RX8, is, tx, bs)) (hr : (6 ≤ (sv_R X).frames ∧ (st.map fun v => v.category).sum + 82 ≤ (sv_R X).locals) ∧ 1 ≤ (sv_R X).cells ∧ 6 ≤ (sv_R X).slots) (d0 : decode cc pc = .ok (.new 100, 3)) (d3 : decode cc (pc + 3) = .ok (.dup, 1)) (d4 : decode cc (pc + 4) = .ok (.ldc is, 2)) (d6 : decode cc (pc + 6) = .ok (.invokespecial 104, 3)) (d9 : decode cc (pc + 9) = .ok (.athrow, 1)) (w1 : Cond.classLink RX8 100 sv_nse ∈ sv_w) (w2 : Cond.initialized sv_nse ∈ sv_w) : sv_J E X wd sz 0 0 pc lv st := by
  obtain ⟨p, l, e, R, s, m, args, below, meth, c, Q, A, nL⟩ := X
  obtain ⟨hrt, wd0, hA, rfl⟩ := hZ
  obtain ⟨hl, hTh, hxw, hno⟩ := CX
  have hat : ∀ w ∈ sv_xN, w.before args s = true := vx_hat (B := sv_xw) (fun w hw => C.1.2.2.2.2 w (List.mem_filter.mpr ⟨sv_xg1 w hw, (List.mem_filter.mp hw).2⟩)) (fun w hw => List.mem_append_left _ hw) (fun w hw => sv_xb_use (sv_xw_w hw) (hxw w hw))
  intro H locs ls h1 h2 h3 h4 h5
  exact sv_vthrow (A := A) C.1.1 C.1.2.1 hl (by decide +kernel) (by decide +kernel) (by decide +kernel) (by decide +kernel) C.1.2.2.2.1 (by decide) (by decide) (C.1.2.2.2.2 _ w1) (C.1.2.2.2.2 _ w2) (C.2.2.2.2.1.1 i _ hi).1 hat sv_xo1 hTh.1 hTh.2 h4 (h5.1.trans C.1.2.2.1.symm) d0 d3 d4 d6 d9 (fun x hx => (hno x hx).elim) hr.1.1 hr.1.2 hr.2.1 hr.2.2 C.2.2.1 (sv_xxof (Or.inl ⟨rfl, rfl⟩) hA h1 h2 h3 h4) h4.2.2 (Nat.le_refl 1) (Nat.le_refl 6)
theorem sv_thr2 {rt : Option FieldType} {res : Option Value} {i is : Nat} {tx : String} {bs : List Int32} (C : sv_C E X cc RX8 sx) (CX : sv_CX X) (hZ : sv_ZX E X rt 2 res wd sz) (hi : sv_strs[i]? = some (RX8, is, tx, bs)) (hr : (6 ≤ (sv_R X).frames ∧ (st.map fun v => v.category).sum + 82 ≤ (sv_R X).locals) ∧ 1 ≤ (sv_R X).cells ∧ 6 ≤ (sv_R X).slots) (d0 : decode cc pc = .ok (.new 140, 3)) (d3 : decode cc (pc + 3) = .ok (.dup, 1)) (d4 : decode cc (pc + 4) = .ok (.ldc is, 2)) (d6 : decode cc (pc + 6) = .ok (.invokespecial 144, 3)) (d9 : decode cc (pc + 9) = .ok (.athrow, 1)) (w1 : Cond.classLink RX8 140 sv_iae ∈ sv_w) (w2 : Cond.initialized sv_iae ∈ sv_w) : sv_J E X wd sz 0 0 pc lv st := by
  obtain ⟨p, l, e, R, s, m, args, below, meth, c, Q, A, nL⟩ := X
  obtain ⟨hrt, wd0, hA, rfl⟩ := hZ
  obtain ⟨hl, hTh, hxw, hno⟩ := CX
  have hat : ∀ w ∈ vx_atS RX8 144 sv_iae sv_xn, w.before args s = true := vx_hat (B := sv_xw) (fun w hw => C.1.2.2.2.2 w (List.mem_filter.mpr ⟨sv_xg2 w hw, (List.mem_filter.mp hw).2⟩)) (fun w hw => List.mem_append_right _ hw) (fun w hw => sv_xb_use (sv_xw_w hw) (hxw w hw))
  intro H locs ls h1 h2 h3 h4 h5
  exact vx_throwS (A := A) C.1.1 C.1.2.1 hl C.1.2.2.2.1 (by decide) (by decide) (C.1.2.2.2.2 _ w1) (C.1.2.2.2.2 _ w2) (C.2.2.2.2.1.1 i _ hi).1 hat sv_xo2 hTh.1 hTh.2 h4 (h5.1.trans C.1.2.2.1.symm) d0 d3 d4 d6 d9 (fun x hx => (hno x hx).elim) hr.1.1 hr.1.2 hr.2.1 hr.2.2 C.2.2.1 (sv_xxof (Or.inr ⟨rfl, rfl⟩) hA h1 h2 h3 h4) h4.2.2 (Nat.le_refl 1) (Nat.le_refl 6)
end THR
