/-! ===== the judgement sv_J: W over any heap that holds a world; its rows ===== -/
/-- what is the same in the whole run: class numbers and slots, array classes, strings, static arrays -/
abbrev sv_E : Type := va_G × (Nat → ClassId) × (Nat → Nat) × (Nat → Nat) × (Nat → Nat)
/-- one method's run -/
abbrev sv_X : Type := Program × Launch × Env × Room × State × MethodId × Array Value × List Frame × Method × Code × (State → Prop) × (Nat → Prop) × Nat
def sv_tys (E : sv_E) : List (ClassId × FieldType) := [(E.2.1 0, .byte), (E.2.1 1, .int), (E.2.1 2, .boolean), (E.2.1 3, .long), (E.2.1 4, .object "SeaReceiver$BitRow"), (E.2.1 5, .object "SeaReceiver$Vessel")]
/-- the String constants: class, place, text, bytes -/
def sv_strs : List (String × Nat × String × List Int32) := [("SeaReceiver", 102, "no such value of the fix", [110, 111, 32, 115, 117, 99, 104, 32, 118, 97, 108, 117, 101, 32, 111, 102, 32, 116, 104, 101, 32, 102, 105, 120]), ("SeaReceiver", 116, "no such vessel", [110, 111, 32, 115, 117, 99, 104, 32, 118, 101, 115, 115, 101, 108]), ("SeaReceiver", 123, "no such value of a vessel", [110, 111, 32, 115, 117, 99, 104, 32, 118, 97, 108, 117, 101, 32, 111, 102, 32, 97, 32, 118, 101, 115, 115, 101, 108]), ("SeaReceiver", 135, "the latest message has no such bits", [116, 104, 101, 32, 108, 97, 116, 101, 115, 116, 32, 109, 101, 115, 115, 97, 103, 101, 32, 104, 97, 115, 32, 110, 111, 32, 115, 117, 99, 104, 32, 98, 105, 116, 115]), ("SeaReceiver", 142, "no report of this type is sent", [110, 111, 32, 114, 101, 112, 111, 114, 116, 32, 111, 102, 32, 116, 104, 105, 115, 32, 116, 121, 112, 101, 32, 105, 115, 32, 115, 101, 110, 116]), ("SeaReceiver", 145, "the id is not a digit", [116, 104, 101, 32, 105, 100, 32, 105, 115, 32, 110, 111, 116, 32, 97, 32, 100, 105, 103, 105, 116]), ("SeaReceiver", 151, "2,1,", [50, 44, 49, 44]), ("SeaReceiver", 157, "2,2,", [50, 44, 50, 44]), ("SeaReceiver", 159, "1,1,", [49, 44, 49, 44]), ("SeaReceiver", 218, "AB12", [65, 66, 49, 50]), ("SeaReceiver", 265, "!AIVDM,", [33, 65, 73, 86, 68, 77, 44]), ("SeaReceiver", 270, ",A,", [44, 65, 44]), ("SeaReceiver$Fields", 39, "VDM", [86, 68, 77]), ("SeaReceiver$Fields", 45, "VDO", [86, 68, 79]), ("SeaReceiver$Fields", 47, "GGA", [71, 71, 65]), ("SeaReceiver$Fields", 49, "RMC", [82, 77, 67]), ("SeaReceiver$Fields", 51, "VTG", [86, 84, 71]), ("SeaReceiver$Position", 73, "AV", [65, 86]), ("SeaReceiver$Position", 88, "ADEMNS", [65, 68, 69, 77, 78, 83]), ("SeaReceiverModel", 135, "VDM", [86, 68, 77]), ("SeaReceiverModel", 141, "VDO", [86, 68, 79]), ("SeaReceiverModel", 143, "GGA", [71, 71, 65]), ("SeaReceiverModel", 145, "RMC", [82, 77, 67]), ("SeaReceiverModel", 147, "VTG", [86, 84, 71]), ("SeaReceiverModel", 214, "NS", [78, 83]), ("SeaReceiverModel", 220, "EW", [69, 87]), ("SeaReceiverModel", 226, "M", [77]), ("SeaReceiverModel", 231, "AV", [65, 86]), ("SeaReceiverModel", 240, "ADEMNS", [65, 68, 69, 77, 78, 83]), ("SeaReceiverModel", 242, "T", [84]), ("SeaReceiverModel", 244, "N", [78]), ("SeaReceiverModel", 246, "K", [75]), ("SeaReceiverModel", 257, "AB12", [65, 66, 49, 50]), ("SeaReceiverModel", 361, "!AIVDM,", [33, 65, 73, 86, 68, 77, 44]), ("SeaReceiverModel", 367, ",A,", [44, 65, 44])]
/-- the static arrays: class, name, contents -/
def sv_sta : List (String × String × List Int32) := [("SeaReceiver$Position", "OF_GGA", [0, 1, 2, 3, 4, 5, 6, 7, 8, 9]), ("SeaReceiver$Position", "OF_RMC", [0, 1, 2, 10, 11, 12, 13, 14, 17]), ("SeaReceiver$Position", "OF_VTG", [11, 12, 15, 16, 17]), ("SeaReceiver$Vessel", "OF_4", [11, 14, 12, 4, 13, 5, 14, 5, 15, 6, 10, 6, 5, 1, 6, 28, 7, 27, -1, 4, -1, 30]), ("SeaReceiver$Vessel", "OF_5", [-1, 2, 16, 30, 30, 42, 31, 120, 17, 8, 18, 9, 19, 9, 20, 6, 21, 6, -1, 4, 12, 4, 13, 5, 14, 5, 15, 6, 22, 8, 32, 120, -1, 2]), ("SeaReceiver$Vessel", "OF_18", [-1, 8, 4, 10, 5, 1, 6, 28, 7, 27, 8, 12, 9, 9, 10, 6, -1, 29]), ("SeaReceiver$Vessel", "OF_1", [2, 4, 3, 8, 4, 10, 5, 1, 6, 28, 7, 27, 8, 12, 9, 9, 10, 6, -1, 25])]
/-- private constructors of nest mates: who calls, place, which -/
def sv_nst : List (String × Nat × MethodName) := [("SeaReceiver", 27, yX5_init), ("SeaReceiver", 34, yX1_init), ("SeaReceiver", 48, yX3_init), ("SeaReceiver", 62, yX2_init), ("SeaReceiver$Fleet", 30, yX7_init)]
/-- a String at k, its bytes at v -/
def sv_St (k v : Nat) (bs : List Int32) (A : Nat → Prop) (U : State) (H : Heap) : Prop := va_O "java/lang/String" k A U H ∧ va_OF "java/lang/String" "coder" "B" (.int 0) k A U H ∧ va_OF "java/lang/String" "value" "[B" (.ref v) k A U H ∧ va_T .byte v bs.length (fun j => .int (bs.getD j 0)) A U H
def sv_En (E : sv_E) (A : Nat → Prop) (U : State) (H : Heap) : Prop :=
  (∀ i q, sv_strs[i]? = some q → vk_R q.1 q.2.1 q.2.2.1 (E.2.2.1 i) U ∧ sv_St (E.2.2.1 i) (E.2.2.2.1 i) q.2.2.2 A U H) ∧
  (∀ i q, sv_sta[i]? = some q → va_Z q.1 q.2.1 "[I" (.ref (E.2.2.2.2 i)) A U H ∧ va_T .int (E.2.2.2.2 i) q.2.2.length (fun j => .int (q.2.2.getD j 0)) A U H) ∧
  va_Z "java/lang/String" "COMPACT_STRINGS" "Z" (.int 1) A U H ∧ va_Zq "jdk/internal/util/Preconditions" "SIOOBE_FORMATTER" "Ljava/util/function/BiFunction;" A U H ∧
  (∀ q ∈ sv_nst, va_Nw (.methodLinkNest q.1 q.2.1 q.2.2 "SeaReceiver") U) ∧ va_AO "SeaReceiver$BitRow" U ∧ va_AO "SeaReceiver$Vessel" U
theorem sv_St.move {k v : Nat} {bs : List Int32} {A B : Nat → Prop} {s U : State} {H H1 : Heap} (h : sv_St k v bs A s H) (hvm : s.vm.Alike U.vm) (hq : ∀ a : Nat, a < H.size → ¬ A a → H1[a]? = H[a]?) (hAB : ∀ q, B q → A q) : sv_St k v bs B U H1 :=
  ⟨((h.1.moved hvm).kept hq).narrow hAB, ((h.2.1.moved hvm).kept hq).narrow hAB, ((h.2.2.1.moved hvm).kept hq).narrow hAB, ((h.2.2.2.moved hvm).kept hq).narrow hAB⟩
theorem sv_En.move {E : sv_E} {A B : Nat → Prop} {s U : State} {H H1 : Heap} (h : sv_En E A s H) (hR : ∀ o k t a, vk_R o k t a s → vk_R o k t a U) (hM : ∀ a i x h, va_Nw (.methodLinkNest a i x h) s → va_Nw (.methodLinkNest a i x h) U) (hvm : s.vm.Alike U.vm) (hq : ∀ a : Nat, a < H.size → ¬ A a → H1[a]? = H[a]?) (hAB : ∀ q, B q → A q) : sv_En E B U H1 :=
  ⟨fun i q hi => ⟨hR _ _ _ _ (h.1 i q hi).1, (h.1 i q hi).2.move hvm hq hAB⟩, fun i q hi => ⟨(((h.2.1 i q hi).1.moved hvm).kept hq).narrow hAB, (((h.2.1 i q hi).2.moved hvm).kept hq).narrow hAB⟩, ((h.2.2.1.moved hvm).kept hq).narrow hAB, ((h.2.2.2.1.moved hvm).kept hq).narrow hAB, fun q hq => hM _ _ _ _ (h.2.2.2.2.1 q hq), h.2.2.2.2.2.1.moved hvm, h.2.2.2.2.2.2.moved hvm⟩
def sv_J (E : sv_E) (X : sv_X) (wd : va_W) (sz ce sl pc : Nat) (lv : List (Nat × Value)) (st : List Value) : Prop := match X with
  | (p, l, e, R, s, m, args, below, meth, c, Q, A, nL) => ∀ (H : Heap) (locs : List Loc) (ls : Array Slot), H.size = sz → va_P E.1 vwCl wd H → va_D A wd → va_S A s.heap H locs → lv_has ls nL lv → W p l e R s m args below meth c H locs ce sl Q (F0 m pc ls st)
/-- what holds of a method's run: its code, its class, its words, its strings sx -/
def sv_C (E : sv_E) (X : sv_X) (cc : ByteArray) (own : String) (sx : List (Nat × Nat × List Int32)) : Prop := match X with
  | (p, _, _, _, s, m, args, _, meth, c, _, A, nL) => CallFix p m c cc nL s args sv_w own ∧ va_K E.1 vwCl (sv_tys E) s ∧ meth.locks = false ∧ (∀ q, s.heap.size ≤ q → A q) ∧ sv_En E A s s.heap ∧ ∀ x ∈ sx, sv_St x.1 x.2.1 x.2.2 A s s.heap
/-- a method's start -/
def sv_Pre (E : sv_E) (sx : List (Nat × Nat × List Int32)) (vs : List Value) (wd : va_W) (sz : Nat) : Array Value → State → Prop := va_Pc vs (fun U => U.heap.size = sz ∧ va_P E.1 vwCl wd U.heap ∧ va_K E.1 vwCl (sv_tys E) U ∧ va_D (fun _ => True) wd ∧ sv_En E (va_A wd sz) U U.heap ∧ ∀ x ∈ sx, sv_St x.1 x.2.1 x.2.2 (va_A wd sz) U U.heap)
/-- a method's end: the answer, the world and the heap's size behind it -/
def sv_Q (E : sv_E) (wd : va_W) (sz : Nat) (res : Option Value) (wd' : va_W) (sz' : Nat) : Array Value → State → Outcome → State → Prop := fun _ st oc t => (oc = .returned res ∧ t.heap.size = sz' ∧ va_P E.1 vwCl wd' t.heap ∧ va_D (va_A wd sz) wd') ∧ va_F (va_A wd sz) st t
/-- a method's contract -/
def sv_Met (l : Launch) (E : sv_E) (y : MethodName) (cc : ByteArray) (mL : Nat) (rt : Option FieldType) (fr lo : Nat) (sx : List (Nat × Nat × List Int32)) (vs : List Value) (wd : va_W) (sz : Nat) (res : Option Value) (wd' : va_W) (sz' mc ms : Nat) : Prop :=
  Met l y (Cond.code y cc mL rt :: sv_w) { frames := fr, cells := mc, slots := ms, locals := lo } (sv_Pre E sx vs wd sz) (sv_Q E wd sz res wd' sz') mc ms (va_A wd sz)
/-- the end of a run that is to give the contract -/
def sv_Z (E : sv_E) (X : sv_X) (rt : Option FieldType) (res : Option Value) (wd' : va_W) (sz' mc ms : Nat) : Prop := match X with
  | (_, _, _, R, s, _, args, below, meth, _, Q, A, _) => meth.sig.returnType = rt ∧ (∃ wd sz, A = va_A wd sz ∧ Q = MQ below (sv_Q E wd sz res wd' sz') args s mc ms A)
def sv_R (X : sv_X) : Room := match X with
  | (_, _, _, R, _, _, _, _, _, _, _, _, _) => R
def sv_l (X : sv_X) : Launch := match X with
  | (_, l, _, _, _, _, _, _, _, _, _, _, _) => l
def sv_nm (X : sv_X) : String := match X with
  | (_, _, _, _, _, _, _, _, meth, _, _, _, _) => meth.name
def sv_nL (X : sv_X) : Nat := match X with
  | (_, _, _, _, _, _, _, _, _, _, _, _, nL) => nL
section SVA
variable {E : sv_E} {X : sv_X} {cc : ByteArray} {own : String} {sx : List (Nat × Nat × List Int32)} {wd : va_W} {sz ce sl pc : Nat} {lv lv' : List (Nat × Value)} {st : List Value}
/-- the contract out of the walk from its entry -/
theorem sv_ofJ {l : Launch} {y : MethodName} {mL : Nat} {rt : Option FieldType} {fr lo : Nat} {vs : List Value} {res : Option Value} {wd' : va_W} {sz' mc ms : Nat} (hy : plainName y.cls = true) (hvs : (lg_sl vs).length ≤ mL)
    (h : ∀ X : sv_X, sv_l X = l → sv_nL X = mL → sv_nm X = y.name → sv_R X = { frames := fr, cells := mc, slots := ms, locals := lo } → sv_C E X cc y.cls sx → sv_Z E X rt res wd' sz' mc ms → sv_J E X wd sz 0 0 0 (lv_args 0 vs) []) : sv_Met l E y cc mL rt fr lo sx vs wd sz res wd' sz' mc ms := by
  refine Met.ofW (cc := cc) (maxL := mL) (ret := rt) hy rfl ?_
  intro p e s m args below meth c s₁ B hml hv
  obtain ⟨rfl, hsz, hP, hK, hD0, hE, hX⟩ := hv
  have hts := atoms_spec (ws := Cond.code y cc mL rt :: sv_w) B.pre
  have hown : s.vm.findClass y.cls = some m.cls := findClass_of_methodNamed B.named
  subst hsz
  have hD := hD0.self (sz := s.heap.size)
  have hA : ∀ q : Nat, s.heap.size ≤ q → va_A wd s.heap.size q := fun q h => Or.inr h
  have hl := lv_entry vs (n := mL) hvs
  have hk := h (p, l, e, { frames := fr, cells := mc, slots := ms, locals := lo }, s, m, vs.toArray, below, meth, c, MQ below (sv_Q E wd s.heap.size res wd' sz') vs.toArray s mc ms (va_A wd s.heap.size), va_A wd s.heap.size, mL) rfl rfl (name_of_methodNamed B.named B.method).1 rfl
    ⟨⟨B.exec, B.bytes, hml, hown, fun w hw => hts w (List.mem_cons_of_mem _ hw)⟩, hK, B.notSynchronized, hA, hE, hX⟩ ⟨B.returns, wd, s.heap.size, rfl, rfl⟩
  rw [lg_entry_eq]
  exact hk s.heap [] _ rfl hP hD va_S.rf hl
theorem sv_iconst {n : Int} {v : Int32} (C : sv_C E X cc own sx) (hd : decode cc pc = .ok (.iconst n, 1)) (hv : Int32.ofInt n = v) (k : sv_J E X wd sz ce sl (pc + 1) lv (.int v :: st)) : sv_J E X wd sz ce sl pc lv st := by
  obtain ⟨p, l, e, R, s, m, args, below, meth, c, Q, A, nL⟩ := X
  exact fun H locs ls h1 h2 h3 h4 h5 => lv_iconst C.1.1 C.1.2.1 hd hv (k H locs ls h1 h2 h3 h4 h5)
theorem sv_bipush {n : Int} {v : Int32} (C : sv_C E X cc own sx) (hd : decode cc pc = .ok (.bipush n, 2)) (hv : (Int8.ofInt n).toInt32 = v) (k : sv_J E X wd sz ce sl (pc + 2) lv (.int v :: st)) : sv_J E X wd sz ce sl pc lv st := by
  obtain ⟨p, l, e, R, s, m, args, below, meth, c, Q, A, nL⟩ := X
  exact fun H locs ls h1 h2 h3 h4 h5 => lv_bipush C.1.1 C.1.2.1 hd hv (k H locs ls h1 h2 h3 h4 h5)
theorem sv_sipush {n : Int} {v : Int32} (C : sv_C E X cc own sx) (hd : decode cc pc = .ok (.sipush n, 3)) (hv : (Int16.ofInt n).toInt32 = v) (k : sv_J E X wd sz ce sl (pc + 3) lv (.int v :: st)) : sv_J E X wd sz ce sl pc lv st := by
  obtain ⟨p, l, e, R, s, m, args, below, meth, c, Q, A, nL⟩ := X
  exact fun H locs ls h1 h2 h3 h4 h5 => lv_sipush C.1.1 C.1.2.1 hd hv (k H locs ls h1 h2 h3 h4 h5)
theorem sv_lconst {n : Fin 2} {v : Int64} (C : sv_C E X cc own sx) (hd : decode cc pc = .ok (.lconst n, 1)) (hv : Int64.ofNat (n : Nat) = v) (k : sv_J E X wd sz ce sl (pc + 1) lv (.long v :: st)) : sv_J E X wd sz ce sl pc lv st := by
  obtain ⟨p, l, e, R, s, m, args, below, meth, c, Q, A, nL⟩ := X
  exact fun H locs ls h1 h2 h3 h4 h5 => lv_lconst C.1.1 C.1.2.1 hd hv (k H locs ls h1 h2 h3 h4 h5)
theorem sv_ldc {index : Nat} {v : Int32} (C : sv_C E X cc own sx) (hw : Cond.constant own index v ∈ sv_w) (hd : decode cc pc = .ok (.ldc index, 2)) (k : sv_J E X wd sz ce sl (pc + 2) lv (.int v :: st)) : sv_J E X wd sz ce sl pc lv st := by
  obtain ⟨p, l, e, R, s, m, args, below, meth, c, Q, A, nL⟩ := X
  exact fun H locs ls h1 h2 h3 h4 h5 => lv_ldc C.1.1 C.1.2.1 C.1.2.2.2.1 (C.1.2.2.2.2 _ hw) hd (k H locs ls h1 h2 h3 h4 h5)
theorem sv_ldcw {index : Nat} {v : Int32} (C : sv_C E X cc own sx) (hw : Cond.constant own index v ∈ sv_w) (hd : decode cc pc = .ok (.ldc_w index, 3)) (k : sv_J E X wd sz ce sl (pc + 3) lv (.int v :: st)) : sv_J E X wd sz ce sl pc lv st := by
  obtain ⟨p, l, e, R, s, m, args, below, meth, c, Q, A, nL⟩ := X
  exact fun H locs ls h1 h2 h3 h4 h5 => lv_ldcw C.1.1 C.1.2.1 C.1.2.2.2.1 (C.1.2.2.2.2 _ hw) hd (k H locs ls h1 h2 h3 h4 h5)
theorem sv_ldc2 {index : Nat} {v : Int64} (C : sv_C E X cc own sx) (hw : Cond.constantLong own index v ∈ sv_w) (hd : decode cc pc = .ok (.ldc2_w index, 3)) (k : sv_J E X wd sz ce sl (pc + 3) lv (.long v :: st)) : sv_J E X wd sz ce sl pc lv st := by
  obtain ⟨p, l, e, R, s, m, args, below, meth, c, Q, A, nL⟩ := X
  exact fun H locs ls h1 h2 h3 h4 h5 => lv_ldc2 C.1.1 C.1.2.1 C.1.2.2.2.1 (C.1.2.2.2.2 _ hw) hd (k H locs ls h1 h2 h3 h4 h5)
/-- a String constant -/
theorem sv_ldcS {index i : Nat} {tx : String} {bs : List Int32} (C : sv_C E X cc own sx) (hi : sv_strs[i]? = some (own, index, tx, bs)) (hd : decode cc pc = .ok (.ldc index, 2)) (k : sv_J E X wd sz ce sl (pc + 2) lv (.ref (E.2.2.1 i) :: st)) : sv_J E X wd sz ce sl pc lv st := by
  obtain ⟨p, l, e, R, s, m, args, below, meth, c, Q, A, nL⟩ := X
  exact fun H locs ls h1 h2 h3 h4 h5 => va_ldcS C.1.1 C.1.2.1 C.1.2.2.2.1 (C.2.2.2.2.1.1 i _ hi).1 hd (k H locs ls h1 h2 h3 h4 h5)
theorem sv_iload_n {j : Fin 4} {i : Nat} {x : Int32} (q : Nat) (C : sv_C E X cc own sx) (hd : decode cc pc = .ok (.iload_n j, 1)) (hi : (j : Nat) = i) (hl : lv[q]? = some (i, .int x)) (k : sv_J E X wd sz ce sl (pc + 1) lv (.int x :: st)) : sv_J E X wd sz ce sl pc lv st := by
  obtain ⟨p, l, e, R, s, m, args, below, meth, c, Q, A, nL⟩ := X
  exact fun H locs ls h1 h2 h3 h4 h5 => lv_iload_n C.1.1 C.1.2.1 hd hi (lv_at h5 q hl) (k H locs ls h1 h2 h3 h4 h5)
theorem sv_iload {i : Nat} {x : Int32} (q : Nat) (C : sv_C E X cc own sx) (hd : decode cc pc = .ok (.iload i, 2)) (hl : lv[q]? = some (i, .int x)) (k : sv_J E X wd sz ce sl (pc + 2) lv (.int x :: st)) : sv_J E X wd sz ce sl pc lv st := by
  obtain ⟨p, l, e, R, s, m, args, below, meth, c, Q, A, nL⟩ := X
  exact fun H locs ls h1 h2 h3 h4 h5 => lv_iload C.1.1 C.1.2.1 hd (lv_at h5 q hl) (k H locs ls h1 h2 h3 h4 h5)
theorem sv_lload_n {j : Fin 4} {i : Nat} {x : Int64} (q : Nat) (C : sv_C E X cc own sx) (hd : decode cc pc = .ok (.lload_n j, 1)) (hi : (j : Nat) = i) (hl : lv[q]? = some (i, .long x)) (k : sv_J E X wd sz ce sl (pc + 1) lv (.long x :: st)) : sv_J E X wd sz ce sl pc lv st := by
  obtain ⟨p, l, e, R, s, m, args, below, meth, c, Q, A, nL⟩ := X
  exact fun H locs ls h1 h2 h3 h4 h5 => lv_lload_n C.1.1 C.1.2.1 hd hi (lv_at h5 q hl) (k H locs ls h1 h2 h3 h4 h5)
theorem sv_lload {i : Nat} {x : Int64} (q : Nat) (C : sv_C E X cc own sx) (hd : decode cc pc = .ok (.lload i, 2)) (hl : lv[q]? = some (i, .long x)) (k : sv_J E X wd sz ce sl (pc + 2) lv (.long x :: st)) : sv_J E X wd sz ce sl pc lv st := by
  obtain ⟨p, l, e, R, s, m, args, below, meth, c, Q, A, nL⟩ := X
  exact fun H locs ls h1 h2 h3 h4 h5 => lv_lload C.1.1 C.1.2.1 hd (lv_at h5 q hl) (k H locs ls h1 h2 h3 h4 h5)
theorem sv_aload_n {j : Fin 4} {i : Nat} {x : Nat} (q : Nat) (C : sv_C E X cc own sx) (hd : decode cc pc = .ok (.aload_n j, 1)) (hi : (j : Nat) = i) (hl : lv[q]? = some (i, .ref x)) (k : sv_J E X wd sz ce sl (pc + 1) lv (.ref x :: st)) : sv_J E X wd sz ce sl pc lv st := by
  obtain ⟨p, l, e, R, s, m, args, below, meth, c, Q, A, nL⟩ := X
  exact fun H locs ls h1 h2 h3 h4 h5 => lv_aload_n C.1.1 C.1.2.1 hd hi (lv_at h5 q hl) (k H locs ls h1 h2 h3 h4 h5)
theorem sv_aload {i : Nat} {x : Nat} (q : Nat) (C : sv_C E X cc own sx) (hd : decode cc pc = .ok (.aload i, 2)) (hl : lv[q]? = some (i, .ref x)) (k : sv_J E X wd sz ce sl (pc + 2) lv (.ref x :: st)) : sv_J E X wd sz ce sl pc lv st := by
  obtain ⟨p, l, e, R, s, m, args, below, meth, c, Q, A, nL⟩ := X
  exact fun H locs ls h1 h2 h3 h4 h5 => lv_aload C.1.1 C.1.2.1 hd (lv_at h5 q hl) (k H locs ls h1 h2 h3 h4 h5)
theorem sv_istore_n {j : Fin 4} {i : Nat} {x : Int32} (C : sv_C E X cc own sx) (hd : decode cc pc = .ok (.istore_n j, 1)) (hi : (j : Nat) = i) (hn : i < sv_nL X) (hl : (i, Value.int x) :: lv.filter (fun q => !(q.1 == i) && !(q.1 + 1 == i && q.2.category == 2)) = lv') (k : sv_J E X wd sz ce sl (pc + 1) lv' st) : sv_J E X wd sz ce sl pc lv (.int x :: st) := by
  obtain ⟨p, l, e, R, s, m, args, below, meth, c, Q, A, nL⟩ := X
  exact fun H locs ls h1 h2 h3 h4 h5 => lv_istore_n C.1.1 C.1.2.1 hd hi h5 hn hl (fun ls' h5 => k H locs ls' h1 h2 h3 h4 h5)
theorem sv_istore {i : Nat} {x : Int32} (C : sv_C E X cc own sx) (hd : decode cc pc = .ok (.istore i, 2)) (hn : i < sv_nL X) (hl : (i, Value.int x) :: lv.filter (fun q => !(q.1 == i) && !(q.1 + 1 == i && q.2.category == 2)) = lv') (k : sv_J E X wd sz ce sl (pc + 2) lv' st) : sv_J E X wd sz ce sl pc lv (.int x :: st) := by
  obtain ⟨p, l, e, R, s, m, args, below, meth, c, Q, A, nL⟩ := X
  exact fun H locs ls h1 h2 h3 h4 h5 => lv_istore C.1.1 C.1.2.1 hd h5 hn hl (fun ls' h5 => k H locs ls' h1 h2 h3 h4 h5)
theorem sv_lstore_n {j : Fin 4} {i : Nat} {x : Int64} (C : sv_C E X cc own sx) (hd : decode cc pc = .ok (.lstore_n j, 1)) (hi : (j : Nat) = i) (hn : i + 1 < sv_nL X) (hl : (i, Value.long x) :: lv.filter (fun q => !(q.1 == i) && (!(q.1 == i + 1) && !(q.1 + 1 == i && q.2.category == 2))) = lv') (k : sv_J E X wd sz ce sl (pc + 1) lv' st) : sv_J E X wd sz ce sl pc lv (.long x :: st) := by
  obtain ⟨p, l, e, R, s, m, args, below, meth, c, Q, A, nL⟩ := X
  exact fun H locs ls h1 h2 h3 h4 h5 => lv_lstore_n C.1.1 C.1.2.1 hd hi h5 hn hl (fun ls' h5 => k H locs ls' h1 h2 h3 h4 h5)
theorem sv_lstore {i : Nat} {x : Int64} (C : sv_C E X cc own sx) (hd : decode cc pc = .ok (.lstore i, 2)) (hn : i + 1 < sv_nL X) (hl : (i, Value.long x) :: lv.filter (fun q => !(q.1 == i) && (!(q.1 == i + 1) && !(q.1 + 1 == i && q.2.category == 2))) = lv') (k : sv_J E X wd sz ce sl (pc + 2) lv' st) : sv_J E X wd sz ce sl pc lv (.long x :: st) := by
  obtain ⟨p, l, e, R, s, m, args, below, meth, c, Q, A, nL⟩ := X
  exact fun H locs ls h1 h2 h3 h4 h5 => lv_lstore C.1.1 C.1.2.1 hd h5 hn hl (fun ls' h5 => k H locs ls' h1 h2 h3 h4 h5)
theorem sv_astore_n {j : Fin 4} {i : Nat} {x : Nat} (C : sv_C E X cc own sx) (hd : decode cc pc = .ok (.astore_n j, 1)) (hi : (j : Nat) = i) (hn : i < sv_nL X) (hl : (i, Value.ref x) :: lv.filter (fun q => !(q.1 == i) && !(q.1 + 1 == i && q.2.category == 2)) = lv') (k : sv_J E X wd sz ce sl (pc + 1) lv' st) : sv_J E X wd sz ce sl pc lv (.ref x :: st) := by
  obtain ⟨p, l, e, R, s, m, args, below, meth, c, Q, A, nL⟩ := X
  exact fun H locs ls h1 h2 h3 h4 h5 => lv_astore_n C.1.1 C.1.2.1 hd hi h5 hn hl (fun ls' h5 => k H locs ls' h1 h2 h3 h4 h5)
theorem sv_astore {i : Nat} {x : Nat} (C : sv_C E X cc own sx) (hd : decode cc pc = .ok (.astore i, 2)) (hn : i < sv_nL X) (hl : (i, Value.ref x) :: lv.filter (fun q => !(q.1 == i) && !(q.1 + 1 == i && q.2.category == 2)) = lv') (k : sv_J E X wd sz ce sl (pc + 2) lv' st) : sv_J E X wd sz ce sl pc lv (.ref x :: st) := by
  obtain ⟨p, l, e, R, s, m, args, below, meth, c, Q, A, nL⟩ := X
  exact fun H locs ls h1 h2 h3 h4 h5 => lv_astore C.1.1 C.1.2.1 hd h5 hn hl (fun ls' h5 => k H locs ls' h1 h2 h3 h4 h5)
theorem sv_iinc {i : Nat} {n : Int} {x v : Int32} (q : Nat) (C : sv_C E X cc own sx) (hd : decode cc pc = .ok (.iinc i n, 3)) (hk : lv[q]? = some (i, .int x)) (hv : x + Int32.ofInt n = v) (hn : i < sv_nL X) (hl : (i, Value.int v) :: lv.filter (fun q => !(q.1 == i) && !(q.1 + 1 == i && q.2.category == 2)) = lv') (k : sv_J E X wd sz ce sl (pc + 3) lv' st) : sv_J E X wd sz ce sl pc lv st := by
  obtain ⟨p, l, e, R, s, m, args, below, meth, c, Q, A, nL⟩ := X
  exact fun H locs ls h1 h2 h3 h4 h5 => lv_iinc C.1.1 C.1.2.1 hd h5 hk hv hn hl (fun ls' h5 => k H locs ls' h1 h2 h3 h4 h5)
theorem sv_iadd {x y : Int32} (C : sv_C E X cc own sx) (hd : decode cc pc = .ok (.iadd, 1)) (k : sv_J E X wd sz ce sl (pc + 1) lv (.int (x + y) :: st)) : sv_J E X wd sz ce sl pc lv (.int y :: .int x :: st) := by
  obtain ⟨p, l, e, R, s, m, args, below, meth, c, Q, A, nL⟩ := X
  exact fun H locs ls h1 h2 h3 h4 h5 => lv_iadd C.1.1 C.1.2.1 hd (k H locs ls h1 h2 h3 h4 h5)
theorem sv_isub {x y : Int32} (C : sv_C E X cc own sx) (hd : decode cc pc = .ok (.isub, 1)) (k : sv_J E X wd sz ce sl (pc + 1) lv (.int (x - y) :: st)) : sv_J E X wd sz ce sl pc lv (.int y :: .int x :: st) := by
  obtain ⟨p, l, e, R, s, m, args, below, meth, c, Q, A, nL⟩ := X
  exact fun H locs ls h1 h2 h3 h4 h5 => lv_isub C.1.1 C.1.2.1 hd (k H locs ls h1 h2 h3 h4 h5)
theorem sv_imul {x y : Int32} (C : sv_C E X cc own sx) (hd : decode cc pc = .ok (.imul, 1)) (k : sv_J E X wd sz ce sl (pc + 1) lv (.int (x * y) :: st)) : sv_J E X wd sz ce sl pc lv (.int y :: .int x :: st) := by
  obtain ⟨p, l, e, R, s, m, args, below, meth, c, Q, A, nL⟩ := X
  exact fun H locs ls h1 h2 h3 h4 h5 => lv_imul C.1.1 C.1.2.1 hd (k H locs ls h1 h2 h3 h4 h5)
theorem sv_iand {x y : Int32} (C : sv_C E X cc own sx) (hd : decode cc pc = .ok (.iand, 1)) (k : sv_J E X wd sz ce sl (pc + 1) lv (.int (x &&& y) :: st)) : sv_J E X wd sz ce sl pc lv (.int y :: .int x :: st) := by
  obtain ⟨p, l, e, R, s, m, args, below, meth, c, Q, A, nL⟩ := X
  exact fun H locs ls h1 h2 h3 h4 h5 => lv_iand C.1.1 C.1.2.1 hd (k H locs ls h1 h2 h3 h4 h5)
theorem sv_ior {x y : Int32} (C : sv_C E X cc own sx) (hd : decode cc pc = .ok (.ior, 1)) (k : sv_J E X wd sz ce sl (pc + 1) lv (.int (x ||| y) :: st)) : sv_J E X wd sz ce sl pc lv (.int y :: .int x :: st) := by
  obtain ⟨p, l, e, R, s, m, args, below, meth, c, Q, A, nL⟩ := X
  exact fun H locs ls h1 h2 h3 h4 h5 => lv_ior C.1.1 C.1.2.1 hd (k H locs ls h1 h2 h3 h4 h5)
theorem sv_ixor {x y : Int32} (C : sv_C E X cc own sx) (hd : decode cc pc = .ok (.ixor, 1)) (k : sv_J E X wd sz ce sl (pc + 1) lv (.int (x ^^^ y) :: st)) : sv_J E X wd sz ce sl pc lv (.int y :: .int x :: st) := by
  obtain ⟨p, l, e, R, s, m, args, below, meth, c, Q, A, nL⟩ := X
  exact fun H locs ls h1 h2 h3 h4 h5 => lv_ixor C.1.1 C.1.2.1 hd (k H locs ls h1 h2 h3 h4 h5)
theorem sv_ishl {x y : Int32} (C : sv_C E X cc own sx) (hd : decode cc pc = .ok (.ishl, 1)) (k : sv_J E X wd sz ce sl (pc + 1) lv (.int (x <<< (y &&& 31)) :: st)) : sv_J E X wd sz ce sl pc lv (.int y :: .int x :: st) := by
  obtain ⟨p, l, e, R, s, m, args, below, meth, c, Q, A, nL⟩ := X
  exact fun H locs ls h1 h2 h3 h4 h5 => lv_ishl C.1.1 C.1.2.1 hd (k H locs ls h1 h2 h3 h4 h5)
theorem sv_ishr {x y : Int32} (C : sv_C E X cc own sx) (hd : decode cc pc = .ok (.ishr, 1)) (k : sv_J E X wd sz ce sl (pc + 1) lv (.int (x >>> (y &&& 31)) :: st)) : sv_J E X wd sz ce sl pc lv (.int y :: .int x :: st) := by
  obtain ⟨p, l, e, R, s, m, args, below, meth, c, Q, A, nL⟩ := X
  exact fun H locs ls h1 h2 h3 h4 h5 => lv_ishr C.1.1 C.1.2.1 hd (k H locs ls h1 h2 h3 h4 h5)
theorem sv_idiv {x y : Int32} (C : sv_C E X cc own sx) (hd : decode cc pc = .ok (.idiv, 1)) (hne : ¬ y = 0) (k : sv_J E X wd sz ce sl (pc + 1) lv (.int (x / y) :: st)) : sv_J E X wd sz ce sl pc lv (.int y :: .int x :: st) := by
  obtain ⟨p, l, e, R, s, m, args, below, meth, c, Q, A, nL⟩ := X
  exact fun H locs ls h1 h2 h3 h4 h5 => lv_idiv C.1.1 C.1.2.1 hd hne (k H locs ls h1 h2 h3 h4 h5)
theorem sv_irem {x y : Int32} (C : sv_C E X cc own sx) (hd : decode cc pc = .ok (.irem, 1)) (hne : ¬ y = 0) (k : sv_J E X wd sz ce sl (pc + 1) lv (.int (x - x / y * y) :: st)) : sv_J E X wd sz ce sl pc lv (.int y :: .int x :: st) := by
  obtain ⟨p, l, e, R, s, m, args, below, meth, c, Q, A, nL⟩ := X
  exact fun H locs ls h1 h2 h3 h4 h5 => lv_irem C.1.1 C.1.2.1 hd hne (k H locs ls h1 h2 h3 h4 h5)
theorem sv_ineg {x : Int32} (C : sv_C E X cc own sx) (hd : decode cc pc = .ok (.ineg, 1)) (k : sv_J E X wd sz ce sl (pc + 1) lv (.int (-x) :: st)) : sv_J E X wd sz ce sl pc lv (.int x :: st) := by
  obtain ⟨p, l, e, R, s, m, args, below, meth, c, Q, A, nL⟩ := X
  exact fun H locs ls h1 h2 h3 h4 h5 => lv_ineg C.1.1 C.1.2.1 hd (k H locs ls h1 h2 h3 h4 h5)
theorem sv_iushr {x y : Int32} (C : sv_C E X cc own sx) (hd : decode cc pc = .ok (.iushr, 1)) (k : sv_J E X wd sz ce sl (pc + 1) lv (.int (x.toUInt32 >>> (y.toUInt32 &&& Int32.toUInt32 31)).toInt32 :: st)) : sv_J E X wd sz ce sl pc lv (.int y :: .int x :: st) := by
  obtain ⟨p, l, e, R, s, m, args, below, meth, c, Q, A, nL⟩ := X
  exact fun H locs ls h1 h2 h3 h4 h5 => lv_iushr C.1.1 C.1.2.1 hd rfl (k H locs ls h1 h2 h3 h4 h5)
theorem sv_i2l {x : Int32} (C : sv_C E X cc own sx) (hd : decode cc pc = .ok (.i2l, 1)) (k : sv_J E X wd sz ce sl (pc + 1) lv (.long x.toInt64 :: st)) : sv_J E X wd sz ce sl pc lv (.int x :: st) := by
  obtain ⟨p, l, e, R, s, m, args, below, meth, c, Q, A, nL⟩ := X
  exact fun H locs ls h1 h2 h3 h4 h5 => lv_i2l C.1.1 C.1.2.1 hd rfl (k H locs ls h1 h2 h3 h4 h5)
theorem sv_l2i {x : Int64} (C : sv_C E X cc own sx) (hd : decode cc pc = .ok (.l2i, 1)) (k : sv_J E X wd sz ce sl (pc + 1) lv (.int x.toInt32 :: st)) : sv_J E X wd sz ce sl pc lv (.long x :: st) := by
  obtain ⟨p, l, e, R, s, m, args, below, meth, c, Q, A, nL⟩ := X
  exact fun H locs ls h1 h2 h3 h4 h5 => lv_l2i C.1.1 C.1.2.1 hd rfl (k H locs ls h1 h2 h3 h4 h5)
theorem sv_i2b {x : Int32} (C : sv_C E X cc own sx) (hd : decode cc pc = .ok (.i2b, 1)) (k : sv_J E X wd sz ce sl (pc + 1) lv (.int x.toInt8.toInt32 :: st)) : sv_J E X wd sz ce sl pc lv (.int x :: st) := by
  obtain ⟨p, l, e, R, s, m, args, below, meth, c, Q, A, nL⟩ := X
  exact fun H locs ls h1 h2 h3 h4 h5 => lv_i2b C.1.1 C.1.2.1 hd rfl (k H locs ls h1 h2 h3 h4 h5)
theorem sv_i2c {x : Int32} (C : sv_C E X cc own sx) (hd : decode cc pc = .ok (.i2c, 1)) (k : sv_J E X wd sz ce sl (pc + 1) lv (.int (x.toUInt32 % 65536).toInt32 :: st)) : sv_J E X wd sz ce sl pc lv (.int x :: st) := by
  obtain ⟨p, l, e, R, s, m, args, below, meth, c, Q, A, nL⟩ := X
  exact fun H locs ls h1 h2 h3 h4 h5 => lv_i2c C.1.1 C.1.2.1 hd rfl (k H locs ls h1 h2 h3 h4 h5)
theorem sv_ladd {x y : Int64} (C : sv_C E X cc own sx) (hd : decode cc pc = .ok (.ladd, 1)) (k : sv_J E X wd sz ce sl (pc + 1) lv (.long (x + y) :: st)) : sv_J E X wd sz ce sl pc lv (.long y :: .long x :: st) := by
  obtain ⟨p, l, e, R, s, m, args, below, meth, c, Q, A, nL⟩ := X
  exact fun H locs ls h1 h2 h3 h4 h5 => lv_ladd C.1.1 C.1.2.1 hd (k H locs ls h1 h2 h3 h4 h5)
theorem sv_lsub {x y : Int64} (C : sv_C E X cc own sx) (hd : decode cc pc = .ok (.lsub, 1)) (k : sv_J E X wd sz ce sl (pc + 1) lv (.long (x - y) :: st)) : sv_J E X wd sz ce sl pc lv (.long y :: .long x :: st) := by
  obtain ⟨p, l, e, R, s, m, args, below, meth, c, Q, A, nL⟩ := X
  exact fun H locs ls h1 h2 h3 h4 h5 => lv_lsub C.1.1 C.1.2.1 hd (k H locs ls h1 h2 h3 h4 h5)
theorem sv_land {x y : Int64} (C : sv_C E X cc own sx) (hd : decode cc pc = .ok (.land, 1)) (k : sv_J E X wd sz ce sl (pc + 1) lv (.long (x &&& y) :: st)) : sv_J E X wd sz ce sl pc lv (.long y :: .long x :: st) := by
  obtain ⟨p, l, e, R, s, m, args, below, meth, c, Q, A, nL⟩ := X
  exact fun H locs ls h1 h2 h3 h4 h5 => lv_land C.1.1 C.1.2.1 hd (k H locs ls h1 h2 h3 h4 h5)
theorem sv_lor {x y : Int64} (C : sv_C E X cc own sx) (hd : decode cc pc = .ok (.lor, 1)) (k : sv_J E X wd sz ce sl (pc + 1) lv (.long (x ||| y) :: st)) : sv_J E X wd sz ce sl pc lv (.long y :: .long x :: st) := by
  obtain ⟨p, l, e, R, s, m, args, below, meth, c, Q, A, nL⟩ := X
  exact fun H locs ls h1 h2 h3 h4 h5 => lv_lor C.1.1 C.1.2.1 hd (k H locs ls h1 h2 h3 h4 h5)
theorem sv_lushr {x : Int64} {y : Int32} (C : sv_C E X cc own sx) (hd : decode cc pc = .ok (.lushr, 1)) (k : sv_J E X wd sz ce sl (pc + 1) lv (.long (x.toUInt64 >>> (y.toInt64.toUInt64 &&& Int64.toUInt64 63)).toInt64 :: st)) : sv_J E X wd sz ce sl pc lv (.int y :: .long x :: st) := by
  obtain ⟨p, l, e, R, s, m, args, below, meth, c, Q, A, nL⟩ := X
  exact fun H locs ls h1 h2 h3 h4 h5 => lv_lushr C.1.1 C.1.2.1 hd rfl (k H locs ls h1 h2 h3 h4 h5)
theorem sv_lshl {x : Int64} {y : Int32} (C : sv_C E X cc own sx) (hd : decode cc pc = .ok (.lshl, 1)) (k : sv_J E X wd sz ce sl (pc + 1) lv (.long (x <<< (y.toInt64 &&& 63)) :: st)) : sv_J E X wd sz ce sl pc lv (.int y :: .long x :: st) := by
  obtain ⟨p, l, e, R, s, m, args, below, meth, c, Q, A, nL⟩ := X
  exact fun H locs ls h1 h2 h3 h4 h5 => lv_lshl C.1.1 C.1.2.1 hd rfl (k H locs ls h1 h2 h3 h4 h5)
theorem sv_if_eq {x : Int32} {off : Int} {tgt : Nat} (C : sv_C E X cc own sx) (hd : decode cc pc = .ok (.ifCond .eq off, 3)) (ht : (pc : Int) + off = (tgt : Int)) (kt : x = 0 → sv_J E X wd sz ce sl tgt lv st) (kf : ¬ x = 0 → sv_J E X wd sz ce sl (pc + 3) lv st) : sv_J E X wd sz ce sl pc lv (.int x :: st) := by
  obtain ⟨p, l, e, R, s, m, args, below, meth, c, Q, A, nL⟩ := X
  exact fun H locs ls h1 h2 h3 h4 h5 => lv_if_eq C.1.1 C.1.2.1 hd ht (fun h => kt h H locs ls h1 h2 h3 h4 h5) (fun h => kf h H locs ls h1 h2 h3 h4 h5)
theorem sv_icmp_eq {x y : Int32} {off : Int} {tgt : Nat} (C : sv_C E X cc own sx) (hd : decode cc pc = .ok (.if_icmp .eq off, 3)) (ht : (pc : Int) + off = (tgt : Int)) (kt : x = y → sv_J E X wd sz ce sl tgt lv st) (kf : ¬ x = y → sv_J E X wd sz ce sl (pc + 3) lv st) : sv_J E X wd sz ce sl pc lv (.int y :: .int x :: st) := by
  obtain ⟨p, l, e, R, s, m, args, below, meth, c, Q, A, nL⟩ := X
  exact fun H locs ls h1 h2 h3 h4 h5 => lv_icmp_eq C.1.1 C.1.2.1 hd ht (fun h => kt h H locs ls h1 h2 h3 h4 h5) (fun h => kf h H locs ls h1 h2 h3 h4 h5)
theorem sv_if_ne {x : Int32} {off : Int} {tgt : Nat} (C : sv_C E X cc own sx) (hd : decode cc pc = .ok (.ifCond .ne off, 3)) (ht : (pc : Int) + off = (tgt : Int)) (kt : ¬ x = 0 → sv_J E X wd sz ce sl tgt lv st) (kf : x = 0 → sv_J E X wd sz ce sl (pc + 3) lv st) : sv_J E X wd sz ce sl pc lv (.int x :: st) := by
  obtain ⟨p, l, e, R, s, m, args, below, meth, c, Q, A, nL⟩ := X
  exact fun H locs ls h1 h2 h3 h4 h5 => lv_if_ne C.1.1 C.1.2.1 hd ht (fun h => kt h H locs ls h1 h2 h3 h4 h5) (fun h => kf h H locs ls h1 h2 h3 h4 h5)
theorem sv_icmp_ne {x y : Int32} {off : Int} {tgt : Nat} (C : sv_C E X cc own sx) (hd : decode cc pc = .ok (.if_icmp .ne off, 3)) (ht : (pc : Int) + off = (tgt : Int)) (kt : ¬ x = y → sv_J E X wd sz ce sl tgt lv st) (kf : x = y → sv_J E X wd sz ce sl (pc + 3) lv st) : sv_J E X wd sz ce sl pc lv (.int y :: .int x :: st) := by
  obtain ⟨p, l, e, R, s, m, args, below, meth, c, Q, A, nL⟩ := X
  exact fun H locs ls h1 h2 h3 h4 h5 => lv_icmp_ne C.1.1 C.1.2.1 hd ht (fun h => kt h H locs ls h1 h2 h3 h4 h5) (fun h => kf h H locs ls h1 h2 h3 h4 h5)
theorem sv_if_lt {x : Int32} {off : Int} {tgt : Nat} (C : sv_C E X cc own sx) (hd : decode cc pc = .ok (.ifCond .lt off, 3)) (ht : (pc : Int) + off = (tgt : Int)) (kt : x < 0 → sv_J E X wd sz ce sl tgt lv st) (kf : ¬ x < 0 → sv_J E X wd sz ce sl (pc + 3) lv st) : sv_J E X wd sz ce sl pc lv (.int x :: st) := by
  obtain ⟨p, l, e, R, s, m, args, below, meth, c, Q, A, nL⟩ := X
  exact fun H locs ls h1 h2 h3 h4 h5 => lv_if_lt C.1.1 C.1.2.1 hd ht (fun h => kt h H locs ls h1 h2 h3 h4 h5) (fun h => kf h H locs ls h1 h2 h3 h4 h5)
theorem sv_icmp_lt {x y : Int32} {off : Int} {tgt : Nat} (C : sv_C E X cc own sx) (hd : decode cc pc = .ok (.if_icmp .lt off, 3)) (ht : (pc : Int) + off = (tgt : Int)) (kt : x < y → sv_J E X wd sz ce sl tgt lv st) (kf : ¬ x < y → sv_J E X wd sz ce sl (pc + 3) lv st) : sv_J E X wd sz ce sl pc lv (.int y :: .int x :: st) := by
  obtain ⟨p, l, e, R, s, m, args, below, meth, c, Q, A, nL⟩ := X
  exact fun H locs ls h1 h2 h3 h4 h5 => lv_icmp_lt C.1.1 C.1.2.1 hd ht (fun h => kt h H locs ls h1 h2 h3 h4 h5) (fun h => kf h H locs ls h1 h2 h3 h4 h5)
theorem sv_if_ge {x : Int32} {off : Int} {tgt : Nat} (C : sv_C E X cc own sx) (hd : decode cc pc = .ok (.ifCond .ge off, 3)) (ht : (pc : Int) + off = (tgt : Int)) (kt : 0 ≤ x → sv_J E X wd sz ce sl tgt lv st) (kf : ¬ 0 ≤ x → sv_J E X wd sz ce sl (pc + 3) lv st) : sv_J E X wd sz ce sl pc lv (.int x :: st) := by
  obtain ⟨p, l, e, R, s, m, args, below, meth, c, Q, A, nL⟩ := X
  exact fun H locs ls h1 h2 h3 h4 h5 => lv_if_ge C.1.1 C.1.2.1 hd ht (fun h => kt h H locs ls h1 h2 h3 h4 h5) (fun h => kf h H locs ls h1 h2 h3 h4 h5)
theorem sv_icmp_ge {x y : Int32} {off : Int} {tgt : Nat} (C : sv_C E X cc own sx) (hd : decode cc pc = .ok (.if_icmp .ge off, 3)) (ht : (pc : Int) + off = (tgt : Int)) (kt : y ≤ x → sv_J E X wd sz ce sl tgt lv st) (kf : ¬ y ≤ x → sv_J E X wd sz ce sl (pc + 3) lv st) : sv_J E X wd sz ce sl pc lv (.int y :: .int x :: st) := by
  obtain ⟨p, l, e, R, s, m, args, below, meth, c, Q, A, nL⟩ := X
  exact fun H locs ls h1 h2 h3 h4 h5 => lv_icmp_ge C.1.1 C.1.2.1 hd ht (fun h => kt h H locs ls h1 h2 h3 h4 h5) (fun h => kf h H locs ls h1 h2 h3 h4 h5)
theorem sv_if_gt {x : Int32} {off : Int} {tgt : Nat} (C : sv_C E X cc own sx) (hd : decode cc pc = .ok (.ifCond .gt off, 3)) (ht : (pc : Int) + off = (tgt : Int)) (kt : 0 < x → sv_J E X wd sz ce sl tgt lv st) (kf : ¬ 0 < x → sv_J E X wd sz ce sl (pc + 3) lv st) : sv_J E X wd sz ce sl pc lv (.int x :: st) := by
  obtain ⟨p, l, e, R, s, m, args, below, meth, c, Q, A, nL⟩ := X
  exact fun H locs ls h1 h2 h3 h4 h5 => lv_if_gt C.1.1 C.1.2.1 hd ht (fun h => kt h H locs ls h1 h2 h3 h4 h5) (fun h => kf h H locs ls h1 h2 h3 h4 h5)
theorem sv_icmp_gt {x y : Int32} {off : Int} {tgt : Nat} (C : sv_C E X cc own sx) (hd : decode cc pc = .ok (.if_icmp .gt off, 3)) (ht : (pc : Int) + off = (tgt : Int)) (kt : y < x → sv_J E X wd sz ce sl tgt lv st) (kf : ¬ y < x → sv_J E X wd sz ce sl (pc + 3) lv st) : sv_J E X wd sz ce sl pc lv (.int y :: .int x :: st) := by
  obtain ⟨p, l, e, R, s, m, args, below, meth, c, Q, A, nL⟩ := X
  exact fun H locs ls h1 h2 h3 h4 h5 => lv_icmp_gt C.1.1 C.1.2.1 hd ht (fun h => kt h H locs ls h1 h2 h3 h4 h5) (fun h => kf h H locs ls h1 h2 h3 h4 h5)
theorem sv_if_le {x : Int32} {off : Int} {tgt : Nat} (C : sv_C E X cc own sx) (hd : decode cc pc = .ok (.ifCond .le off, 3)) (ht : (pc : Int) + off = (tgt : Int)) (kt : x ≤ 0 → sv_J E X wd sz ce sl tgt lv st) (kf : ¬ x ≤ 0 → sv_J E X wd sz ce sl (pc + 3) lv st) : sv_J E X wd sz ce sl pc lv (.int x :: st) := by
  obtain ⟨p, l, e, R, s, m, args, below, meth, c, Q, A, nL⟩ := X
  exact fun H locs ls h1 h2 h3 h4 h5 => lv_if_le C.1.1 C.1.2.1 hd ht (fun h => kt h H locs ls h1 h2 h3 h4 h5) (fun h => kf h H locs ls h1 h2 h3 h4 h5)
theorem sv_icmp_le {x y : Int32} {off : Int} {tgt : Nat} (C : sv_C E X cc own sx) (hd : decode cc pc = .ok (.if_icmp .le off, 3)) (ht : (pc : Int) + off = (tgt : Int)) (kt : x ≤ y → sv_J E X wd sz ce sl tgt lv st) (kf : ¬ x ≤ y → sv_J E X wd sz ce sl (pc + 3) lv st) : sv_J E X wd sz ce sl pc lv (.int y :: .int x :: st) := by
  obtain ⟨p, l, e, R, s, m, args, below, meth, c, Q, A, nL⟩ := X
  exact fun H locs ls h1 h2 h3 h4 h5 => lv_icmp_le C.1.1 C.1.2.1 hd ht (fun h => kt h H locs ls h1 h2 h3 h4 h5) (fun h => kf h H locs ls h1 h2 h3 h4 h5)
theorem sv_dup {va : Value} (C : sv_C E X cc own sx) (hd : decode cc pc = .ok (.dup, 1)) (hva : va.category = 1) (k : sv_J E X wd sz ce sl (pc + 1) lv (va :: va :: st)) : sv_J E X wd sz ce sl pc lv (va :: st) := by
  obtain ⟨p, l, e, R, s, m, args, below, meth, c, Q, A, nL⟩ := X
  exact fun H locs ls h1 h2 h3 h4 h5 => lv_dup C.1.1 C.1.2.1 hd hva (k H locs ls h1 h2 h3 h4 h5)
theorem sv_pop {va : Value} (C : sv_C E X cc own sx) (hd : decode cc pc = .ok (.pop, 1)) (hva : va.category = 1) (k : sv_J E X wd sz ce sl (pc + 1) lv st) : sv_J E X wd sz ce sl pc lv (va :: st) := by
  obtain ⟨p, l, e, R, s, m, args, below, meth, c, Q, A, nL⟩ := X
  exact fun H locs ls h1 h2 h3 h4 h5 => lv_pop C.1.1 C.1.2.1 hd hva (k H locs ls h1 h2 h3 h4 h5)
theorem sv_dup_x1 {va vb : Value} (C : sv_C E X cc own sx) (hd : decode cc pc = .ok (.dup_x1, 1)) (hva : va.category = 1) (hvb : vb.category = 1) (k : sv_J E X wd sz ce sl (pc + 1) lv (va :: vb :: va :: st)) : sv_J E X wd sz ce sl pc lv (va :: vb :: st) := by
  obtain ⟨p, l, e, R, s, m, args, below, meth, c, Q, A, nL⟩ := X
  exact fun H locs ls h1 h2 h3 h4 h5 => lv_dup_x1 C.1.1 C.1.2.1 hd hva hvb (k H locs ls h1 h2 h3 h4 h5)
theorem sv_dup2 {va vb : Value} (C : sv_C E X cc own sx) (hd : decode cc pc = .ok (.dup2, 1)) (hva : va.category = 1) (hvb : vb.category = 1) (k : sv_J E X wd sz ce sl (pc + 1) lv (va :: vb :: va :: vb :: st)) : sv_J E X wd sz ce sl pc lv (va :: vb :: st) := by
  obtain ⟨p, l, e, R, s, m, args, below, meth, c, Q, A, nL⟩ := X
  exact fun H locs ls h1 h2 h3 h4 h5 => lv_dup2_11 C.1.1 C.1.2.1 hd hva hvb (k H locs ls h1 h2 h3 h4 h5)
theorem sv_goto {off : Int} {tgt : Nat} (C : sv_C E X cc own sx) (hd : decode cc pc = .ok (.goto off, 3)) (ht : (pc : Int) + off = (tgt : Int)) (k : sv_J E X wd sz ce sl tgt lv st) : sv_J E X wd sz ce sl pc lv st := by
  obtain ⟨p, l, e, R, s, m, args, below, meth, c, Q, A, nL⟩ := X
  exact fun H locs ls h1 h2 h3 h4 h5 => lv_goto C.1.1 C.1.2.1 hd ht (k H locs ls h1 h2 h3 h4 h5)
/-- fewer locals, in any order -/
theorem sv_sub (ks : List Nat) (hl : lv_pick lv ks = lv') (k : sv_J E X wd sz ce sl pc lv' st) : sv_J E X wd sz ce sl pc lv st := by
  obtain ⟨p, l, e, R, s, m, args, below, meth, c, Q, A, nL⟩ := X
  exact fun H locs ls h1 h2 h3 h4 h5 => k H locs ls h1 h2 h3 h4 (lv_sub h5 ks hl)
theorem sv_iret {v : Int32} (C : sv_C E X cc own sx) (hZ : sv_Z E X (some .int) (some (.int v)) wd sz ce sl) (hd : decode cc pc = .ok (.ireturn, 1)) : sv_J E X wd sz ce sl pc lv [.int v] := by
  obtain ⟨p, l, e, R, s, m, args, below, meth, c, Q, A, nL⟩ := X
  obtain ⟨hr, wd0, sz0, rfl, rfl⟩ := hZ
  exact fun H locs ls h1 h2 h3 h4 h5 => W.iret C.1.1 C.1.2.1 hr (fun t ht hW => ⟨⟨rfl, by rw [ht]; exact h1, by rw [ht]; exact h2, h3⟩, h4.F ht⟩) h4.2.2 hd C.2.2.1
theorem sv_zret {v : Int32} {ty : FieldType} (C : sv_C E X cc own sx) (hn : narrow ty (.int v) = .int v) (hZ : sv_Z E X (some ty) (some (.int v)) wd sz ce sl) (hd : decode cc pc = .ok (.ireturn, 1)) : sv_J E X wd sz ce sl pc lv [.int v] := by
  obtain ⟨p, l, e, R, s, m, args, below, meth, c, Q, A, nL⟩ := X
  obtain ⟨hr, wd0, sz0, rfl, rfl⟩ := hZ
  exact fun H locs ls h1 h2 h3 h4 h5 => W.zret C.1.1 C.1.2.1 hr hn (fun t ht hW => ⟨⟨rfl, by rw [ht]; exact h1, by rw [ht]; exact h2, h3⟩, h4.F ht⟩) h4.2.2 hd C.2.2.1
theorem sv_vret (C : sv_C E X cc own sx) (hZ : sv_Z E X none none wd sz ce sl) (hd : decode cc pc = .ok (.return_, 1)) : sv_J E X wd sz ce sl pc lv [] := by
  obtain ⟨p, l, e, R, s, m, args, below, meth, c, Q, A, nL⟩ := X
  obtain ⟨hr, wd0, sz0, rfl, rfl⟩ := hZ
  exact fun H locs ls h1 h2 h3 h4 h5 => W.vret C.1.1 C.1.2.1 hr (fun t ht hW => ⟨⟨rfl, by rw [ht]; exact h1, by rw [ht]; exact h2, h3⟩, h4.F ht⟩) h4.2.2 hd C.2.2.1
theorem sv_aret {v : Value} {rt : FieldType} (C : sv_C E X cc own sx) (hrt : (∃ n, rt = .object n) ∨ ∃ t, rt = .array t) (hv : v = .null ∨ ∃ a, v = .ref a) (hZ : sv_Z E X (some rt) (some v) wd sz ce sl) (hd : decode cc pc = .ok (.areturn, 1)) : sv_J E X wd sz ce sl pc lv [v] := by
  obtain ⟨p, l, e, R, s, m, args, below, meth, c, Q, A, nL⟩ := X
  obtain ⟨hr, wd0, sz0, rfl, rfl⟩ := hZ
  exact fun H locs ls h1 h2 h3 h4 h5 => W.aret C.1.1 C.1.2.1 hr hrt hv (fun t ht hW => ⟨⟨rfl, by rw [ht]; exact h1, by rw [ht]; exact h2, h3⟩, h4.F ht⟩) h4.2.2 hd C.2.2.1
theorem sv_widen {k n : Nat} (h1 : ce ≤ k) (h2 : sl ≤ n) (kk : sv_J E X wd sz k n pc lv st) : sv_J E X wd sz ce sl pc lv st := by
  obtain ⟨p, l, e, R, s, m, args, below, meth, c, Q, A, nL⟩ := X
  exact fun H locs ls g1 g2 g3 g4 g5 => W.widen h1 h2 (kk H locs ls g1 g2 g3 g4 g5)
end SVA
