/-! ===== rows over a world: fields, arrays, calls ===== -/
/-- a field's link: in class own at place index, field k of the class ci -/
def sv_FL (own : String) (index ci k : Nat) (fin : Bool) (ty : FieldType) : Prop := ∃ (Cn : String) (T : u_T) (N : Nat) (ty0 : Nat → FieldType), vwCl[ci]? = some (Cn, T, N) ∧ (∀ w ∈ u_ws Cn T N, w ∈ sv_w) ∧ (∀ k, k < N → parseFieldDescriptor (T k).2.2.1 = some (ty0 k)) ∧ (∀ a, a < N → ∀ b, b < N → a ≠ b → (T a).2.1 ≠ (T b).2.1) ∧ k < N ∧ Cond.fieldLink own index (T k).1 (T k).2.1 (T k).2.2.1 ∈ sv_w ∧ (T k).2.2.2 = fin ∧ parseFieldDescriptor (T k).2.2.1 = some ty ∧ (T k).1 = Cn
theorem sv_gd {w : Cond} (h : w ∈ sv_w) : w ∈ sv_w ∧ ((w.onTables && w.keeps) = true ∨ ∃ ty, w = .arrayClass ty) := ⟨h, good_of_word (List.mem_filter.mp h).2⟩
theorem sv_gds {ws : List Cond} (h : ∀ w ∈ ws, w ∈ sv_w) : GoodIn sv_w ws := fun w hw => sv_gd (h w hw)
def sv_dn (y : MethodName) (n : Nat) : Prop := y.cls ≠ "java/lang/invoke/MethodHandle" ∧ y.cls ≠ "java/lang/invoke/VarHandle" ∧ (parseMethodDescriptor y.desc).map (fun d => d.parameters.length) = some n
/-- a method's link: called by class own at place index, n arguments -/
def sv_MV (own : String) (index : Nat) (y : MethodName) (cb : ByteArray) (mL : Nat) (rt : Option FieldType) (n : Nat) : Prop := GoodIn sv_w (wsV own index y.cls y (Cond.code y cb mL rt :: sv_w)) ∧ sv_dn y n
def sv_MS (own : String) (index : Nat) (y : MethodName) (cb : ByteArray) (mL : Nat) (rt : Option FieldType) (n : Nat) : Prop := (Cond.methodLink own index y ∈ sv_w ∧ Cond.static y ∈ sv_w ∧ Cond.initialized y.cls ∈ sv_w ∧ Cond.code y cb mL rt ∈ sv_w) ∧ sv_dn y n
theorem sv_mkV {own : String} {index : Nat} {y : MethodName} {cb : ByteArray} {mL : Nat} {rt : Option FieldType} {n : Nat} (h1 : Cond.methodLink own index y ∈ sv_w) (h2 : Cond.instanceMethod y ∈ sv_w) (h3 : Cond.selects y.cls y y ∈ sv_w) (h4 : Cond.initialized y.cls ∈ sv_w) (h5 : Cond.code y cb mL rt ∈ sv_w) (hd : sv_dn y n) : sv_MV own index y cb mL rt n :=
  ⟨sv_gds (fun w hw => by
    simp only [wsV, List.mem_append, List.mem_cons, List.not_mem_nil, or_false] at hw
    rcases hw with (rfl | rfl | rfl | rfl) | rfl | hw <;> assumption), hd⟩
section SVB
variable {E : sv_E} {X : sv_X} {cc : ByteArray} {own : String} {sx : List (Nat × Nat × List Int32)} {wd : va_W} {sz ce sl pc : Nat} {lv lv' : List (Nat × Value)} {st : List Value}
theorem sv_getf {index ci k a : Nat} {fin : Bool} {ty : FieldType} {fs : List Value} {v : Value} (C : sv_C E X cc own sx) (hF : sv_FL own index ci k fin ty) (q0 : Nat) (he : wd[q0]? = some (a, .inr (ci, fs))) (hv : fs[k]? = some v) (hd : decode cc pc = .ok (.getfield index, 3)) (kk : sv_J E X wd sz ce sl (pc + 3) lv (v :: st)) : sv_J E X wd sz ce sl pc lv (.ref a :: st) := by
  obtain ⟨p, l, e, R, s, m, args, below, meth, c, Q, A, nL⟩ := X
  obtain ⟨Cn, T, N, ty0, f1, f2, f3, f4, f5, f6, f7, f8, f9⟩ := hF
  exact fun H locs ls h1 h2 h3 h4 h5 => va_get C.1.1 C.1.2.1 C.1.2.2.2.2 f2 C.1.2.2.2.1 C.2.1 h2 q0 he f1 k f5 (C.1.2.2.2.2 _ f6) (fun _ h => h) hv hd (kk H locs ls h1 h2 h3 h4 h5)
theorem sv_putf {index ci k a : Nat} {ty : FieldType} {fs : List Value} {v : Value} (C : sv_C E X cc own sx) (hF : sv_FL own index ci k false ty) (q0 : Nat) (he : wd[q0]? = some (a, .inr (ci, fs))) (hn : narrow ty v = v) (hfit : fits ty v = true) (hl : k < fs.length) (hd : decode cc pc = .ok (.putfield index, 3)) (kk : sv_J E X (wd.set q0 (a, .inr (ci, fs.set k v))) sz ce sl (pc + 3) lv st) : sv_J E X wd sz ce sl pc lv (v :: .ref a :: st) := by
  obtain ⟨p, l, e, R, s, m, args, below, meth, c, Q, A, nL⟩ := X
  obtain ⟨Cn, T, N, ty0, f1, f2, f3, f4, f5, f6, f7, f8, f9⟩ := hF
  obtain ⟨⟨hx, hb, hml, hown, hts⟩, hK, hC⟩ := C
  intro H locs ls g1 hP hD hS g5
  have hap := va_apart (own := own) hts f2 ty0 f3 f4 hK f1
  obtain ⟨r, h1, cell, q1, q2, q3, q4⟩ := hP q0 _ he
  have hr : r = (Cn, T, N) := Option.some.inj (h1.symm.trans f1)
  subst hr
  obtain ⟨hSl, hfc, kC, hkC, hkind⟩ := hK.1 ci _ f1
  obtain ⟨cf, kf, fi, f, hi, hsl⟩ := hSl k f5
  have hlay := hts _ (f2 _ (u_in_lay f5))
  unfold u_lay at hlay
  rw [if_neg (by rw [f7]; decide)] at hlay
  have hst := (u_facts hfc hkC (u_lays hts f2 f5) hi).1
  have h6 := u_store hfc hkC hkind hlay hi f8 hn hfit
  refine W.putK hx hb (f := f) ⟨hown, hts _ f6, ⟨_, _, _, hi⟩, hst⟩ (by rw [q2]; exact h6) q1 q3 (by rw [hsl]; exact k2_hasslot (q4 k f5)) rfl rfl hd fun H' e1 e2 e3 => ?_
  rw [hsl] at e1 ⊢
  exact kk H' _ ls (e2.trans g1) (hP.set hD he ⟨_, f1, t_OB.to (V := updV (vp_V fs) k v) ⟨_, e1, q2, q3, t_set q4 hap f5 v⟩ (fun j _ => vp_updV_set hl v j)⟩ e3) (hD.set he) (hS.put e2 e3 (hD.2 q0 _ he)) g5
/-- a final field, in a constructor -/
theorem sv_putF {index ci k a : Nat} {ty : FieldType} {fs : List Value} {v : Value} (C : sv_C E X cc own sx) (hF : sv_FL own index ci k true ty) (ho : (vwCl[ci]?).map (fun q => q.1) = some own) (hnm : sv_nm X = "<init>") (q0 : Nat) (he : wd[q0]? = some (a, .inr (ci, fs))) (hn : narrow ty v = v) (hfit : fits ty v = true) (hl : k < fs.length) (hd : decode cc pc = .ok (.putfield index, 3)) (kk : sv_J E X (wd.set q0 (a, .inr (ci, fs.set k v))) sz ce sl (pc + 3) lv st) : sv_J E X wd sz ce sl pc lv (v :: .ref a :: st) := by
  obtain ⟨p, l, e, R, s, m, args, below, meth, c, Q, A, nL⟩ := X
  obtain ⟨Cn, T, N, ty0, f1, f2, f3, f4, f5, f6, f7, f8, f9⟩ := hF
  obtain ⟨⟨hx, hb, hml, hown, hts⟩, hK, hC⟩ := C
  intro H locs ls g1 hP hD hS g5
  have hap := va_apart (own := own) hts f2 ty0 f3 f4 hK f1
  obtain ⟨r, h1, cell, q1, q2, q3, q4⟩ := hP q0 _ he
  have hr : r = (Cn, T, N) := Option.some.inj (h1.symm.trans f1)
  subst hr
  obtain ⟨hSl, hfc, kC, hkC, hkind⟩ := hK.1 ci _ f1
  obtain ⟨cf, kf, fi, f, hi, hsl⟩ := hSl k f5
  have hlay := hts _ (f2 _ (u_in_lay f5))
  unfold u_lay at hlay
  rw [if_pos f7] at hlay
  have hst := (u_facts hfc hkC (u_lays hts f2 f5) hi).1
  rw [f1] at ho
  have hoC : Cn = own := Option.some.inj ho
  have hcf : m.cls = cf := by
    obtain ⟨_, _, c', _, _, _, -, -, hf', -, -, -, hown2, -⟩ := Cond.laysFinal_spec hlay
    have e1 : c' = cf := by have := hi.symm.trans hf'; simp at this; exact this.1.symm
    rw [f9, hoC] at hown2
    rw [← e1]; exact Option.some.inj (hown.symm.trans hown2)
  have h6 := u_fits hfc hkC hkind (Or.inr hlay) hi f8 hn hfit
  refine W.putFinK hx hb hown (hts _ f6) hi hst hcf hnm (by rw [q2]; exact h6) q1 q3 (by rw [hsl]; exact k2_hasslot (q4 k f5)) rfl rfl hd fun H' e1 e2 e3 => ?_
  rw [hsl] at e1 ⊢
  exact kk H' _ ls (e2.trans g1) (hP.set hD he ⟨_, f1, t_OB.to (V := updV (vp_V fs) k v) ⟨_, e1, q2, q3, t_set q4 hap f5 v⟩ (fun j _ => vp_updV_set hl v j)⟩ e3) (hD.set he) (hS.put e2 e3 (hD.2 q0 _ he)) g5
/-- a place of an array of n -/
def sv_inb (i : Int32) (n : Nat) : Bool := decide (¬ (i < 0 ∨ n ≤ i.toNatClampNeg))
theorem sv_inb_in {i : Int32} {n : Nat} (h : sv_inb i n = true) : vp_in i n := of_decide_eq_true (p := ¬ (i < 0 ∨ n ≤ i.toNatClampNeg)) h
theorem sv_iald {a n : Nat} {f : Nat → Int32} {i : Int32} (C : sv_C E X cc own sx) (q0 : Nat) (ha : wd[q0]? = some (a, .inl (E.2.1 1, n, .inl f))) (hin : sv_inb i n = true) (hd : decode cc pc = .ok (.iaload, 1)) (kk : sv_J E X wd sz ce sl (pc + 1) lv (.int (f i.toNatClampNeg) :: st)) : sv_J E X wd sz ce sl pc lv (.int i :: .ref a :: st) := by
  obtain ⟨p, l, e, R, s, m, args, below, meth, c, Q, A, nL⟩ := X
  exact fun H locs ls h1 h2 h3 h4 h5 => va_iald C.1.1 C.1.2.1 C.2.1 h2 q0 1 ha rfl (sv_inb_in hin) hd (kk H locs ls h1 h2 h3 h4 h5)
theorem sv_bald {a n : Nat} {f : Nat → Int32} {i : Int32} (C : sv_C E X cc own sx) (q0 : Nat) (ha : wd[q0]? = some (a, .inl (E.2.1 0, n, .inl f))) (hin : sv_inb i n = true) (hd : decode cc pc = .ok (.baload, 1)) (kk : sv_J E X wd sz ce sl (pc + 1) lv (.int (f i.toNatClampNeg) :: st)) : sv_J E X wd sz ce sl pc lv (.int i :: .ref a :: st) := by
  obtain ⟨p, l, e, R, s, m, args, below, meth, c, Q, A, nL⟩ := X
  exact fun H locs ls h1 h2 h3 h4 h5 => va_bald C.1.1 C.1.2.1 C.2.1 h2 q0 0 ha rfl (sv_inb_in hin) hd (kk H locs ls h1 h2 h3 h4 h5)
theorem sv_zald {a n : Nat} {f : Nat → Int32} {i : Int32} (C : sv_C E X cc own sx) (q0 : Nat) (ha : wd[q0]? = some (a, .inl (E.2.1 2, n, .inl f))) (hin : sv_inb i n = true) (hd : decode cc pc = .ok (.baload, 1)) (kk : sv_J E X wd sz ce sl (pc + 1) lv (.int (f i.toNatClampNeg) :: st)) : sv_J E X wd sz ce sl pc lv (.int i :: .ref a :: st) := by
  obtain ⟨p, l, e, R, s, m, args, below, meth, c, Q, A, nL⟩ := X
  exact fun H locs ls h1 h2 h3 h4 h5 => va_zald C.1.1 C.1.2.1 C.2.1 h2 q0 2 ha rfl (sv_inb_in hin) hd (kk H locs ls h1 h2 h3 h4 h5)
theorem sv_aald {a n : Nat} {f : Nat → Option Nat} {t0 : Nat} {cA : ClassId} {K : String} {i : Int32} (C : sv_C E X cc own sx) (q0 : Nat) (ht : (sv_tys E)[t0]? = some (cA, .object K)) (ha : wd[q0]? = some (a, .inl (cA, n, .inr (.inr (.inr (.inr f)))))) (hin : sv_inb i n = true) (hd : decode cc pc = .ok (.aaload, 1)) (kk : sv_J E X wd sz ce sl (pc + 1) lv (va_rf (f i.toNatClampNeg) :: st)) : sv_J E X wd sz ce sl pc lv (.int i :: .ref a :: st) := by
  obtain ⟨p, l, e, R, s, m, args, below, meth, c, Q, A, nL⟩ := X
  exact fun H locs ls h1 h2 h3 h4 h5 => va_aldq C.1.1 C.1.2.1 C.2.1 h2 q0 t0 ha ht (sv_inb_in hin) hd (kk H locs ls h1 h2 h3 h4 h5)
theorem sv_alen {a t0 : Nat} {cA : ClassId} {x : vp_A} {ty : FieldType} (C : sv_C E X cc own sx) (q0 : Nat) (ht : (sv_tys E)[t0]? = some (cA, ty)) (ha : wd[q0]? = some (a, .inl (cA, x))) (hd : decode cc pc = .ok (.arraylength, 1)) (kk : sv_J E X wd sz ce sl (pc + 1) lv (.int (Int32.ofNat x.1) :: st)) : sv_J E X wd sz ce sl pc lv (.ref a :: st) := by
  obtain ⟨p, l, e, R, s, m, args, below, meth, c, Q, A, nL⟩ := X
  exact fun H locs ls h1 h2 h3 h4 h5 => va_alen C.1.1 C.1.2.1 C.2.1 h2 q0 t0 ha ht rfl hd (kk H locs ls h1 h2 h3 h4 h5)
theorem sv_celli {cA : ClassId} {n j : Nat} {f : Nat → Int32} {x : Int32} : (vp_cell cA (n, .inl f)).setSlot j (.int x) = vp_cell cA (n, .inl (upd f j x)) := by
  rw [vp_cell_i, vp_cell_i, arrV_store]
  congr 2
  funext q
  by_cases hq : q = j
  · subst hq
    simp [updV, upd]
  · simp [updV, upd, hq]
theorem sv_iast {a n : Nat} {f : Nat → Int32} {i x : Int32} (C : sv_C E X cc own sx) (q0 : Nat) (ha : wd[q0]? = some (a, .inl (E.2.1 1, n, .inl f))) (hin : sv_inb i n = true) (hd : decode cc pc = .ok (.iastore, 1)) (kk : sv_J E X (wd.set q0 (a, .inl (E.2.1 1, n, .inl (upd f i.toNatClampNeg x)))) sz ce sl (pc + 1) lv st) : sv_J E X wd sz ce sl pc lv (.int x :: .int i :: .ref a :: st) := by
  obtain ⟨p, l, e, R, s, m, args, below, meth, c, Q, A, nL⟩ := X
  obtain ⟨⟨hx, hb, hml, hown, hts⟩, hK, hC⟩ := C
  intro H locs ls g1 hP hD hS g5
  have hin := sv_inb_in hin
  refine W.iast hx hb (hP q0 _ ha) ((hK.2 1 _ rfl).1 n (fun j => .int (f j))) (fun q => by cases q) (by show ¬ (i < 0 ∨ (arrV _ _ _).slots.size ≤ _); rw [arrV_size]; exact hin) rfl rfl hd fun H1 e1 z oq => ?_
  exact kk H1 _ ls (z.trans g1) (hP.set hD ha (by show H1[a]? = some (vp_cell _ _); rw [e1]; exact congrArg some sv_celli) oq) (hD.set ha) (hS.put z oq (hD.2 q0 _ ha)) g5
theorem sv_nrb {x : Int32} : narrow .byte (.int x) = .int (vp_nar .byte x) := rfl
theorem sv_nrz {x : Int32} : narrow .boolean (.int x) = .int (vp_nar .boolean x) := rfl
theorem sv_bast {a n : Nat} {f : Nat → Int32} {i x : Int32} (C : sv_C E X cc own sx) (q0 : Nat) (ha : wd[q0]? = some (a, .inl (E.2.1 0, n, .inl f))) (hin : sv_inb i n = true) (hd : decode cc pc = .ok (.bastore, 1)) (kk : sv_J E X (wd.set q0 (a, .inl (E.2.1 0, n, .inl (upd f i.toNatClampNeg (vp_nar .byte x))))) sz ce sl (pc + 1) lv st) : sv_J E X wd sz ce sl pc lv (.int x :: .int i :: .ref a :: st) := by
  obtain ⟨p, l, e, R, s, m, args, below, meth, c, Q, A, nL⟩ := X
  obtain ⟨⟨hx, hb, hml, hown, hts⟩, hK, hC⟩ := C
  intro H locs ls g1 hP hD hS g5
  have hin := sv_inb_in hin
  refine W.bast hx hb (hP q0 _ ha) ((hK.2 0 _ rfl).1 n (fun j => .int (f j))) (fun q => by cases q) (by show ¬ (i < 0 ∨ (arrV _ _ _).slots.size ≤ _); rw [arrV_size]; exact hin) rfl rfl hd fun H1 e1 z oq => ?_
  exact kk H1 _ ls (z.trans g1) (hP.set hD ha (by show H1[a]? = some (vp_cell _ _); rw [e1]; exact congrArg some (sv_celli (x := vp_nar .byte x))) oq) (hD.set ha) (hS.put z oq (hD.2 q0 _ ha)) g5
theorem sv_zast {a n : Nat} {f : Nat → Int32} {i x : Int32} (C : sv_C E X cc own sx) (q0 : Nat) (ha : wd[q0]? = some (a, .inl (E.2.1 2, n, .inl f))) (hin : sv_inb i n = true) (hd : decode cc pc = .ok (.bastore, 1)) (kk : sv_J E X (wd.set q0 (a, .inl (E.2.1 2, n, .inl (upd f i.toNatClampNeg (vp_nar .boolean x))))) sz ce sl (pc + 1) lv st) : sv_J E X wd sz ce sl pc lv (.int x :: .int i :: .ref a :: st) := by
  obtain ⟨p, l, e, R, s, m, args, below, meth, c, Q, A, nL⟩ := X
  obtain ⟨⟨hx, hb, hml, hown, hts⟩, hK, hC⟩ := C
  intro H locs ls g1 hP hD hS g5
  have hin := sv_inb_in hin
  refine W.zast hx hb (hP q0 _ ha) ((hK.2 2 _ rfl).1 n (fun j => .int (f j))) (fun q => by cases q) (by show ¬ (i < 0 ∨ (arrV _ _ _).slots.size ≤ _); rw [arrV_size]; exact hin) rfl rfl hd fun H1 e1 z oq => ?_
  exact kk H1 _ ls (z.trans g1) (hP.set hD ha (by show H1[a]? = some (vp_cell _ _); rw [e1]; exact congrArg some (sv_celli (x := vp_nar .boolean x))) oq) (hD.set ha) (hS.put z oq (hD.2 q0 _ ha)) g5
end SVB
section SVC
variable {p : Program} {l : Launch} {e : Env} {R : Room} {s : State} {m : MethodId} {args : Array Value} {below : List Frame} {meth : Method} {c : Code} {H : Heap} {locs : List Loc} {cells slots : Nat} {Q : State → Prop}
variable {pc : Nat} {ls : Array Slot} {rest st0 : List Value} {a : Array Value} {A : Nat → Prop} {mc ms : Nat}
/-- behind a call -/
theorem sv_cont {E : sv_E} {wd wd' : va_W} {sz sz' : Nat} {res : Option Value} (hr : va_Run p l e R s m args below meth c H locs cells slots mc ms (F0 m pc ls st0) rest (sv_Q E wd sz res wd' sz' a) (va_A wd sz)) (hS : va_S A s.heap H locs) (hf : ∀ q, va_A wd sz q → A q)
    (kk : ∀ (H1 : Heap) (locs1 : List Loc), H1.size = sz' → va_P E.1 vwCl wd' H1 → va_D A wd' → (∀ q : Nat, q < H.size → ¬ va_A wd sz q → H1[q]? = H[q]?) → va_D (va_A wd sz) wd' → va_S A s.heap H1 locs1 → W p l e R s m args below meth c H1 locs1 (cells + mc) (slots + ms) Q (F0 m (pc + 3) ls (res.toList ++ rest))) : W p l e R s m args below meth c H locs cells slots Q (F0 m pc ls st0) := by
  intro T hT X
  obtain ⟨v, st₀, t, T', L, h0, X', hL, e1, e2, ⟨⟨hv, hz', hp, hd⟩, hz, hk⟩, st⟩ := hr T hT X
  cases hv
  rw [h0] at hz hk
  obtain ⟨t2, a1, b1⟩ := kk T'.heap (locs ++ L) (by rw [e1]; exact hz') (by rw [e1]; exact hp) (hd.weaken (fun _ _ _ h => hf _ h)) (fun q h1 h2 => by rw [e1]; exact hk q h1 h2) hd
    ⟨Nat.le_trans hS.1 (by rw [e1]; exact hz), fun q h1 h2 => by rw [e1, hk q (Nat.lt_of_lt_of_le h1 hS.1) (fun z => h2 (hf q z))]; exact hS.2.1 q h1 h2, fun q hq => by
      rcases List.mem_append.mp hq with h | h
      · exact hS.2.2 q h
      · exact hf _ (hL q h)⟩ T' rfl X'
  exact ⟨t2, st t2 a1, b1⟩
/-- what a contract's start asks, at a call -/
theorem sv_blind {E : sv_E} {sx : List (Nat × Nat × List Int32)} {vs : List Value} {wd : va_W} {sz : Nat} : FrameBlind (sv_Pre E sx vs wd sz) := fun a U g mk q => by
  obtain ⟨q0, q1, qP, qK, qD, qE, qX⟩ := q
  exact ⟨q0, q1, qP, va_K.moved (u := U) (U := U.calling g mk a) (Vm.Alike.refl U.vm) qK, qD, qE.move (fun _ _ _ _ h => vk_R.same (u := U) (U := U.calling g mk a) rfl h) (fun _ _ _ _ h => va_Nw.same (u := U) (U := U.calling g mk a) rfl rfl h) (Vm.Alike.refl U.vm) (fun _ _ _ => rfl) (fun _ h => h), fun x hx => (qX x hx).move (U := U.calling g mk a) (Vm.Alike.refl U.vm) (fun _ _ _ => rfl) (fun _ h => h)⟩
theorem sv_pre {E : sv_E} {sx sx' : List (Nat × Nat × List Int32)} {vs : List Value} {wd wd0 : va_W} {sz : Nat} (hK : va_K E.1 vwCl (sv_tys E) s) (hE : sv_En E A s s.heap) (hX : ∀ x ∈ sx', sv_St x.1 x.2.1 x.2.2 A s s.heap) (hsz : H.size = sz) (hP : va_P E.1 vwCl wd H) (hD : va_D A wd) (hS : va_S A s.heap H locs) (hf : ∀ q, va_A wd sz q → A q) : ∀ U : State, U.heap = H → s.WarmedH U.vm → sv_Pre E sx' vs wd sz vs.toArray U := fun U hU hW => by
  refine ⟨rfl, by rw [hU]; exact hsz, by rw [hU]; exact hP, va_K.moved hW.alike hK, hD.weaken (fun _ _ _ _ => trivial), hE.move (fun _ _ _ _ h => vk_R.warm hW h) (fun _ _ _ _ h => va_Nw.warmM hW h) hW.alike (fun q h1 h2 => by rw [hU]; exact hS.2.1 q h1 h2) hf, fun x hx => (hX x hx).move hW.alike (fun q h1 h2 => by rw [hU]; exact hS.2.1 q h1 h2) hf⟩
theorem sv_free {wd : va_W} (hA : ∀ q, s.heap.size ≤ q → A q) (hD : va_D A wd) (hS : va_S A s.heap H locs) : ∀ q, va_A wd H.size q → A q := fun q h => by
  rcases h with ⟨k, x, h⟩ | h
  · exact hD.2 k _ h
  · exact hA q (Nat.le_trans hS.1 h)
end SVC
section SVD
variable {E : sv_E} {X : sv_X} {cc : ByteArray} {own : String} {sx sx' : List (Nat × Nat × List Int32)} {wd wd' : va_W} {sz sz' ce sl pc : Nat} {lv lv' : List (Nat × Value)} {st rest : List Value}
variable {index : Nat} {y : MethodName} {cb : ByteArray} {mL : Nat} {rt : Option FieldType} {n fr lo : Nat} {As : List Value} {b : Nat} {res : Option Value} {mc ms : Nat}
/-- the strings that a callee is given: the caller's, or constants -/
def sv_sxs (E : sv_E) (sx sx' : List (Nat × Nat × List Int32)) : Prop := ∀ x ∈ sx', x ∈ sx ∨ ∃ i q, sv_strs[i]? = some q ∧ x = (E.2.2.1 i, E.2.2.2.1 i, q.2.2.2)
theorem sv_sx0 : sv_sxs E sx [] := fun x h => absurd h List.not_mem_nil
theorem sv_sx1 : sv_sxs E sx sx := fun x h => Or.inl h
theorem sv_sxi {i : Nat} {q : String × Nat × String × List Int32} (h : sv_strs[i]? = some q) : sv_sxs E sx [(E.2.2.1 i, E.2.2.2.1 i, q.2.2.2)] := fun x hx => by
  simp only [List.mem_cons, List.not_mem_nil, or_false] at hx
  exact Or.inr ⟨i, q, h, hx⟩
theorem sv_sxu {A : Nat → Prop} {s : State} (hE : sv_En E A s s.heap) (hX : ∀ x ∈ sx, sv_St x.1 x.2.1 x.2.2 A s s.heap) (h : sv_sxs E sx sx') : ∀ x ∈ sx', sv_St x.1 x.2.1 x.2.2 A s s.heap := fun x hx => by
  rcases h x hx with h | ⟨i, q, h, rfl⟩
  · exact hX x h
  · exact (hE.1 i q h).2
/-- invokevirtual, the receiver an object of the world -/
theorem sv_callV {ci : Nat} {fs : List Value} (C : sv_C E X cc own sx) (L : sv_MV own index y cb mL rt n) (M : sv_Met (sv_l X) E y cb mL rt fr lo sx' (.ref b :: As) wd sz res wd' sz' mc ms) (hsx : sv_sxs E sx sx') (q0 : Nat) (he : wd[q0]? = some (b, .inr (ci, fs))) (hc : (vwCl[ci]?).map (fun q => q.1) = some y.cls) (hn : As.length = n) (hst : st = As.reverse ++ .ref b :: rest) (hw : (rest.map fun v => v.category).sum ≤ 8)
    (hR : fr + 1 ≤ (sv_R X).frames ∧ 8 + (mL + 11) + lo ≤ (sv_R X).locals) (hcs : ce + mc ≤ (sv_R X).cells ∧ sl + ms ≤ (sv_R X).slots) (hd : decode cc pc = .ok (.invokevirtual index, 3)) (kk : sv_J E X wd' sz' (ce + mc) (sl + ms) (pc + 3) lv (res.toList ++ rest)) : sv_J E X wd sz ce sl pc lv st := by
  obtain ⟨p, l, e, R, s, m, args, below, meth, c, Q, A, nL⟩ := X
  obtain ⟨S, hK, hlk, hA, hE, hX⟩ := C
  intro H locs ls g1 hP hD hS g5
  subst g1
  have hf := sv_free hA hD hS
  cases hcq : vwCl[ci]? with
  | none => rw [hcq] at hc; cases hc
  | some q =>
    rw [hcq] at hc
    have hq : q.1 = y.cls := Option.some.inj hc
    have hrec := va_recv hK hP hcq he
    rw [hq] at hrec
    refine sv_cont (va_runV (As := As) (rest := rest) S M (cwV n S.2.2.2.2 L.1 rfl rfl rfl ⟨rfl, L.2⟩ hR) ⟨sv_blind, hrec, sv_pre (wd0 := wd) (sx := sx) hK hE (sv_sxu hE hX hsx) rfl hP hD hS hf⟩ rfl hn g5.1 hst (lv_room hw) hd hcs) hS hf (fun H1 locs1 k1 k2 k3 k4 k5 k6 => kk H1 locs1 ls k1 k2 k3 k6 g5)
/-- invokestatic -/
theorem sv_callS (C : sv_C E X cc own sx) (L : sv_MS own index y cb mL rt n) (M : sv_Met (sv_l X) E y cb mL rt fr lo sx' As wd sz res wd' sz' mc ms) (hsx : sv_sxs E sx sx') (hn : As.length = n) (hst : st = As.reverse ++ rest) (hw : (rest.map fun v => v.category).sum ≤ 8)
    (hR : fr + 1 ≤ (sv_R X).frames ∧ 8 + (mL + 11) + lo ≤ (sv_R X).locals) (hcs : ce + mc ≤ (sv_R X).cells ∧ sl + ms ≤ (sv_R X).slots) (hd : decode cc pc = .ok (.invokestatic index, 3)) (kk : sv_J E X wd' sz' (ce + mc) (sl + ms) (pc + 3) lv (res.toList ++ rest)) : sv_J E X wd sz ce sl pc lv st := by
  obtain ⟨p, l, e, R, s, m, args, below, meth, c, Q, A, nL⟩ := X
  obtain ⟨S, hK, hlk, hA, hE, hX⟩ := C
  intro H locs ls g1 hP hD hS g5
  subst g1
  have hf := sv_free hA hD hS
  have hgood : GoodIn sv_w (Cond.code y cb mL rt :: sv_w) := sv_gds (fun w hw => by
    rcases List.mem_cons.mp hw with rfl | hw
    · exact L.1.2.2.2
    · exact hw)
  refine sv_cont (va_runS (As := As) (rest := rest) S M ⟨callB_of n S.2.2.2.2 hgood rfl rfl rfl (S.2.2.2.2 _ L.1.2.2.1) (S.2.2.2.2 _ L.1.1) L.2 hR, S.2.2.2.2 _ L.1.2.1⟩ ⟨sv_blind, sv_pre (wd0 := wd) (sx := sx) hK hE (sv_sxu hE hX hsx) rfl hP hD hS hf⟩ rfl hn g5.1 hst (lv_room hw) hd hcs) hS hf (fun H1 locs1 k1 k2 k3 k4 k5 k6 => kk H1 locs1 ls k1 k2 k3 k6 g5)
end SVD
