/-! ===== calls on a part of the world; the law's wrappers, which catch ===== -/
theorem sv_part {E : sv_E} {A : Nat → Prop} {w1 wd wd' : va_W} {H H1 : Heap} {sz : Nat} (hP : va_P E.1 vwCl (w1 ++ wd) H) (hD : va_D A (w1 ++ wd)) (hsz : H.size = sz) (hk : ∀ q : Nat, q < H.size → ¬ va_A wd sz q → H1[q]? = H[q]?) (hP1 : va_P E.1 vwCl wd' H1) (hD1 : va_D (va_A wd sz) wd') (hf : ∀ q, va_A wd sz q → A q) : va_P E.1 vwCl (w1 ++ wd') H1 ∧ va_D A (w1 ++ wd') := by
  have hl : ∀ (k : Nat) (q : Nat × va_E), w1[k]? = some q → (w1 ++ wd)[k]? = some q := fun k q h => by
    rw [List.getElem?_append_left (List.getElem?_eq_some_iff.mp h).1]; exact h
  have hr : ∀ (k : Nat) (q : Nat × va_E), wd[k]? = some q → (w1 ++ wd)[w1.length + k]? = some q := fun k q h => by
    rw [List.getElem?_append_right (Nat.le_add_right _ _), Nat.add_sub_cancel_left]; exact h
  have apart : ∀ (k : Nat) (q : Nat × va_E), w1[k]? = some q → q.1 < H.size ∧ ¬ va_A wd sz q.1 := fun k q h => by
    have h1 := (hP k q (hl k q h)).lt
    refine ⟨h1, fun h2 => ?_⟩
    rcases h2 with ⟨j, e, h2⟩ | h2
    · have h3 := hD.1 k (w1.length + j) q (q.1, e) (hl k q h) (hr j _ h2) rfl
      have h4 := (List.getElem?_eq_some_iff.mp h).1
      omega
    · omega
  refine ⟨va_P.app (fun k q h => ?_) hP1, va_D.app ⟨fun i j x y hi hj he => hD.1 i j x y (hl i x hi) (hl j y hj) he, fun k q h => hD.2 k q (hl k q h)⟩ (hD1.weaken (fun _ _ _ h => hf _ h)) (fun i j x y hx hy he => ?_)⟩
  · exact (hP k q (hl k q h)).kept (hk _ (apart k q h).1 (apart k q h).2)
  · exact (apart i x hx).2 (by rw [he]; exact hD1.2 j y hy)
theorem sv_Pr {E : sv_E} {w1 wd : va_W} {H : Heap} (hP : va_P E.1 vwCl (w1 ++ wd) H) : va_P E.1 vwCl wd H := fun k q h => hP (w1.length + k) q (by rw [List.getElem?_append_right (Nat.le_add_right _ _), Nat.add_sub_cancel_left]; exact h)
theorem sv_Dr {A : Nat → Prop} {w1 wd : va_W} (hD : va_D A (w1 ++ wd)) : va_D A wd := by
  have hr : ∀ (k : Nat) (q : Nat × va_E), wd[k]? = some q → (w1 ++ wd)[w1.length + k]? = some q := fun k q h => by
    rw [List.getElem?_append_right (Nat.le_add_right _ _), Nat.add_sub_cancel_left]; exact h
  refine ⟨fun i j x y hi hj he => ?_, fun k q h => hD.2 _ q (hr k q h)⟩
  have := hD.1 _ _ x y (hr i x hi) (hr j y hj) he
  omega
/-- the world in another order -/
theorem sv_swap {E : sv_E} {X : sv_X} {w1 w2 : va_W} {sz ce sl pc : Nat} {lv : List (Nat × Value)} {st : List Value} (kk : sv_J E X (w2 ++ w1) sz ce sl pc lv st) : sv_J E X (w1 ++ w2) sz ce sl pc lv st := by
  obtain ⟨p, l, e, R, s, m, args, below, meth, c, Q, A, nL⟩ := X
  intro H locs ls h1 hP hD hS h5
  have hPl : va_P E.1 vwCl w1 H := fun k q h => hP k q (by rw [List.getElem?_append_left (List.getElem?_eq_some_iff.mp h).1]; exact h)
  have hl : ∀ (k : Nat) (q : Nat × va_E), w1[k]? = some q → (w1 ++ w2)[k]? = some q := fun k q h => by
    rw [List.getElem?_append_left (List.getElem?_eq_some_iff.mp h).1]; exact h
  have hr : ∀ (k : Nat) (q : Nat × va_E), w2[k]? = some q → (w1 ++ w2)[w1.length + k]? = some q := fun k q h => by
    rw [List.getElem?_append_right (Nat.le_add_right _ _), Nat.add_sub_cancel_left]; exact h
  refine kk H locs ls h1 ((sv_Pr hP).app hPl) ((sv_Dr hD).app ⟨fun i j x y hi hj he => hD.1 i j x y (hl i x hi) (hl j y hj) he, fun k q h => hD.2 k q (hl k q h)⟩ (fun i j x y hx hy he => ?_)) hS h5
  have h3 := hD.1 _ _ x y (hr i x hx) (hl j y hy) he
  have h4 := (List.getElem?_eq_some_iff.mp hy).1
  omega
def sv_TX (X : sv_X) : Prop := match X with
  | (_, _, _, _, s, _, _, _, _, _, _, A, _) => sv_Th A s s.heap ∧ (∀ w ∈ sv_xw, va_Nw w s) ∧ va_Nc sv_iae sv_nse s
def sv_tb (X : sv_X) : List ExceptionTableEntry := match X with
  | (_, _, _, _, _, _, _, _, _, c, _, _, _) => c.exceptionTable.toList
def sv_PreW (E : sv_E) (vs : List Value) (wd : va_W) (sz : Nat) : Array Value → State → Prop := fun a U => sv_PreT E vs wd sz a U ∧ va_Nc sv_iae sv_nse U
/-- an end whose heap may have grown -/
def sv_QE (E : sv_E) (wd : va_W) (sz : Nat) (res : Option Value) (wd' : va_W) : Array Value → State → Outcome → State → Prop := fun _ st oc t => (oc = .returned res ∧ sz ≤ t.heap.size ∧ va_P E.1 vwCl wd' t.heap ∧ va_D (va_A wd sz) wd') ∧ va_F (va_A wd sz) st t
def sv_MetW (l : Launch) (E : sv_E) (y : MethodName) (cc : ByteArray) (mL : Nat) (rt : Option FieldType) (hh : List (Nat × Nat × Nat × Nat)) (fr lo : Nat) (vs : List Value) (wd : va_W) (sz : Nat) (res : Option Value) (wd' : va_W) : Prop :=
  Met l y (Cond.codeWith y cc mL rt hh :: sv_w) { frames := fr, cells := 1, slots := 6, locals := lo } (sv_PreW E vs wd sz) (sv_QE E wd sz res wd') 1 6 (va_A wd sz)
def sv_ZE (E : sv_E) (X : sv_X) (rt : Option FieldType) (res : Option Value) (wd' : va_W) (sz : Nat) : Prop := match X with
  | (_, _, _, _, s, _, args, below, meth, _, Q, A, _) => meth.sig.returnType = rt ∧ (∃ wd, A = va_A wd sz ∧ Q = MQ below (sv_QE E wd sz res wd') args s 1 6 A)
section WRP
variable {E : sv_E} {X : sv_X} {cc : ByteArray} {own : String} {sx : List (Nat × Nat × List Int32)} {w1 wd wd' : va_W} {sz sz' ce sl pc : Nat} {lv : List (Nat × Value)} {st rest : List Value}
theorem sv_ofJW {l : Launch} {y : MethodName} {mL : Nat} {rt : Option FieldType} {hh : List (Nat × Nat × Nat × Nat)} {fr lo : Nat} {vs : List Value} {res : Option Value} (hy : plainName y.cls = true) (hvs : (lg_sl vs).length ≤ mL)
    (h : ∀ X : sv_X, sv_l X = l → sv_nL X = mL → sv_tb X = tableOf hh → sv_R X = { frames := fr, cells := 1, slots := 6, locals := lo } → sv_C E X cc y.cls [] → sv_TX X → sv_ZE E X rt res wd' sz → sv_J E X wd sz 0 0 0 (lv_args 0 vs) []) : sv_MetW l E y cc mL rt hh fr lo vs wd sz res wd' := by
  refine va_MetW (cc := cc) (maxL := mL) (ret := rt) (hh := hh) hy rfl ?_
  intro p e s m args below meth c s₁ B hml hv
  obtain ⟨⟨⟨rfl, hsz, hP, hK, hD0, hE, hX⟩, hTh, hxw⟩, hNc⟩ := hv
  have hts := atoms_spec (ws := Cond.codeWith y cc mL rt hh :: sv_w) B.pre
  have hown : s.vm.findClass y.cls = some m.cls := findClass_of_methodNamed B.named
  have htb := vx_table (x := y) B (hts _ List.mem_cons_self)
  subst hsz
  have hD := hD0.self (sz := s.heap.size)
  have hA : ∀ q : Nat, s.heap.size ≤ q → va_A wd s.heap.size q := fun q h => Or.inr h
  have hlv := lv_entry vs (n := mL) hvs
  have hk := h (p, l, e, { frames := fr, cells := 1, slots := 6, locals := lo }, s, m, vs.toArray, below, meth, c, MQ below (sv_QE E wd s.heap.size res wd') vs.toArray s 1 6 (va_A wd s.heap.size), va_A wd s.heap.size, mL) rfl rfl htb rfl
    ⟨⟨B.exec, B.bytes, hml, hown, fun w hw => hts w (List.mem_cons_of_mem _ hw)⟩, hK, B.notSynchronized, hA, hE, hX⟩ ⟨hTh, hxw, hNc⟩ ⟨B.returns, wd, rfl, rfl⟩
  rw [lg_entry_eq]
  exact hk s.heap [] _ rfl hP hD va_S.rf hlv
theorem sv_iretE {v : Int32} (C : sv_C E X cc own sx) (hs : sz ≤ sz') (hc : ce ≤ 1) (hl : sl ≤ 6) (hZ : sv_ZE E X (some .int) (some (.int v)) wd sz) (hd : decode cc pc = .ok (.ireturn, 1)) : sv_J E X wd sz' ce sl pc lv [.int v] := by
  obtain ⟨p, l, e, R, s, m, args, below, meth, c, Q, A, nL⟩ := X
  obtain ⟨hr, wd0, rfl, rfl⟩ := hZ
  exact fun H locs ls h1 h2 h3 h4 h5 => W.widen hc hl (W.iret C.1.1 C.1.2.1 hr (fun t ht hW => ⟨⟨rfl, by rw [ht, h1]; exact hs, by rw [ht]; exact h2, h3⟩, h4.F ht⟩) h4.2.2 hd C.2.2.1)
theorem sv_last {a n : Nat} {f : Nat → Int64} {i : Int32} {x : Int64} (C : sv_C E X cc own sx) (q0 : Nat) (ha : wd[q0]? = some (a, .inl (E.2.1 3, n, .inr (.inl f)))) (hin : sv_inb i n = true) (hd : decode cc pc = .ok (.lastore, 1)) (kk : sv_J E X (wd.set q0 (a, .inl (E.2.1 3, n, .inr (.inl (vp_updL f i.toNatClampNeg x))))) sz ce sl (pc + 1) lv st) : sv_J E X wd sz ce sl pc lv (.long x :: .int i :: .ref a :: st) := by
  obtain ⟨p, l, e, R, s, m, args, below, meth, c, Q, A, nL⟩ := X
  obtain ⟨⟨hx, hb, hml, hown, hts⟩, hK, hC⟩ := C
  intro H locs ls g1 hP hD hS g5
  have hin := sv_inb_in hin
  refine W.last hx hb (hP q0 _ ha) ((hK.2 3 _ rfl).1 n (fun j => .long (f j))) (fun q => by cases q) (by show ¬ (i < 0 ∨ (arrV _ _ _).slots.size ≤ _); rw [arrV_size]; exact hin) rfl rfl hd fun H1 e1 z oq => ?_
  refine kk H1 _ ls (z.trans g1) (hP.set hD ha ?_ oq) (hD.set ha) (hS.put z oq (hD.2 q0 _ ha)) g5
  show H1[a]? = some (vp_cell _ _)
  rw [e1]
  rw [vp_cell_l, vp_cell_l, arrV_store]
  congr 2
  funext q
  by_cases hq : q = i.toNatClampNeg
  · subst hq
    simp [updV, vp_updL]
  · simp [updV, vp_updL, hq]
theorem sv_lald {a n : Nat} {f : Nat → Int64} {i : Int32} (C : sv_C E X cc own sx) (q0 : Nat) (ha : wd[q0]? = some (a, .inl (E.2.1 3, n, .inr (.inl f)))) (hin : sv_inb i n = true) (hd : decode cc pc = .ok (.laload, 1)) (kk : sv_J E X wd sz ce sl (pc + 1) lv (.long (f i.toNatClampNeg) :: st)) : sv_J E X wd sz ce sl pc lv (.int i :: .ref a :: st) := by
  obtain ⟨p, l, e, R, s, m, args, below, meth, c, Q, A, nL⟩ := X
  exact fun H locs ls h1 h2 h3 h4 h5 => va_lald C.1.1 C.1.2.1 C.2.1 h2 q0 3 ha rfl (sv_inb_in hin) hd (kk H locs ls h1 h2 h3 h4 h5)
variable {index : Nat} {y : MethodName} {cb : ByteArray} {mL : Nat} {rt : Option FieldType} {n fr lo : Nat} {As : List Value} {b : Nat} {res : Option Value} {k : Int32}
theorem sv_blindT {vs : List Value} : FrameBlind (sv_PreT E vs wd sz) := fun a U g mk q => ⟨sv_blind a U g mk q.1, q.2.1.move (U := U.calling g mk a) (Vm.Alike.refl U.vm) (fun _ _ _ => rfl) (fun _ h => h), fun w hw => sv_xb_same (sv_xw_w hw) (u := U) (U := U.calling g mk a) rfl (q.2.2 w hw)⟩
/-- a call that may throw, on a part of the world; x1, x2: the rows that catch -/
theorem sv_callX {ci : Nat} {fs : List Value} (C : sv_C E X cc own sx) (HX : sv_TX X) (L : sv_MV own index y cb mL rt n) (M : sv_MetX (sv_l X) E y cb mL rt fr lo (.ref b :: As) wd sz k res wd') (q0 : Nat) (he : wd[q0]? = some (b, .inr (ci, fs))) (hc : (vwCl[ci]?).map (fun q => q.1) = some y.cls) (hn : As.length = n) (hst : st = As.reverse ++ .ref b :: rest) (hw : (rest.map fun v => v.category).sum ≤ 8)
    (hR : fr + 1 ≤ (sv_R X).frames ∧ 8 + (mL + 11) + lo ≤ (sv_R X).locals) (hcs : ce + 1 ≤ (sv_R X).cells ∧ sl + 6 ≤ (sv_R X).slots) (hd : decode cc pc = .ok (.invokevirtual index, 3))
    (k0 : k = 0 → sv_J E X (w1 ++ wd') sz (ce + 1) (sl + 6) (pc + 3) lv (res.toList ++ rest))
    (x1 : ExceptionTableEntry) (s1 : List ExceptionTableEntry) (ht : sv_tb X = x1 :: s1) (hx1 : covers x1 pc = true) (hz1 : x1.catchType ≠ 0) (hl1 : Cond.classLink own x1.catchType sv_nse ∈ sv_w) (k1 : k = 1 → ∀ (z q : Nat), sz ≤ z → sv_J E X (w1 ++ wd') z (ce + 1) (sl + 6) x1.handlerPc lv [.ref q])
    (k2 : k = 2 → ∃ (x2 : ExceptionTableEntry) (s2 : List ExceptionTableEntry), s1 = x2 :: s2 ∧ covers x2 pc = true ∧ x2.catchType ≠ 0 ∧ Cond.classLink own x2.catchType sv_iae ∈ sv_w ∧ ∀ (z q : Nat), sz ≤ z → sv_J E X (w1 ++ wd') z (ce + 1) (sl + 6) x2.handlerPc lv [.ref q]) : sv_J E X (w1 ++ wd) sz ce sl pc lv st := by
  obtain ⟨p, l, e, R, s, m, args, below, meth, c, Q, A, nL⟩ := X
  obtain ⟨S, hK, hlk, hA, hE, hX⟩ := C
  obtain ⟨hTh, hxw, hNc⟩ := HX
  intro H locs ls g1 hP hD hS g5
  subst g1
  have hPr := sv_Pr hP
  have hDr := sv_Dr hD
  have hf := sv_free hA hDr hS
  cases hcq : vwCl[ci]? with
  | none => rw [hcq] at hc; cases hc
  | some q =>
    rw [hcq] at hc
    have hq : q.1 = y.cls := Option.some.inj hc
    have hrec := va_recv hK hPr hcq he
    rw [hq] at hrec
    have hpre : ∀ U : State, U.heap = H → s.WarmedH U.vm → sv_PreT E (.ref b :: As) wd H.size (Value.ref b :: As).toArray U := fun U hU hW =>
      ⟨sv_pre (wd0 := wd) (sx := []) (vs := .ref b :: As) hK hE (fun x h => absurd h List.not_mem_nil) rfl hPr hDr hS hf U hU hW, hTh.move hW.alike (fun q h1 h2 => by rw [hU]; exact hS.2.1 q h1 h2) hf, fun w hw => sv_xb_warm (sv_xw_w hw) hW (hxw w hw)⟩
    have hr := vx_runV (p := p) (l := l) (e := e) (R := R) (s := s) (m := m) (args := args) (c := c) (H := H) (b := b) (As := As) (rest := rest) (g := F0 m pc ls st) (locs := locs) (cells := ce) (slots := sl) (below := below) (meth := meth) S M (cwV n S.2.2.2.2 L.1 rfl rfl rfl ⟨rfl, L.2⟩ hR) ⟨sv_blindT, hrec, hpre⟩ rfl hn g5.1 hst (lv_room hw) hd hcs
    intro T hT Y
    rcases hr T hT Y with ⟨v, st₀, t, T', L', h0, X', hL, e1, e2, ⟨hk0, ⟨hv, hz', hp1, hd1⟩, hz, hkp⟩, stp⟩ | ⟨q9, st₀, t, T', L', En, cell, h0, X', hL, e1, e2, ⟨hkk, hzz, hp1, hd1, hz, hkp⟩, hce, hcv, hcl, stp⟩
    · cases hv
      rw [h0] at hz hkp
      obtain ⟨pp, dd⟩ := sv_part hP hD rfl (H1 := T'.heap) (fun q h1 h2 => by rw [e1]; exact hkp q h1 h2) (by rw [e1]; exact hp1) hd1 hf
      have hS' : va_S A s.heap T'.heap (locs ++ L') := ⟨Nat.le_trans hS.1 (by rw [e1]; exact hz), fun q h1 h2 => by rw [e1, hkp q (Nat.lt_of_lt_of_le h1 hS.1) (fun z => h2 (hf q z))]; exact hS.2.1 q h1 h2, fun q hq => by
        rcases List.mem_append.mp hq with h | h
        · exact hS.2.2 q h
        · exact hf _ (hL q h)⟩
      obtain ⟨t2, a1, b1⟩ := k0 hk0 T'.heap (locs ++ L') ls (by rw [e1]; exact hz') pp dd hS' g5 T' rfl X'
      exact ⟨t2, stp t2 a1, b1⟩
    · rw [h0] at hz hkp
      obtain ⟨pp, dd⟩ := sv_part hP hD rfl (H1 := T'.heap) (fun q h1 h2 => by rw [e1]; exact hkp q h1 h2) (by rw [e1]; exact hp1) hd1 hf
      have hS' : va_S A s.heap T'.heap (locs ++ L') := ⟨Nat.le_trans hS.1 (by rw [e1]; exact hz), fun q h1 h2 => by rw [e1, hkp q (Nat.lt_of_lt_of_le h1 hS.1) (fun z => h2 (hf q z))]; exact hS.2.1 q h1 h2, fun q hq => by
        rcases List.mem_append.mp hq with h | h
        · exact hS.2.2 q h
        · exact hf _ (hL q h)⟩
      have hwn : va_Nw (.castable sv_nse sv_nse) s := hxw _ (by decide +kernel)
      have hwi : va_Nw (.castable sv_iae sv_iae) s := hxw _ (by decide +kernel)
      rcases hkk with ⟨hk1, rfl⟩ | ⟨hk2, rfl⟩
      · obtain ⟨t2, a1, b1⟩ := sv_catch (own := own) (name := sv_nse) (E := sv_nse) (ce := cell) (q := q9) (pc := pc) (rest := rest) S.2.2.2.1 [] x1 s1 ht (fun z hz => absurd hz List.not_mem_nil) hx1 hz1 (S.2.2.2.2 _ hl1) (va_Nw.use rfl hwn) (by rw [e1]; exact hce) hcv hcl (k1 hk1 T'.heap.size q9 (by rw [e1]; exact hzz) T'.heap (locs ++ L') ls rfl pp dd hS' g5) T' rfl X'
        exact ⟨t2, stp.trans a1, b1⟩
      · obtain ⟨x2, s2, rfl, hx2, hz2, hl2, kk2⟩ := k2 hk2
        obtain ⟨t2, a1, b1⟩ := sv_catch (own := own) (name := sv_iae) (E := sv_iae) (ce := cell) (q := q9) (pc := pc) (rest := rest) S.2.2.2.1 [x1] x2 s2 ht (fun z hz => by
          rw [List.mem_singleton.mp hz]
          exact Or.inr ⟨hz1, sv_nse, S.2.2.2.2 _ hl1, hNc⟩) hx2 hz2 (S.2.2.2.2 _ hl2) (va_Nw.use rfl hwi) (by rw [e1]; exact hce) hcv hcl (kk2 T'.heap.size q9 (by rw [e1]; exact hzz) T'.heap (locs ++ L') ls rfl pp dd hS' g5) T' rfl X'
        exact ⟨t2, stp.trans a1, b1⟩
end WRP
