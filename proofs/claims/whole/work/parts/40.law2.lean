/-! ===== rows for the law: calls on a part of the world, the script, the end ===== -/
section LWR
variable {E : sv_E} {X : sv_X} {cc : ByteArray} {own : String} {sx sx' : List (Nat × Nat × List Int32)} {w1 wd wd' : va_W} {sz sz' ce sl pc : Nat} {lv : List (Nat × Value)} {st rest : List Value}
variable {index : Nat} {y : MethodName} {cb : ByteArray} {mL : Nat} {rt : Option FieldType} {n fr lo : Nat} {As : List Value} {b : Nat} {res : Option Value} {mc ms : Nat}
theorem sv_callVP {ci : Nat} {fs : List Value} (C : sv_C E X cc own sx) (L : sv_MV own index y cb mL rt n) (M : sv_Met (sv_l X) E y cb mL rt fr lo sx' (.ref b :: As) wd sz res wd' sz' mc ms) (hsx : sv_sxs E sx sx') (q0 : Nat) (he : wd[q0]? = some (b, .inr (ci, fs))) (hc : (vwCl[ci]?).map (fun q => q.1) = some y.cls) (hn : As.length = n) (hst : st = As.reverse ++ .ref b :: rest) (hw : (rest.map fun v => v.category).sum ≤ 8)
    (hR : fr + 1 ≤ (sv_R X).frames ∧ 8 + (mL + 11) + lo ≤ (sv_R X).locals) (hcs : ce + mc ≤ (sv_R X).cells ∧ sl + ms ≤ (sv_R X).slots) (hd : decode cc pc = .ok (.invokevirtual index, 3)) (kk : sv_J E X (w1 ++ wd') sz' (ce + mc) (sl + ms) (pc + 3) lv (res.toList ++ rest)) : sv_J E X (w1 ++ wd) sz ce sl pc lv st := by
  obtain ⟨p, l, e, R, s, m, args, below, meth, c, Q, A, nL⟩ := X
  obtain ⟨S, hK, hlk, hA, hE, hX⟩ := C
  intro H locs ls g1 hP hD hS g5
  subst g1
  have hPr := sv_Pr hP
  have hDr := sv_Dr hD
  have hf := sv_free hA hDr hS
  cases hcq : vwCl[ci]? with
  | none => rw [hcq] at hc; cases hc
  | some q =>
    rw [hcq] at hc
    have hq : q.1 = y.cls := Option.some.inj hc
    have hrec := va_recv hK hPr hcq he
    rw [hq] at hrec
    refine sv_cont (va_runV (As := As) (rest := rest) S M (cwV n S.2.2.2.2 L.1 rfl rfl rfl ⟨rfl, L.2⟩ hR) ⟨sv_blind, hrec, sv_pre (wd0 := wd) (sx := sx) hK hE (sv_sxu hE hX hsx) rfl hPr hDr hS hf⟩ rfl hn g5.1 hst (lv_room hw) hd hcs) hS hf (fun H1 locs1 k1 k2 k3 k4 k5 k6 => ?_)
    obtain ⟨pp, dd⟩ := sv_part hP hD rfl k4 k2 k5 hf
    exact kk H1 locs1 ls k1 pp dd k6 g5
theorem sv_callIP (C : sv_C E X cc own sx) (L : sv_MI own index y cb mL n) (M : sv_Met (sv_l X) E y cb mL none fr lo sx' (.ref b :: As) wd sz none wd' sz' mc ms) (hsx : sv_sxs E sx sx') (hn : As.length = n) (hst : st = As.reverse ++ .ref b :: rest) (hw : (rest.map fun v => v.category).sum ≤ 8)
    (hR : fr + 1 ≤ (sv_R X).frames ∧ 8 + (mL + 11) + lo ≤ (sv_R X).locals) (hcs : ce + mc ≤ (sv_R X).cells ∧ sl + ms ≤ (sv_R X).slots) (hd : decode cc pc = .ok (.invokespecial index, 3)) (kk : sv_J E X (w1 ++ wd') sz' (ce + mc) (sl + ms) (pc + 3) lv rest) : sv_J E X (w1 ++ wd) sz ce sl pc lv st := by
  obtain ⟨p, l, e, R, s, m, args, below, meth, c, Q, A, nL⟩ := X
  obtain ⟨S, hK, hlk, hA, hE, hX⟩ := C
  intro H locs ls g1 hP hD hS g5
  subst g1
  have hPr := sv_Pr hP
  have hDr := sv_Dr hD
  have hf := sv_free hA hDr hS
  refine sv_cont (va_runI (As := As) (rest := rest) S M (cwI n S.2.2.2.2 (sv_gdc L.1.2.2.2) rfl rfl rfl (S.2.2.2.2 _ L.1.2.2.1) (S.2.2.2.2 _ L.1.1) (S.2.2.2.2 _ L.1.2.1) L.2.2 L.2.1 hR) ⟨sv_blind, sv_pre (wd0 := wd) (sx := sx) hK hE (sv_sxu hE hX hsx) rfl hPr hDr hS hf⟩ rfl hn g5.1 hst (lv_room hw) hd hcs) hS hf (fun H1 locs1 k1 k2 k3 k4 k5 k6 => ?_)
  obtain ⟨pp, dd⟩ := sv_part hP hD rfl k4 k2 k5 hf
  exact kk H1 locs1 ls k1 pp dd k6 g5
def sv_MSW (own : String) (index : Nat) (y : MethodName) (cb : ByteArray) (mL : Nat) (rt : Option FieldType) (hh : List (Nat × Nat × Nat × Nat)) (n : Nat) : Prop := (Cond.methodLink own index y ∈ sv_w ∧ Cond.static y ∈ sv_w ∧ Cond.initialized y.cls ∈ sv_w ∧ Cond.codeWith y cb mL rt hh ∈ sv_w) ∧ sv_dn y n
theorem mw_L_51 : sv_MSW RL 51 yL_fix cL_fix 4 (some .int) [(0, 9, 12, 13)] 3 := ⟨⟨kw_881, kw_882, kw_883, sv_m3 195 rfl rfl⟩, ⟨by decide, by decide, by decide +kernel⟩⟩
theorem mw_L_64 : sv_MSW RL 64 yL_vessel cL_vessel 5 (some .int) [(0, 10, 13, 13)] 4 := ⟨⟨kw_901, kw_902, kw_883, sv_m4 29 rfl rfl⟩, ⟨by decide, by decide, by decide +kernel⟩⟩
theorem mw_L_72 : sv_MSW RL 72 yL_bits cL_bits 5 (some .int) [(0, 10, 13, 13)] 4 := ⟨⟨kw_916, kw_917, kw_883, sv_m4 38 rfl rfl⟩, ⟨by decide, by decide, by decide +kernel⟩⟩
theorem mw_L_75 : sv_MSW RL 75 yL_send cL_send 6 (some .int) [(0, 12, 15, 13), (0, 12, 19, 26)] 5 := ⟨⟨kw_923, kw_924, kw_883, sv_m4 46 rfl rfl⟩, ⟨by decide, by decide, by decide +kernel⟩⟩
theorem sv_blindW {vs : List Value} : FrameBlind (sv_PreW E vs wd sz) := fun a U g mk q => ⟨sv_blindT a U g mk q.1, va_Nc.moved (u := U) (U := U.calling g mk a) (Vm.Alike.refl U.vm) q.2⟩
/-- a wrapper of the law, called on a part of the world -/
theorem sv_callSW {hh : List (Nat × Nat × Nat × Nat)} (C : sv_C E X cc own sx) (HX : sv_TX X) (L : sv_MSW own index y cb mL rt hh n) (M : sv_MetW (sv_l X) E y cb mL rt hh fr lo As wd sz res wd') (hn : As.length = n) (hst : st = As.reverse ++ rest) (hw : (rest.map fun v => v.category).sum ≤ 8)
    (hR : fr + 1 ≤ (sv_R X).frames ∧ 8 + (mL + 11) + lo ≤ (sv_R X).locals) (hcs : ce + 1 ≤ (sv_R X).cells ∧ sl + 6 ≤ (sv_R X).slots) (hd : decode cc pc = .ok (.invokestatic index, 3)) (kk : ∀ z : Nat, sz ≤ z → sv_J E X (w1 ++ wd') z (ce + 1) (sl + 6) (pc + 3) lv (res.toList ++ rest)) : sv_J E X (w1 ++ wd) sz ce sl pc lv st := by
  obtain ⟨p, l, e, R, s, m, args, below, meth, c, Q, A, nL⟩ := X
  obtain ⟨S, hK, hlk, hA, hE, hX⟩ := C
  obtain ⟨hTh, hxw, hNc⟩ := HX
  intro H locs ls g1 hP hD hS g5
  subst g1
  have hPr := sv_Pr hP
  have hDr := sv_Dr hD
  have hf := sv_free hA hDr hS
  have hgood : GoodIn sv_w (va_wsS own index y (Cond.codeWith y cb mL rt hh :: sv_w)) := sv_gds (fun w hw => by
    simp only [va_wsS, List.cons_append, List.nil_append, List.mem_cons] at hw
    rcases hw with rfl | rfl | rfl | rfl | hw
    · exact L.1.1
    · exact L.1.2.1
    · exact L.1.2.2.1
    · exact L.1.2.2.2
    · exact hw)
  have hpre : ∀ U : State, U.heap = H → s.WarmedH U.vm → sv_PreW E As wd H.size As.toArray U := fun U hU hW =>
    ⟨⟨sv_pre (wd0 := wd) (sx := []) (vs := As) hK hE (fun x h => absurd h List.not_mem_nil) rfl hPr hDr hS hf U hU hW, hTh.move hW.alike (fun q h1 h2 => by rw [hU]; exact hS.2.1 q h1 h2) hf, fun w hw => sv_xb_warm (sv_xw_w hw) hW (hxw w hw)⟩, va_Nc.moved hW.alike hNc⟩
  have hr := vx_runSW (p := p) (l := l) (e := e) (R := R) (s := s) (m := m) (args := args) (c := c) (H := H) (As := As) (rest := rest) (g := F0 m pc ls st) (locs := locs) (cells := ce) (slots := sl) (below := below) (meth := meth) S M (vx_cwSW n S.2.2.2.2 hgood rfl rfl rfl L.2 hR) ⟨sv_blindW, hpre⟩ rfl hn g5.1 hst (lv_room hw) hd hcs
  intro T hT Y
  obtain ⟨v, st₀, t, T', L', h0, X', hL, e1, e2, ⟨⟨hv, hz', hp1, hd1⟩, hz, hkp⟩, stp⟩ := hr T hT Y
  cases hv
  rw [h0] at hz hkp
  obtain ⟨pp, dd⟩ := sv_part hP hD rfl (H1 := T'.heap) (fun q h1 h2 => by rw [e1]; exact hkp q h1 h2) (by rw [e1]; exact hp1) hd1 hf
  have hS' : va_S A s.heap T'.heap (locs ++ L') := ⟨Nat.le_trans hS.1 (by rw [e1]; exact hz), fun q h1 h2 => by rw [e1, hkp q (Nat.lt_of_lt_of_le h1 hS.1) (fun z => h2 (hf q z))]; exact hS.2.1 q h1 h2, fun q hq => by
    rcases List.mem_append.mp hq with h | h
    · exact hS.2.2 q h
    · exact hf _ (hL q h)⟩
  obtain ⟨t2, a1, b1⟩ := kk T'.heap.size (by rw [e1]; exact hz') T'.heap (locs ++ L') ls rfl pp dd hS' g5 T' rfl X'
  exact ⟨t2, stp t2 a1, b1⟩
/-- the script -/
def sv_Sc (X : sv_X) (a L : Nat) (xs : Nat → Int32) : Prop := match X with
  | (_, _, _, _, s, _, _, _, _, _, _, A, _) => va_X a L xs s s.heap ∧ a < s.heap.size ∧ ¬ A a
theorem sv_sld {a L : Nat} {xs : Nat → Int32} {i : Int32} (C : sv_C E X cc own sx) (hS : sv_Sc X a L xs) (hin : sv_inb i L = true) (hd : decode cc pc = .ok (.iaload, 1)) (kk : sv_J E X wd sz ce sl (pc + 1) lv (.int (xs i.toNatClampNeg) :: st)) : sv_J E X wd sz ce sl pc lv (.int i :: .ref a :: st) := by
  obtain ⟨p, l, e, R, s, m, args, below, meth, c, Q, A, nL⟩ := X
  exact fun H locs ls h1 h2 h3 h4 h5 => va_sld C.1.1 C.1.2.1 hS.1 hS.2.1 hS.2.2 h4 (sv_inb_in hin) hd (kk H locs ls h1 h2 h3 h4 h5)
theorem sv_slen {a L : Nat} {xs : Nat → Int32} (C : sv_C E X cc own sx) (hS : sv_Sc X a L xs) (hd : decode cc pc = .ok (.arraylength, 1)) (kk : sv_J E X wd sz ce sl (pc + 1) lv (.int (Int32.ofNat L) :: st)) : sv_J E X wd sz ce sl pc lv (.ref a :: st) := by
  obtain ⟨p, l, e, R, s, m, args, below, meth, c, Q, A, nL⟩ := X
  exact fun H locs ls h1 h2 h3 h4 h5 => va_slen C.1.1 C.1.2.1 hS.1 hS.2.1 hS.2.2 h4 hd (kk H locs ls h1 h2 h3 h4 h5)
end LWR
/-- a new array of any kind of number, its length known -/
theorem md_mk {E : sv_E} {X : sv_X} {cc : ByteArray} {own : String} {sx : List (Nat × Nat × List Int32)} {wd : va_W} {sz ce sl pc : Nat} {lv : List (Nat × Value)} {st : List Value} {n : Int32} (N : Nat) {atype : ArrayType} {ty : FieldType} (t0 : Nat) {cA0 : ClassId} (hN : n.toNatClampNeg = N) (hty : newarray.typeOf atype = ty) (hdef : defaultValue ty = .int 0) (ht : (sv_tys E)[t0]? = some (cA0, ty)) (hra : ∀ (U : State) (cA : ClassId), va_RA U cA ty → U.vm.findClass ("[" ++ ty.toString) = some cA) (C : sv_C E X cc own sx) (hw : Cond.arrayClass ty ∈ sv_w) (hn : (decide (¬ n < 0) && decide (n.toNatClampNeg * componentBytes ty ≤ 536870912)) = true) (hcs : ce + 1 ≤ (sv_R X).cells ∧ sl + N ≤ (sv_R X).slots) (hd : decode cc pc = .ok (.newarray atype, 2)) (kk : sv_J E X (wd ++ [(sz, .inl (cA0, N, .inl (fun _ => 0)))]) (sz + 1) (ce + 1) (sl + N) (pc + 2) lv (.ref sz :: st)) : sv_J E X wd sz ce sl pc lv (.int n :: st) := by
  subst hN
  exact sv_newa t0 hty hdef ht hra C hw hn hcs hd kk
