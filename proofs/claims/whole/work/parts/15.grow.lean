/-! ===== the heap grows: new objects, new arrays, references put; constructors called ===== -/
def gh_new (T : gh_T) (z c : Nat) : gh_T := (T.1 ++ [z], (fun x => if x = z then c else T.2.1 x), (fun k x => if x = z then none else T.2.2.1 k x), T.2.2.2.1, T.2.2.2.2)
def gh_nv (V : gh_V) (z : Nat) : gh_V := (fun k x => if x = z then 0 else V.1 k x, V.2)
def gh_newa (T : gh_T) (z c n : Nat) : gh_T := (T.1 ++ [z], (fun x => if x = z then c else T.2.1 x), T.2.2.1, (fun x => if x = z then n else T.2.2.2.1 x), (fun x i => if x = z then none else T.2.2.2.2 x i))
def gh_nva (V : gh_V) (z : Nat) : gh_V := (V.1, fun x => if x = z then (fun _ => 0) else V.2 x)
def gh_pr (T : gh_T) (k a : Nat) (r : Option Nat) : gh_T := (T.1, T.2.1, (fun j x => if j = k ∧ x = a then r else T.2.2.1 j x), T.2.2.2.1, T.2.2.2.2)
def gh_pq (T : gh_T) (a : Nat) (i : Int32) (r : Option Nat) : gh_T := (T.1, T.2.1, T.2.2.1, T.2.2.2.1, (fun x j => if x = a ∧ j = i.toNatClampNeg then r else T.2.2.2.2 x j))
section GRW
variable {E : sv_E} {X : sv_X} {cc : ByteArray} {own : String} {sx : List (Nat × Nat × List Int32)} {wd : va_W} {sz ce sl pc : Nat} {lv lv' : List (Nat × Value)} {st : List Value}
/-- a class that can be made: its place in vwCl, its word -/
def sv_CL (own : String) (index c : Nat) (Cn : String) (N : Nat) (fs : List Value) : Prop := ∃ (T : u_T) (ty : Nat → FieldType), vwCl[c]? = some (Cn, T, N) ∧ (∀ w ∈ u_ws Cn T N, w ∈ sv_w) ∧ (∀ k, k < N → parseFieldDescriptor (T k).2.2.1 = some (ty k)) ∧ (∀ j, j < N → defaultValue (ty j) = vp_V fs j) ∧ Cond.classLink own index Cn ∈ sv_w ∧ Cond.instantiable Cn N ∈ sv_w ∧ Cond.initialized Cn ∈ sv_w
theorem sv_new {index c N : Nat} {Cn : String} {fs : List Value} (C : sv_C E X cc own sx) (hL : sv_CL own index c Cn N fs) (hcs : ce + 1 ≤ (sv_R X).cells ∧ sl + N ≤ (sv_R X).slots) (hd : decode cc pc = .ok (.new index, 3)) (kk : sv_J E X (wd ++ [(sz, .inr (c, fs))]) (sz + 1) (ce + 1) (sl + N) (pc + 3) lv (.ref sz :: st)) : sv_J E X wd sz ce sl pc lv st := by
  obtain ⟨p, l, e, R, s, m, args, below, meth, cd, Q, A, nL⟩ := X
  obtain ⟨T, ty, f1, f2, f3, f4, f5, f6, f7⟩ := hL
  obtain ⟨⟨hx, hb, hml, hown, hts⟩, hK, hlk, hA, hC⟩ := C
  intro H locs ls g1 hP hD hS g5
  have hKn := hK.1 c _ f1
  refine W.newcK hx hb hown (hts _ f5) (hts _ f6) (hts _ f7) rfl hd hcs.1 hcs.2 hKn.2.1 g1 fun H1 kC hkC e1 z1 o1 => ?_
  have hk : ∀ (k : Nat) (x : Nat × va_E), wd[k]? = some x → H1[x.1]? = H[x.1]? := fun k x hx => o1 x.1 (by rw [← g1]; exact (hP k x hx).lt)
  refine kk H1 locs ls z1 ((hP.kept hk).app (fun k x hx => ?_)) (hD.push hP g1.symm (hA _ (by rw [← g1]; exact hS.1))) ⟨Nat.le_trans hS.1 (by omega), fun x h1 h2 => (o1 x (by rw [← g1]; exact Nat.lt_of_lt_of_le h1 hS.1)).trans (hS.2.1 x h1 h2), hS.2.2⟩ g5
  have hz : k < 1 := (List.getElem?_eq_some_iff.mp hx).1
  rw [show k = 0 by omega] at hx
  cases hx
  exact ⟨_, f1, (u_born ty hts f2 hKn hkC e1 f3).to f4⟩
theorem sv_newa {n : Int32} {atype : ArrayType} {ty : FieldType} (t0 : Nat) {cA0 : ClassId} (hty : newarray.typeOf atype = ty) (hdef : defaultValue ty = .int 0) (ht : (sv_tys E)[t0]? = some (cA0, ty)) (hra : ∀ (U : State) (cA : ClassId), va_RA U cA ty → U.vm.findClass ("[" ++ ty.toString) = some cA) (C : sv_C E X cc own sx) (hw : Cond.arrayClass ty ∈ sv_w) (hn : (decide (¬ n < 0) && decide (n.toNatClampNeg * componentBytes ty ≤ 536870912)) = true) (hcs : ce + 1 ≤ (sv_R X).cells ∧ sl + n.toNatClampNeg ≤ (sv_R X).slots) (hd : decode cc pc = .ok (.newarray atype, 2)) (kk : sv_J E X (wd ++ [(sz, .inl (cA0, n.toNatClampNeg, .inl (fun _ => 0)))]) (sz + 1) (ce + 1) (sl + n.toNatClampNeg) (pc + 2) lv (.ref sz :: st)) : sv_J E X wd sz ce sl pc lv (.int n :: st) := by
  obtain ⟨p, l, e, R, s, m, args, below, meth, cd, Q, A, nL⟩ := X
  obtain ⟨⟨hx, hb, hml, hown, hts⟩, hK, hlk, hA, hC⟩ := C
  simp only [Bool.and_eq_true, decide_eq_true_eq] at hn
  subst hty
  intro H locs ls g1 hP hD hS g5
  refine va_newaK hx hb (hts _ hw) rfl hd rfl hn.1 rfl hn.2 hcs.1 hcs.2 g1 fun H1 cA e1 z1 o1 hAr hNm => ?_
  have hcA : cA = cA0 := by
    have h1 := hra s cA0 (hK.2 t0 _ ht).2
    exact Option.some.inj (hNm.symm.trans h1)
  subst hcA
  have hk : ∀ (k : Nat) (x : Nat × va_E), wd[k]? = some x → H1[x.1]? = H[x.1]? := fun k x hx => o1 x.1 (by rw [← g1]; exact (hP k x hx).lt)
  refine kk H1 locs ls z1 ((hP.kept hk).app (fun k x hx => ?_)) (hD.push hP g1.symm (hA _ (by rw [← g1]; exact hS.1))) ⟨Nat.le_trans hS.1 (by omega), fun x h1 h2 => (o1 x (by rw [← g1]; exact Nat.lt_of_lt_of_le h1 hS.1)).trans (hS.2.1 x h1 h2), hS.2.2⟩ g5
  have hz : k < 1 := (List.getElem?_eq_some_iff.mp hx).1
  rw [show k = 0 by omega] at hx
  cases hx
  show H1[sz]? = some (vp_cell _ _)
  rw [e1, vp_cell_i, hdef]
theorem sv_newq {index : Nat} {Cn : String} {n : Int32} (t0 : Nat) {cA0 : ClassId} (ht : (sv_tys E)[t0]? = some (cA0, .object Cn)) (C : sv_C E X cc own sx) (hAO : ∀ A U H, sv_En E A U H → va_AO Cn U) (hw : Cond.classLink own index Cn ∈ sv_w) (hn : (decide (¬ n < 0) && decide (n.toNatClampNeg * 4 ≤ 536870912)) = true) (hcs : ce + 1 ≤ (sv_R X).cells ∧ sl + n.toNatClampNeg ≤ (sv_R X).slots) (hd : decode cc pc = .ok (.anewarray index, 3)) (kk : sv_J E X (wd ++ [(sz, .inl (cA0, n.toNatClampNeg, .inr (.inr (.inr (.inr (fun _ => none))))))]) (sz + 1) (ce + 1) (sl + n.toNatClampNeg) (pc + 3) lv (.ref sz :: st)) : sv_J E X wd sz ce sl pc lv (.int n :: st) := by
  obtain ⟨p, l, e, R, s, m, args, below, meth, cd, Q, A, nL⟩ := X
  obtain ⟨⟨hx, hb, hml, hown, hts⟩, hK, hlk, hA, hE, hC⟩ := C
  simp only [Bool.and_eq_true, decide_eq_true_eq] at hn
  intro H locs ls g1 hP hD hS g5
  refine W.anew hx hb hown (hts _ hw) (va_AO.use (hAO _ _ _ hE)) rfl hd rfl hn.1 hn.2 hcs.1 hcs.2 fun cA kA comp f1 f2 f3 f4 => ?_
  have hcA : cA = cA0 := by
    obtain ⟨kA0, comp0, -, -, -, h1⟩ := (hK.2 t0 _ ht).2
    exact Option.some.inj (f1.symm.trans h1)
  subst hcA
  subst g1
  generalize hH1 : H.push ({ cls := cA, slots := Array.replicate n.toNatClampNeg .null, vm := .none } : Cell) = H1
  have z1 : H1.size = H.size + 1 := by rw [← hH1, Array.size_push]
  have e1 : H1[H.size]? = some (arrV cA n.toNatClampNeg (fun _ => .null)) := by rw [← hH1, Array.getElem?_push_size, ← arrV_new]
  have o1 : ∀ q : Nat, q < H.size → H1[q]? = H[q]? := fun q hq => by rw [← hH1, Array.getElem?_push, if_neg (Nat.ne_of_lt hq)]
  have hk : ∀ (k : Nat) (x : Nat × va_E), wd[k]? = some x → H1[x.1]? = H[x.1]? := fun k x hx => o1 x.1 ((hP k x hx).lt)
  refine kk H1 locs ls z1 ((hP.kept hk).app (fun k x hx => ?_)) (hD.push hP rfl (hA _ hS.1)) ⟨Nat.le_trans hS.1 (by omega), fun x h1 h2 => (o1 x (Nat.lt_of_lt_of_le h1 hS.1)).trans (hS.2.1 x h1 h2), hS.2.2⟩ g5
  have hz : k < 1 := (List.getElem?_eq_some_iff.mp hx).1
  rw [show k = 0 by omega] at hx
  cases hx
  show H1[H.size]? = some (vp_cell _ _)
  rw [e1, vp_cell_q]
  rfl
theorem sv_aast {a n v : Nat} {f : Nat → Option Nat} {t0 qk ci : Nat} {cA : ClassId} {r : vw_C} {vs : List Value} {i : Int32} (C : sv_C E X cc own sx) (q0 : Nat) (ht : (sv_tys E)[t0]? = some (cA, .object r.1)) (ha : wd[q0]? = some (a, .inl (cA, n, .inr (.inr (.inr (.inr f)))))) (hv : wd[qk]? = some (v, .inr (ci, vs))) (hc : vwCl[ci]? = some r) (hin : sv_inb i n = true) (hd : decode cc pc = .ok (.aastore, 1)) (kk : sv_J E X (wd.set q0 (a, .inl (cA, n, .inr (.inr (.inr (.inr (va_up f i.toNatClampNeg (some v)))))))) sz ce sl (pc + 1) lv st) : sv_J E X wd sz ce sl pc lv (.ref v :: .int i :: .ref a :: st) := by
  obtain ⟨p, l, e, R, s, m, args, below, meth, cd, Q, A, nL⟩ := X
  obtain ⟨⟨hx, hb, hml, hown, hts⟩, hK, hlk, hA, hE, hC⟩ := C
  intro H locs ls g1 hP hD hS g5
  have hin := sv_inb_in hin
  have h0 : ¬ i < 0 := fun c => hin (Or.inl c)
  have hlt : i.toNatClampNeg < n := Nat.lt_of_not_le (fun c => hin (Or.inr c))
  obtain ⟨r', hr', cellV, g1', g2, g3, -⟩ := hP qk _ hv
  have hcls := (hK.1 ci r hc).2
  obtain ⟨kA, comp, k1, k2, k3, -⟩ := (hK.2 t0 _ ht).2
  have hcomp : comp = E.1.1 ci := Option.some.inj (k3.symm.trans hcls.1)
  subst hcomp
  obtain ⟨kC, hkC, -⟩ := hcls.2
  refine W.aast hx hb (hP q0 _ ha) (fun q h => by cases h) (fun h => by cases h) k1 k2 rfl hkC ⟨h0, by show _ < (arrV _ _ _).slots.size; rw [arrV_size]; exact hlt⟩ g1' (fun q h => by rw [g3] at h; cases h) (by rw [g2]; exact hkC) (by rw [g2]; exact va_assign hcls) rfl rfl hd fun H1 e1 z oq => ?_
  refine kk H1 _ ls (z.trans g1) (hP.set hD ha ?_ oq) (hD.set ha) (hS.put z oq (hD.2 q0 _ ha)) g5
  show H1[a]? = some (vp_cell _ _)
  rw [e1]
  rw [vp_cell_q, vp_cell_q, arrV_store]
  congr 2
  funext q
  by_cases hq : q = i.toNatClampNeg
  · subst hq
    simp [updV, va_up, va_rf]
  · simp [updV, va_up, hq]
theorem sv_objInit {index a : Nat} (C : sv_C E X cc own sx) (w1 : Cond.methodLink own index objectInit ∈ sv_w) (w2 : Cond.instanceMethod objectInit ∈ sv_w) (w3 : Cond.code objectInit ⟨#[0xb1]⟩ 1 none ∈ sv_w) (hr : 1 ≤ (sv_R X).frames ∧ (st.map fun v => v.category).sum + 12 ≤ (sv_R X).locals) (hd : decode cc pc = .ok (.invokespecial index, 3)) (kk : sv_J E X wd sz ce sl (pc + 3) lv st) : sv_J E X wd sz ce sl pc lv (.ref a :: st) := by
  obtain ⟨p, l, e, R, s, m, args, below, meth, cd, Q, A, nL⟩ := X
  exact fun H locs ls h1 h2 h3 h4 h5 => W.objInit C.1.1 C.1.2.1 C.1.2.2.2.1 (C.1.2.2.2.2 _ w1) (C.1.2.2.2.2 _ w2) (C.1.2.2.2.2 _ w3) rfl (h5.1.trans C.1.2.2.1.symm) rfl hd hr.1 (by show 2 * 0 + _ + 12 ≤ _; have := hr.2; simp only [sv_R] at this; omega) (kk H locs ls h1 h2 h3 h4 h5)
variable {sx' : List (Nat × Nat × List Int32)} {wd' : va_W} {sz' : Nat} {rest : List Value}
variable {index : Nat} {y : MethodName} {cb : ByteArray} {mL n fr lo : Nat} {As : List Value} {b : Nat} {mc ms : Nat}
def sv_MI (own : String) (index : Nat) (y : MethodName) (cb : ByteArray) (mL : Nat) (n : Nat) : Prop := (Cond.methodLink own index y ∈ sv_w ∧ Cond.instanceMethod y ∈ sv_w ∧ Cond.initialized y.cls ∈ sv_w ∧ Cond.code y cb mL none ∈ sv_w) ∧ sv_dn y n ∧ y.name = "<init>"
def sv_MN (own : String) (index : Nat) (y : MethodName) (cb : ByteArray) (mL : Nat) (n : Nat) : Prop := ((own, index, y) ∈ sv_nst ∧ Cond.instanceMethod y ∈ sv_w ∧ Cond.initialized y.cls ∈ sv_w ∧ Cond.code y cb mL none ∈ sv_w) ∧ sv_dn y n ∧ y.name = "<init>"
theorem sv_gdc {rt : Option FieldType} (h : Cond.code y cb mL rt ∈ sv_w) : GoodIn sv_w (Cond.code y cb mL rt :: sv_w) := sv_gds (fun w hw => by
    rcases List.mem_cons.mp hw with rfl | hw
    · exact h
    · exact hw)
/-- a constructor -/
theorem sv_callI (C : sv_C E X cc own sx) (L : sv_MI own index y cb mL n) (M : sv_Met (sv_l X) E y cb mL none fr lo sx' (.ref b :: As) wd sz none wd' sz' mc ms) (hsx : sv_sxs E sx sx') (hn : As.length = n) (hst : st = As.reverse ++ .ref b :: rest) (hw : (rest.map fun v => v.category).sum ≤ 8)
    (hR : fr + 1 ≤ (sv_R X).frames ∧ 8 + (mL + 11) + lo ≤ (sv_R X).locals) (hcs : ce + mc ≤ (sv_R X).cells ∧ sl + ms ≤ (sv_R X).slots) (hd : decode cc pc = .ok (.invokespecial index, 3)) (kk : sv_J E X wd' sz' (ce + mc) (sl + ms) (pc + 3) lv rest) : sv_J E X wd sz ce sl pc lv st := by
  obtain ⟨p, l, e, R, s, m, args, below, meth, c, Q, A, nL⟩ := X
  obtain ⟨S, hK, hlk, hA, hE, hX⟩ := C
  intro H locs ls g1 hP hD hS g5
  subst g1
  have hf := sv_free hA hD hS
  refine sv_cont (va_runI (As := As) (rest := rest) S M (cwI n S.2.2.2.2 (sv_gdc L.1.2.2.2) rfl rfl rfl (S.2.2.2.2 _ L.1.2.2.1) (S.2.2.2.2 _ L.1.1) (S.2.2.2.2 _ L.1.2.1) L.2.2 L.2.1 hR) ⟨sv_blind, sv_pre (wd0 := wd) (sx := sx) hK hE (sv_sxu hE hX hsx) rfl hP hD hS hf⟩ rfl hn g5.1 hst (lv_room hw) hd hcs) hS hf (fun H1 locs1 k1 k2 k3 k4 k5 k6 => kk H1 locs1 ls k1 k2 k3 k6 g5)
/-- a nest mate's private constructor -/
theorem sv_callIN (C : sv_C E X cc own sx) (L : sv_MN own index y cb mL n) (M : sv_Met (sv_l X) E y cb mL none fr lo sx' (.ref b :: As) wd sz none wd' sz' mc ms) (hsx : sv_sxs E sx sx') (hn : As.length = n) (hst : st = As.reverse ++ .ref b :: rest) (hw : (rest.map fun v => v.category).sum ≤ 8)
    (hR : fr + 1 ≤ (sv_R X).frames ∧ 8 + (mL + 11) + lo ≤ (sv_R X).locals) (hcs : ce + mc ≤ (sv_R X).cells ∧ sl + ms ≤ (sv_R X).slots) (hd : decode cc pc = .ok (.invokespecial index, 3)) (kk : sv_J E X wd' sz' (ce + mc) (sl + ms) (pc + 3) lv rest) : sv_J E X wd sz ce sl pc lv st := by
  obtain ⟨p, l, e, R, s, m, args, below, meth, c, Q, A, nL⟩ := X
  obtain ⟨S, hK, hlk, hA, hE, hX⟩ := C
  intro H locs ls g1 hP hD hS g5
  subst g1
  have hf := sv_free hA hD hS
  refine sv_cont (va_runIN (host := "SeaReceiver") (As := As) (rest := rest) S M ⟨va_cnB n S.2.2.2.2 (sv_gdc L.1.2.2.2) rfl rfl rfl (hE.2.2.2.2.1 _ L.1.1) (S.2.2.2.2 _ L.1.2.2.1) L.2.1 hR, L.2.2, S.2.2.2.2 _ L.1.2.1⟩ ⟨sv_blind, sv_pre (wd0 := wd) (sx := sx) hK hE (sv_sxu hE hX hsx) rfl hP hD hS hf⟩ rfl hn g5.1 hst (lv_room hw) hd hcs) hS hf (fun H1 locs1 k1 k2 k3 k4 k5 k6 => kk H1 locs1 ls k1 k2 k3 k6 g5)
end GRW
