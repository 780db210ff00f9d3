/-! ===== more rows: calls that make nothing, long compare, switches ===== -/
section SVE
variable {E : sv_E} {X : sv_X} {cc : ByteArray} {own : String} {sx sx' : List (Nat × Nat × List Int32)} {wd wd' : va_W} {sz sz' ce sl pc : Nat} {lv lv' : List (Nat × Value)} {st rest : List Value}
variable {index : Nat} {y : MethodName} {cb : ByteArray} {mL : Nat} {rt : Option FieldType} {n fr lo : Nat} {As : List Value} {b : Nat} {res : Option Value}
theorem sv_callV0 {ci : Nat} {fs : List Value} (C : sv_C E X cc own sx) (L : sv_MV own index y cb mL rt n) (M : sv_Met (sv_l X) E y cb mL rt fr lo sx' (.ref b :: As) wd sz res wd' sz' 0 0) (hsx : sv_sxs E sx sx') (q0 : Nat) (he : wd[q0]? = some (b, .inr (ci, fs))) (hc : (vwCl[ci]?).map (fun q => q.1) = some y.cls) (hn : As.length = n) (hst : st = As.reverse ++ .ref b :: rest) (hw : (rest.map fun v => v.category).sum ≤ 8)
    (hR : fr + 1 ≤ (sv_R X).frames ∧ 8 + (mL + 11) + lo ≤ (sv_R X).locals) (hcs : ce ≤ (sv_R X).cells ∧ sl ≤ (sv_R X).slots) (hd : decode cc pc = .ok (.invokevirtual index, 3)) (kk : sv_J E X wd' sz' ce sl (pc + 3) lv (res.toList ++ rest)) : sv_J E X wd sz ce sl pc lv st := sv_callV C L M hsx q0 he hc hn hst hw hR hcs hd kk
theorem sv_callS0 (C : sv_C E X cc own sx) (L : sv_MS own index y cb mL rt n) (M : sv_Met (sv_l X) E y cb mL rt fr lo sx' As wd sz res wd' sz' 0 0) (hsx : sv_sxs E sx sx') (hn : As.length = n) (hst : st = As.reverse ++ rest) (hw : (rest.map fun v => v.category).sum ≤ 8)
    (hR : fr + 1 ≤ (sv_R X).frames ∧ 8 + (mL + 11) + lo ≤ (sv_R X).locals) (hcs : ce ≤ (sv_R X).cells ∧ sl ≤ (sv_R X).slots) (hd : decode cc pc = .ok (.invokestatic index, 3)) (kk : sv_J E X wd' sz' ce sl (pc + 3) lv (res.toList ++ rest)) : sv_J E X wd sz ce sl pc lv st := sv_callS C L M hsx hn hst hw hR hcs hd kk
theorem sv_lcmp {x z : Int64} (C : sv_C E X cc own sx) (hd : decode cc pc = .ok (.lcmp, 1)) (k : sv_J E X wd sz ce sl (pc + 1) lv (.int (lg_cmp x z) :: st)) : sv_J E X wd sz ce sl pc lv (.long z :: .long x :: st) := by
  obtain ⟨p, l, e, R, s, m, args, below, meth, c, Q, A, nL⟩ := X
  exact fun H locs ls h1 h2 h3 h4 h5 => W.lcmp C.1.1 C.1.2.1 hd (k H locs ls h1 h2 h3 h4 h5)
theorem sv_tswI {dflt lo hi : Int} {offs : Array Int} {len : Nat} {x v : Int32} {off : Int} {tgt : Nat} (C : sv_C E X cc own sx) (hd : decode cc pc = .ok (.tableswitch dflt lo hi offs, len)) (hx : x = v) (h1 : ¬ v.toInt < lo) (h2 : ¬ hi < v.toInt) (ho : offs[(v.toInt - lo).toNat]? = some off) (ht : (pc : Int) + off = (tgt : Int)) (k : sv_J E X wd sz ce sl tgt lv st) : sv_J E X wd sz ce sl pc lv (.int x :: st) := by
  obtain ⟨p, l, e, R, s, m, args, below, meth, c, Q, A, nL⟩ := X
  subst hx
  exact fun H locs ls g1 g2 g3 g4 g5 => lv_tableIn C.1.1 C.1.2.1 hd h1 h2 ho ht (k H locs ls g1 g2 g3 g4 g5)
theorem sv_tswO {dflt lo hi : Int} {offs : Array Int} {len : Nat} {x : Int32} {tgt : Nat} (C : sv_C E X cc own sx) (hd : decode cc pc = .ok (.tableswitch dflt lo hi offs, len)) (h : x.toInt < lo ∨ hi < x.toInt) (ht : (pc : Int) + dflt = (tgt : Int)) (k : sv_J E X wd sz ce sl tgt lv st) : sv_J E X wd sz ce sl pc lv (.int x :: st) := by
  obtain ⟨p, l, e, R, s, m, args, below, meth, c, Q, A, nL⟩ := X
  exact fun H locs ls g1 g2 g3 g4 g5 => lv_tableOut C.1.1 C.1.2.1 hd h ht (k H locs ls g1 g2 g3 g4 g5)
theorem sv_nei {x v : Int32} (h : ¬ x = v) : x.toInt ≠ v.toInt := fun e => h (Int32.toInt_inj.mp e)
theorem sv_nz {ty : FieldType} {v : Int32} (h : vp_nar ty v = v) (hi : ∃ w, narrow ty (.int v) = .int w := by first | exact ⟨_, rfl⟩) : narrow ty (.int v) = .int v := by
  obtain ⟨w, hw⟩ := hi
  have : vp_nar ty v = w := by unfold vp_nar; rw [hw]
  rw [hw, ← this, h]
end SVE
section SVF
variable {E : sv_E} {X : sv_X} {cc : ByteArray} {own : String} {sx : List (Nat × Nat × List Int32)} {wd : va_W} {sz ce sl pc : Nat} {lv lv' : List (Nat × Value)} {st : List Value}
theorem sv_null (C : sv_C E X cc own sx) (hd : decode cc pc = .ok (.aconst_null, 1)) (k : sv_J E X wd sz ce sl (pc + 1) lv (.null :: st)) : sv_J E X wd sz ce sl pc lv st := by
  obtain ⟨p, l, e, R, s, m, args, below, meth, c, Q, A, nL⟩ := X
  exact fun H locs ls h1 h2 h3 h4 h5 => lv_null C.1.1 C.1.2.1 hd (k H locs ls h1 h2 h3 h4 h5)
theorem sv_ifnonnull {x : Nat} {off : Int} {tgt : Nat} (C : sv_C E X cc own sx) (hd : decode cc pc = .ok (.ifnonnull off, 3)) (ht : (pc : Int) + off = (tgt : Int)) (k : sv_J E X wd sz ce sl tgt lv st) : sv_J E X wd sz ce sl pc lv (.ref x :: st) := by
  obtain ⟨p, l, e, R, s, m, args, below, meth, c, Q, A, nL⟩ := X
  exact fun H locs ls h1 h2 h3 h4 h5 => lv_ifnonnull C.1.1 C.1.2.1 hd ht (k H locs ls h1 h2 h3 h4 h5)
theorem sv_ifnull {x : Nat} {off : Int} (C : sv_C E X cc own sx) (hd : decode cc pc = .ok (.ifnull off, 3)) (k : sv_J E X wd sz ce sl (pc + 3) lv st) : sv_J E X wd sz ce sl pc lv (.ref x :: st) := by
  obtain ⟨p, l, e, R, s, m, args, below, meth, c, Q, A, nL⟩ := X
  exact fun H locs ls h1 h2 h3 h4 h5 => lv_ifnull C.1.1 C.1.2.1 hd (k H locs ls h1 h2 h3 h4 h5)
theorem sv_ifnullN {off : Int} {tgt : Nat} (C : sv_C E X cc own sx) (hd : decode cc pc = .ok (.ifnull off, 3)) (ht : (pc : Int) + off = (tgt : Int)) (k : sv_J E X wd sz ce sl tgt lv st) : sv_J E X wd sz ce sl pc lv (.null :: st) := by
  obtain ⟨p, l, e, R, s, m, args, below, meth, c, Q, A, nL⟩ := X
  exact fun H locs ls h1 h2 h3 h4 h5 => lv_ifnullN C.1.1 C.1.2.1 hd ht (k H locs ls h1 h2 h3 h4 h5)
theorem sv_ifnonnullN {off : Int} (C : sv_C E X cc own sx) (hd : decode cc pc = .ok (.ifnonnull off, 3)) (k : sv_J E X wd sz ce sl (pc + 3) lv st) : sv_J E X wd sz ce sl pc lv (.null :: st) := by
  obtain ⟨p, l, e, R, s, m, args, below, meth, c, Q, A, nL⟩ := X
  exact fun H locs ls h1 h2 h3 h4 h5 => lv_ifnonnullN C.1.1 C.1.2.1 hd (k H locs ls h1 h2 h3 h4 h5)
theorem sv_aload_nN {j : Fin 4} {i : Nat} (q : Nat) (C : sv_C E X cc own sx) (hd : decode cc pc = .ok (.aload_n j, 1)) (hi : (j : Nat) = i) (hl : lv[q]? = some (i, .null)) (k : sv_J E X wd sz ce sl (pc + 1) lv (.null :: st)) : sv_J E X wd sz ce sl pc lv st := by
  obtain ⟨p, l, e, R, s, m, args, below, meth, c, Q, A, nL⟩ := X
  exact fun H locs ls h1 h2 h3 h4 h5 => lv_aload_nN C.1.1 C.1.2.1 hd hi (lv_at h5 q hl) (k H locs ls h1 h2 h3 h4 h5)
theorem sv_aloadN {i : Nat} (q : Nat) (C : sv_C E X cc own sx) (hd : decode cc pc = .ok (.aload i, 2)) (hl : lv[q]? = some (i, .null)) (k : sv_J E X wd sz ce sl (pc + 2) lv (.null :: st)) : sv_J E X wd sz ce sl pc lv st := by
  obtain ⟨p, l, e, R, s, m, args, below, meth, c, Q, A, nL⟩ := X
  exact fun H locs ls h1 h2 h3 h4 h5 => lv_aloadN C.1.1 C.1.2.1 hd (lv_at h5 q hl) (k H locs ls h1 h2 h3 h4 h5)
theorem sv_astore_nN {j : Fin 4} {i : Nat} (C : sv_C E X cc own sx) (hd : decode cc pc = .ok (.astore_n j, 1)) (hi : (j : Nat) = i) (hn : i < sv_nL X) (hl : (i, Value.null) :: lv.filter (fun q => !(q.1 == i) && !(q.1 + 1 == i && q.2.category == 2)) = lv') (k : sv_J E X wd sz ce sl (pc + 1) lv' st) : sv_J E X wd sz ce sl pc lv (.null :: st) := by
  obtain ⟨p, l, e, R, s, m, args, below, meth, c, Q, A, nL⟩ := X
  exact fun H locs ls h1 h2 h3 h4 h5 => lv_astore_nN C.1.1 C.1.2.1 hd hi h5 hn hl (fun ls' h5 => k H locs ls' h1 h2 h3 h4 h5)
theorem sv_astoreN {i : Nat} (C : sv_C E X cc own sx) (hd : decode cc pc = .ok (.astore i, 2)) (hn : i < sv_nL X) (hl : (i, Value.null) :: lv.filter (fun q => !(q.1 == i) && !(q.1 + 1 == i && q.2.category == 2)) = lv') (k : sv_J E X wd sz ce sl (pc + 2) lv' st) : sv_J E X wd sz ce sl pc lv (.null :: st) := by
  obtain ⟨p, l, e, R, s, m, args, below, meth, c, Q, A, nL⟩ := X
  exact fun H locs ls h1 h2 h3 h4 h5 => lv_astoreN C.1.1 C.1.2.1 hd h5 hn hl (fun ls' h5 => k H locs ls' h1 h2 h3 h4 h5)
theorem sv_lsw {dflt : Int} {ps : Array (Int × Int)} {len : Nat} {x : Int32} {off : Int} {tgt : Nat} (C : sv_C E X cc own sx) (hd : decode cc pc = .ok (.lookupswitch dflt ps, len)) (hp : (ps.toList.zip (ps.toList.drop 1)).all (fun (a, next) => a.1 < next.1) = true) (ho : Op.lookupswitch.offset ps.toList dflt x.toInt = off) (ht : (pc : Int) + off = (tgt : Int)) (k : sv_J E X wd sz ce sl tgt lv st) : sv_J E X wd sz ce sl pc lv (.int x :: st) := by
  obtain ⟨p, l, e, R, s, m, args, below, meth, c, Q, A, nL⟩ := X
  exact fun H locs ls h1 h2 h3 h4 h5 => lv_lookup C.1.1 C.1.2.1 hd hp ho ht (k H locs ls h1 h2 h3 h4 h5)
end SVF
