/-! ===== the class's world: a heap by addresses. gh_T: addresses, kinds, references, lengths, rows of references; gh_V: int fields (slot, address), rows of numbers ===== -/
abbrev gh_T : Type := List Nat × (Nat → Nat) × (Nat → Nat → Option Nat) × (Nat → Nat) × (Nat → Nat → Option Nat)
abbrev gh_V : Type := (Nat → Nat → Int32) × (Nat → Nat → Int32)
/-- how many fields; which are references, and to what kind (kinds 0 .. 8: the classes of vwCl; 9 byte[], 10 int[], 12 BitRow[], 13 Vessel[]) -/
def gh_n (c : Nat) : Nat := match c with
  | 0 => 3 | 1 => 4 | 2 => 2 | 3 => 3 | 4 => 2 | 5 => 6 | 6 => 2 | 7 => 3 | 8 => 10 | _ => 0
def gh_rk (c k : Nat) : Option Nat := match c, k with
  | 0, 1 => some 10
  | 1, 0 => some 9 | 1, 1 => some 10
  | 2, 0 => some 13
  | 3, 0 => some 12 | 3, 1 => some 10 | 3, 2 => some 10
  | 4, 0 => some 10 | 4, 1 => some 10
  | 5, 0 => some 9
  | 6, 0 => some 9
  | 7, 0 => some 10 | 7, 1 => some 10 | 7, 2 => some 9
  | 8, 0 => some 10 | 8, 1 => some 6 | 8, 2 => some 6 | 8, 3 => some 5 | 8, 4 => some 1 | 8, 5 => some 4 | 8, 6 => some 3 | 8, 7 => some 0 | 8, 8 => some 2 | 8, 9 => some 0
  | _, _ => none
def gh_fs (c : Nat) (I : Nat → Int32) (R : Nat → Option Nat) : List Value := (List.range (gh_n c)).map (fun k => if (gh_rk c k).isSome = true then va_rf (R k) else .int (I k))
def gh_cell (E : sv_E) (T : gh_T) (V : gh_V) (a : Nat) : va_E :=
  if T.2.1 a < 9 then .inr (T.2.1 a, gh_fs (T.2.1 a) (fun k => V.1 k a) (fun k => T.2.2.1 k a))
  else if T.2.1 a < 12 then .inl (E.2.1 (T.2.1 a - 9), T.2.2.2.1 a, .inl (V.2 a))
  else .inl (E.2.1 (T.2.1 a - 8), T.2.2.2.1 a, .inr (.inr (.inr (.inr (T.2.2.2.2 a)))))
def gh_w (E : sv_E) (T : gh_T) (V : gh_V) : va_W := va_pl T.1 (gh_cell E T V)
/-- an address of a kind -/
def gh_is (T : gh_T) (a c : Nat) : Prop := a ∈ T.1 ∧ T.2.1 a = c
def gh_isb (T : gh_T) (a c : Nat) : Bool := decide (a ∈ T.1) && decide (T.2.1 a = c)
theorem gh_isb_is {T : gh_T} {a c : Nat} (h : gh_isb T a c = true) : gh_is T a c := by
  simp only [gh_isb, Bool.and_eq_true, decide_eq_true_eq] at h
  exact h
/-- references are of the kinds that the classes say -/
def gh_ok (T : gh_T) : Prop := (∀ a c k d b, gh_is T a c → gh_rk c k = some d → T.2.2.1 k a = some b → gh_is T b d) ∧ (∀ a i b, gh_is T a 12 → T.2.2.2.2 a i = some b → gh_is T b 0) ∧ (∀ a i b, gh_is T a 13 → T.2.2.2.2 a i = some b → gh_is T b 7)
def gh_pf (V : gh_V) (k a : Nat) (v : Int32) : gh_V := (fun j x => if j = k ∧ x = a then v else V.1 j x, V.2)
def gh_pa (V : gh_V) (a : Nat) (i v : Int32) : gh_V := (V.1, fun x => if x = a then upd (V.2 a) i.toNatClampNeg v else V.2 x)
theorem gh_get {E : sv_E} {T : gh_T} {V : gh_V} {a : Nat} (h : a ∈ T.1) : ∃ k : Nat, (gh_w E T V)[k]? = some (a, gh_cell E T V a) := by
  obtain ⟨k, hk⟩ := va_pl_get (X := []) (f := gh_cell E T V) h
  exact ⟨k, hk⟩
theorem gh_obj {E : sv_E} {T : gh_T} {V : gh_V} {a c : Nat} (h : gh_is T a c) (hc : c < 9) : ∃ k : Nat, (gh_w E T V)[k]? = some (a, .inr (c, gh_fs c (fun k => V.1 k a) (fun k => T.2.2.1 k a))) := by
  obtain ⟨k, hk⟩ := gh_get (E := E) (V := V) h.1
  refine ⟨k, hk.trans ?_⟩
  unfold gh_cell
  rw [h.2, if_pos hc]
theorem gh_arr {E : sv_E} {T : gh_T} {V : gh_V} {a c : Nat} (h : gh_is T a c) (hc : ¬ c < 9) (hc2 : c < 12) : ∃ k : Nat, (gh_w E T V)[k]? = some (a, .inl (E.2.1 (c - 9), T.2.2.2.1 a, .inl (V.2 a))) := by
  obtain ⟨k, hk⟩ := gh_get (E := E) (V := V) h.1
  refine ⟨k, hk.trans ?_⟩
  unfold gh_cell
  rw [h.2, if_neg hc, if_pos hc2]
theorem gh_arq {E : sv_E} {T : gh_T} {V : gh_V} {a c : Nat} (h : gh_is T a c) (hc2 : ¬ c < 12) : ∃ k : Nat, (gh_w E T V)[k]? = some (a, .inl (E.2.1 (c - 8), T.2.2.2.1 a, .inr (.inr (.inr (.inr (T.2.2.2.2 a)))))) := by
  obtain ⟨k, hk⟩ := gh_get (E := E) (V := V) h.1
  refine ⟨k, hk.trans ?_⟩
  unfold gh_cell
  rw [h.2, if_neg (by omega), if_neg hc2]
/-- two addresses of a world are apart: a cell is set where it lies -/
theorem gh_setw {E : sv_E} {T T' : gh_T} {V V' : gh_V} {A : Nat → Prop} {a k : Nat} {e e' : va_E} (hD : va_D A (gh_w E T V)) (hL : T'.1 = T.1) (ha : (gh_w E T V)[k]? = some (a, e')) (h1 : gh_cell E T' V' a = e) (h2 : ∀ b, b ≠ a → gh_cell E T' V' b = gh_cell E T V b) : (gh_w E T V).set k (a, e) = gh_w E T' V' := by
  apply List.ext_getElem?
  intro j
  rw [List.getElem?_set]
  have hl := (List.getElem?_eq_some_iff.mp ha).1
  by_cases hj : k = j
  · subst hj
    rw [if_pos rfl, if_pos hl]
    have h3 : (gh_w E T V)[k]? = (T.1[k]?).map (fun x => (x, gh_cell E T V x)) := by simp [gh_w, va_pl]
    rw [h3] at ha
    have h4 : (gh_w E T' V')[k]? = (T.1[k]?).map (fun x => (x, gh_cell E T' V' x)) := by simp [gh_w, va_pl, hL]
    rw [h4]
    cases hq : T.1[k]? with
    | none => rw [hq] at ha; cases ha
    | some x =>
      rw [hq] at ha
      have hx : x = a := (Prod.mk.inj (Option.some.inj ha)).1
      subst hx
      simp [h1]
  · rw [if_neg hj]
    have h3 : (gh_w E T V)[j]? = (T.1[j]?).map (fun x => (x, gh_cell E T V x)) := by simp [gh_w, va_pl]
    have h4 : (gh_w E T' V')[j]? = (T.1[j]?).map (fun x => (x, gh_cell E T' V' x)) := by simp [gh_w, va_pl, hL]
    rw [h3, h4]
    cases hq : T.1[j]? with
    | none => rfl
    | some x =>
      have hx : x ≠ a := fun e1 => by
        subst e1
        exact hj (hD.1 k j (x, e') (x, gh_cell E T V x) ha (h3.trans (by rw [hq]; rfl)) rfl)
      simp [h2 x hx]
theorem gh_fs_l {c : Nat} {I : Nat → Int32} {R : Nat → Option Nat} : (gh_fs c I R).length = gh_n c := by simp [gh_fs]
theorem gh_fs_i {c k : Nat} {I : Nat → Int32} {R : Nat → Option Nat} (h : gh_rk c k = none) (hk : k < gh_n c) : (gh_fs c I R)[k]? = some (.int (I k)) := by
  simp [gh_fs, List.getElem?_map, List.getElem?_range hk, h]
theorem gh_fs_r {c k d : Nat} {I : Nat → Int32} {R : Nat → Option Nat} (h : gh_rk c k = some d) (hk : k < gh_n c) : (gh_fs c I R)[k]? = some (va_rf (R k)) := by
  simp [gh_fs, List.getElem?_map, List.getElem?_range hk, h]
theorem gh_fs_s {c k : Nat} {I I' : Nat → Int32} {R R' : Nat → Option Nat} {v : Value} (hk : k < gh_n c) (h1 : (if (gh_rk c k).isSome = true then va_rf (R' k) else .int (I' k)) = v) (h2 : ∀ j, j ≠ k → I' j = I j ∧ R' j = R j) : (gh_fs c I R).set k v = gh_fs c I' R' := by
  apply List.ext_getElem?
  intro j
  rw [List.getElem?_set]
  by_cases hj : k = j
  · subst hj
    rw [if_pos rfl, if_pos (by rw [gh_fs_l]; exact hk)]
    simp only [gh_fs, List.getElem?_map, List.getElem?_range hk, Option.map_some]
    rw [h1]
  · rw [if_neg hj]
    simp only [gh_fs, List.getElem?_map]
    by_cases hk2 : j < gh_n c
    · rw [List.getElem?_range hk2]
      simp only [Option.map_some]
      rw [(h2 j (Ne.symm hj)).1, (h2 j (Ne.symm hj)).2]
    · simp [hk2]
section GHR
variable {E : sv_E} {X : sv_X} {cc : ByteArray} {own : String} {sx : List (Nat × Nat × List Int32)} {T : gh_T} {V : gh_V} {sz ce sl pc : Nat} {lv lv' : List (Nat × Value)} {st : List Value}
/-- the world is apart: taken out of the judgement -/
theorem sv_withD {wd : va_W} (h : (∃ A, va_D A wd) → sv_J E X wd sz ce sl pc lv st) : sv_J E X wd sz ce sl pc lv st := by
  obtain ⟨p, l, e, R, s, m, args, below, meth, c, Q, A, nL⟩ := X
  exact fun H locs ls h1 h2 h3 h4 h5 => h ⟨A, h3⟩ H locs ls h1 h2 h3 h4 h5
theorem gh_geti {index c k a : Nat} {fin : Bool} {ty : FieldType} (C : sv_C E X cc own sx) (hF : sv_FL own index c k fin ty) (o : gh_is T a c) (hc : c < 9) (hk : (decide (gh_rk c k = none) && decide (k < gh_n c)) = true) (hd : decode cc pc = .ok (.getfield index, 3)) (kk : sv_J E X (gh_w E T V) sz ce sl (pc + 3) lv (.int (V.1 k a) :: st)) : sv_J E X (gh_w E T V) sz ce sl pc lv (.ref a :: st) := by
  simp only [Bool.and_eq_true, decide_eq_true_eq] at hk
  obtain ⟨q, hq⟩ := gh_obj (E := E) (V := V) o hc
  exact sv_getf C hF q hq (gh_fs_i hk.1 hk.2) hd kk
/-- a reference that is there -/
theorem gh_getr {index c k d a b : Nat} {fin : Bool} {ty : FieldType} (C : sv_C E X cc own sx) (hF : sv_FL own index c k fin ty) (o : gh_is T a c) (hc : c < 9) (hk : (decide (gh_rk c k = some d) && decide (k < gh_n c)) = true) (hb : T.2.2.1 k a = some b) (hd : decode cc pc = .ok (.getfield index, 3)) (kk : sv_J E X (gh_w E T V) sz ce sl (pc + 3) lv (.ref b :: st)) : sv_J E X (gh_w E T V) sz ce sl pc lv (.ref a :: st) := by
  simp only [Bool.and_eq_true, decide_eq_true_eq] at hk
  obtain ⟨q, hq⟩ := gh_obj (E := E) (V := V) o hc
  exact sv_getf C hF q hq (v := .ref b) ((gh_fs_r hk.1 hk.2).trans (by rw [hb]; rfl)) hd kk
theorem gh_puti {index c k a : Nat} {ty : FieldType} {v : Int32} (C : sv_C E X cc own sx) (hF : sv_FL own index c k false ty) (o : gh_is T a c) (hc : c < 9) (hk : (decide (gh_rk c k = none) && decide (k < gh_n c)) = true) (hn : narrow ty (.int v) = .int v) (hfit : fits ty (.int v) = true) (hd : decode cc pc = .ok (.putfield index, 3)) (kk : sv_J E X (gh_w E T (gh_pf V k a v)) sz ce sl (pc + 3) lv st) : sv_J E X (gh_w E T V) sz ce sl pc lv (.int v :: .ref a :: st) := by
  simp only [Bool.and_eq_true, decide_eq_true_eq] at hk
  obtain ⟨q, hq⟩ := gh_obj (E := E) (V := V) o hc
  refine sv_withD (fun ⟨A, hD⟩ => ?_)
  refine sv_putf C hF q hq hn hfit (by rw [gh_fs_l]; exact hk.2) hd ?_
  rw [gh_setw (T' := T) (V' := gh_pf V k a v) hD rfl hq (e := .inr (c, (gh_fs c (fun k => V.1 k a) (fun k => T.2.2.1 k a)).set k (.int v))) ?_ ?_]
  · exact kk
  · unfold gh_cell
    rw [o.2, if_pos hc]
    congr 2
    exact (gh_fs_s hk.2 (by rw [hk.1]; simp [gh_pf]) (fun j hj => ⟨by simp [gh_pf, hj], rfl⟩)).symm
  · intro b hb
    have : ∀ k', (gh_pf V k a v).1 k' b = V.1 k' b := fun k' => by simp [gh_pf, hb]
    simp only [gh_cell, this]
    rfl
theorem gh_iald {a : Nat} {i : Int32} (C : sv_C E X cc own sx) (o : gh_is T a 10) (hin : sv_inb i (T.2.2.2.1 a) = true) (hd : decode cc pc = .ok (.iaload, 1)) (kk : sv_J E X (gh_w E T V) sz ce sl (pc + 1) lv (.int (V.2 a i.toNatClampNeg) :: st)) : sv_J E X (gh_w E T V) sz ce sl pc lv (.int i :: .ref a :: st) := by
  obtain ⟨q, hq⟩ := gh_arr (E := E) (V := V) o (by decide) (by decide)
  exact sv_iald C q hq hin hd kk
theorem gh_bald {a : Nat} {i : Int32} (C : sv_C E X cc own sx) (o : gh_is T a 9) (hin : sv_inb i (T.2.2.2.1 a) = true) (hd : decode cc pc = .ok (.baload, 1)) (kk : sv_J E X (gh_w E T V) sz ce sl (pc + 1) lv (.int (V.2 a i.toNatClampNeg) :: st)) : sv_J E X (gh_w E T V) sz ce sl pc lv (.int i :: .ref a :: st) := by
  obtain ⟨q, hq⟩ := gh_arr (E := E) (V := V) o (by decide) (by decide)
  exact sv_bald C q hq hin hd kk
theorem gh_aald {a c t0 : Nat} {K : String} {i : Int32} (C : sv_C E X cc own sx) (o : gh_is T a c) (hc : ¬ c < 12) (ht : (sv_tys E)[t0]? = some (E.2.1 (c - 8), .object K)) (hin : sv_inb i (T.2.2.2.1 a) = true) (hd : decode cc pc = .ok (.aaload, 1)) (kk : sv_J E X (gh_w E T V) sz ce sl (pc + 1) lv (va_rf (T.2.2.2.2 a i.toNatClampNeg) :: st)) : sv_J E X (gh_w E T V) sz ce sl pc lv (.int i :: .ref a :: st) := by
  obtain ⟨q, hq⟩ := gh_arq (E := E) (V := V) o hc
  exact sv_aald C q ht hq hin hd kk
theorem gh_alen {a c : Nat} (C : sv_C E X cc own sx) (o : gh_is T a c) (hc : c = 9 ∨ c = 10) (hd : decode cc pc = .ok (.arraylength, 1)) (kk : sv_J E X (gh_w E T V) sz ce sl (pc + 1) lv (.int (Int32.ofNat (T.2.2.2.1 a)) :: st)) : sv_J E X (gh_w E T V) sz ce sl pc lv (.ref a :: st) := by
  rcases hc with rfl | rfl
  · obtain ⟨q, hq⟩ := gh_arr (E := E) (V := V) o (by decide) (by decide)
    exact sv_alen C q (t0 := 0) rfl hq hd kk
  · obtain ⟨q, hq⟩ := gh_arr (E := E) (V := V) o (by decide) (by decide)
    exact sv_alen C q (t0 := 1) rfl hq hd kk
theorem gh_iast {a : Nat} {i x : Int32} (C : sv_C E X cc own sx) (o : gh_is T a 10) (hin : sv_inb i (T.2.2.2.1 a) = true) (hd : decode cc pc = .ok (.iastore, 1)) (kk : sv_J E X (gh_w E T (gh_pa V a i x)) sz ce sl (pc + 1) lv st) : sv_J E X (gh_w E T V) sz ce sl pc lv (.int x :: .int i :: .ref a :: st) := by
  obtain ⟨q, hq⟩ := gh_arr (E := E) (V := V) o (by decide) (by decide)
  refine sv_withD (fun ⟨A, hD⟩ => ?_)
  refine sv_iast C q hq hin hd ?_
  rw [gh_setw (T' := T) (V' := gh_pa V a i x) hD rfl hq]
  · exact kk
  · unfold gh_cell
    rw [o.2]
    simp [gh_pa]
  · intro b hb
    simp [gh_cell, gh_pa, hb]
theorem gh_bast {a : Nat} {i x : Int32} (C : sv_C E X cc own sx) (o : gh_is T a 9) (hin : sv_inb i (T.2.2.2.1 a) = true) (hd : decode cc pc = .ok (.bastore, 1)) (kk : sv_J E X (gh_w E T (gh_pa V a i (vp_nar .byte x))) sz ce sl (pc + 1) lv st) : sv_J E X (gh_w E T V) sz ce sl pc lv (.int x :: .int i :: .ref a :: st) := by
  obtain ⟨q, hq⟩ := gh_arr (E := E) (V := V) o (by decide) (by decide)
  refine sv_withD (fun ⟨A, hD⟩ => ?_)
  refine sv_bast C q hq hin hd ?_
  rw [gh_setw (T' := T) (V' := gh_pa V a i (vp_nar .byte x)) hD rfl hq]
  · exact kk
  · unfold gh_cell
    rw [o.2]
    simp [gh_pa]
  · intro b hb
    simp [gh_cell, gh_pa, hb]
variable {sx' : List (Nat × Nat × List Int32)} {wd' : va_W} {sz' : Nat} {rest : List Value}
variable {index : Nat} {y : MethodName} {cb : ByteArray} {mL : Nat} {rt : Option FieldType} {n fr lo : Nat} {As : List Value} {b : Nat} {res : Option Value} {mc ms : Nat}
theorem gh_callV {c : Nat} (C : sv_C E X cc own sx) (L : sv_MV own index y cb mL rt n) (M : sv_Met (sv_l X) E y cb mL rt fr lo sx' (.ref b :: As) (gh_w E T V) sz res wd' sz' mc ms) (hsx : sv_sxs E sx sx') (o : gh_is T b c) (hc9 : c < 9) (hc : (vwCl[c]?).map (fun q => q.1) = some y.cls) (hn : As.length = n) (hst : st = As.reverse ++ .ref b :: rest) (hw : (rest.map fun v => v.category).sum ≤ 8)
    (hR : fr + 1 ≤ (sv_R X).frames ∧ 8 + (mL + 11) + lo ≤ (sv_R X).locals) (hcs : ce + mc ≤ (sv_R X).cells ∧ sl + ms ≤ (sv_R X).slots) (hd : decode cc pc = .ok (.invokevirtual index, 3)) (kk : sv_J E X wd' sz' (ce + mc) (sl + ms) (pc + 3) lv (res.toList ++ rest)) : sv_J E X (gh_w E T V) sz ce sl pc lv st := by
  obtain ⟨q, hq⟩ := gh_obj (E := E) (V := V) o hc9
  exact sv_callV C L M hsx q hq hc hn hst hw hR hcs hd kk
theorem gh_callV0 {c : Nat} (C : sv_C E X cc own sx) (L : sv_MV own index y cb mL rt n) (M : sv_Met (sv_l X) E y cb mL rt fr lo sx' (.ref b :: As) (gh_w E T V) sz res wd' sz' 0 0) (hsx : sv_sxs E sx sx') (o : gh_is T b c) (hc9 : c < 9) (hc : (vwCl[c]?).map (fun q => q.1) = some y.cls) (hn : As.length = n) (hst : st = As.reverse ++ .ref b :: rest) (hw : (rest.map fun v => v.category).sum ≤ 8)
    (hR : fr + 1 ≤ (sv_R X).frames ∧ 8 + (mL + 11) + lo ≤ (sv_R X).locals) (hcs : ce ≤ (sv_R X).cells ∧ sl ≤ (sv_R X).slots) (hd : decode cc pc = .ok (.invokevirtual index, 3)) (kk : sv_J E X wd' sz' ce sl (pc + 3) lv (res.toList ++ rest)) : sv_J E X (gh_w E T V) sz ce sl pc lv st := by
  obtain ⟨q, hq⟩ := gh_obj (E := E) (V := V) o hc9
  exact sv_callV C L M hsx q hq hc hn hst hw hR hcs hd kk
end GHR
theorem gh_okr {T : gh_T} {a c k d b : Nat} (h : gh_ok T) (o : gh_is T a c) (hk : gh_rk c k = some d) (hb : T.2.2.1 k a = some b) : gh_is T b d := h.1 a c k d b o hk hb
/-! ===== static arrays, strings: cells outside the world ===== -/
section GSR
variable {E : sv_E} {X : sv_X} {cc : ByteArray} {own : String} {sx : List (Nat × Nat × List Int32)} {wd : va_W} {sz ce sl pc : Nat} {lv lv' : List (Nat × Value)} {st : List Value}
theorem gs_get {index j : Nat} {w : String × String × List Int32} (C : sv_C E X cc own sx) (hj : sv_sta[j]? = some w) (hw : Cond.fieldLink own index w.1 w.2.1 "[I" ∈ sv_w) (hd : decode cc pc = .ok (.getstatic index, 3)) (kk : sv_J E X wd sz ce sl (pc + 3) lv (.ref (E.2.2.2.2 j) :: st)) : sv_J E X wd sz ce sl pc lv st := by
  obtain ⟨p, l, e, R, s, m, args, below, meth, c, Q, A, nL⟩ := X
  exact fun H locs ls h1 h2 h3 h4 h5 => va_gets C.1.1 C.1.2.1 (C.2.2.2.2.1.2.1 j w hj).1 h4 C.1.2.2.2.1 (C.1.2.2.2.2 _ hw) (fun _ h => h) hd (kk H locs ls h1 h2 h3 h4 h5)
theorem gs_alen {j : Nat} {w : String × String × List Int32} (C : sv_C E X cc own sx) (hj : sv_sta[j]? = some w) (hd : decode cc pc = .ok (.arraylength, 1)) (kk : sv_J E X wd sz ce sl (pc + 1) lv (.int (Int32.ofNat w.2.2.length) :: st)) : sv_J E X wd sz ce sl pc lv (.ref (E.2.2.2.2 j) :: st) := by
  obtain ⟨p, l, e, R, s, m, args, below, meth, c, Q, A, nL⟩ := X
  exact fun H locs ls h1 h2 h3 h4 h5 => va_tlen C.1.1 C.1.2.1 (C.2.2.2.2.1.2.1 j w hj).2 h4 rfl hd (kk H locs ls h1 h2 h3 h4 h5)
theorem gs_iald {j : Nat} {w : String × String × List Int32} {i : Int32} (C : sv_C E X cc own sx) (hj : sv_sta[j]? = some w) (hin : sv_inb i w.2.2.length = true) (hd : decode cc pc = .ok (.iaload, 1)) (kk : sv_J E X wd sz ce sl (pc + 1) lv (.int (w.2.2.getD i.toNatClampNeg 0) :: st)) : sv_J E X wd sz ce sl pc lv (.int i :: .ref (E.2.2.2.2 j) :: st) := by
  obtain ⟨p, l, e, R, s, m, args, below, meth, c, Q, A, nL⟩ := X
  exact fun H locs ls h1 h2 h3 h4 h5 => va_ti C.1.1 C.1.2.1 (C.2.2.2.2.1.2.1 j w hj).2 h4 (sv_inb_in hin) rfl hd (kk H locs ls h1 h2 h3 h4 h5)
variable {k v : Nat} {t : List Int32}
theorem ss_compact {index : Nat} (C : sv_C E X cc own sx) (hw : Cond.fieldLink own index "java/lang/String" "COMPACT_STRINGS" "Z" ∈ sv_w) (hd : decode cc pc = .ok (.getstatic index, 3)) (kk : sv_J E X wd sz ce sl (pc + 3) lv (.int 1 :: st)) : sv_J E X wd sz ce sl pc lv st := by
  obtain ⟨p, l, e, R, s, m, args, below, meth, c, Q, A, nL⟩ := X
  exact fun H locs ls h1 h2 h3 h4 h5 => va_gets C.1.1 C.1.2.1 C.2.2.2.2.1.2.2.1 h4 C.1.2.2.2.1 (C.1.2.2.2.2 _ hw) (fun _ h => h) hd (kk H locs ls h1 h2 h3 h4 h5)
/-- the formatter of the JDK's checks: some reference, or null -/
theorem ss_fmt {index : Nat} (C : sv_C E X cc own sx) (hw : Cond.fieldLink own index "jdk/internal/util/Preconditions" "SIOOBE_FORMATTER" "Ljava/util/function/BiFunction;" ∈ sv_w) (hd : decode cc pc = .ok (.getstatic index, 3)) (kn : sv_J E X wd sz ce sl (pc + 3) lv (.null :: st)) (kk : ∀ a : Nat, sv_J E X wd sz ce sl (pc + 3) lv (.ref a :: st)) : sv_J E X wd sz ce sl pc lv st := by
  obtain ⟨p, l, e, R, s, m, args, below, meth, c, Q, A, nL⟩ := X
  rcases C.2.2.2.2.1.2.2.2.1 with hz | ⟨a, hz⟩
  · exact fun H locs ls h1 h2 h3 h4 h5 => va_gets C.1.1 C.1.2.1 hz h4 C.1.2.2.2.1 (C.1.2.2.2.2 _ hw) (fun _ h => h) hd (kn H locs ls h1 h2 h3 h4 h5)
  · exact fun H locs ls h1 h2 h3 h4 h5 => va_gets C.1.1 C.1.2.1 hz h4 C.1.2.2.2.1 (C.1.2.2.2.2 _ hw) (fun _ h => h) hd (kk a H locs ls h1 h2 h3 h4 h5)
theorem ss_coder {index : Nat} (C : sv_C E X cc own sx) (hx : (k, v, t) ∈ sx) (hw : Cond.fieldLink own index "java/lang/String" "coder" "B" ∈ sv_w) (hd : decode cc pc = .ok (.getfield index, 3)) (kk : sv_J E X wd sz ce sl (pc + 3) lv (.int 0 :: st)) : sv_J E X wd sz ce sl pc lv (.ref k :: st) := by
  obtain ⟨p, l, e, R, s, m, args, below, meth, c, Q, A, nL⟩ := X
  exact fun H locs ls h1 h2 h3 h4 h5 => vk_getf C.1.1 C.1.2.1 (C.2.2.2.2.2 _ hx).2.1 h4 C.1.2.2.2.1 (C.1.2.2.2.2 _ hw) (fun _ h => h) hd (kk H locs ls h1 h2 h3 h4 h5)
theorem ss_value {index : Nat} (C : sv_C E X cc own sx) (hx : (k, v, t) ∈ sx) (hw : Cond.fieldLink own index "java/lang/String" "value" "[B" ∈ sv_w) (hd : decode cc pc = .ok (.getfield index, 3)) (kk : sv_J E X wd sz ce sl (pc + 3) lv (.ref v :: st)) : sv_J E X wd sz ce sl pc lv (.ref k :: st) := by
  obtain ⟨p, l, e, R, s, m, args, below, meth, c, Q, A, nL⟩ := X
  exact fun H locs ls h1 h2 h3 h4 h5 => vk_getf C.1.1 C.1.2.1 (C.2.2.2.2.2 _ hx).2.2.1 h4 C.1.2.2.2.1 (C.1.2.2.2.2 _ hw) (fun _ h => h) hd (kk H locs ls h1 h2 h3 h4 h5)
theorem ss_alen (C : sv_C E X cc own sx) (hx : (k, v, t) ∈ sx) (hd : decode cc pc = .ok (.arraylength, 1)) (kk : sv_J E X wd sz ce sl (pc + 1) lv (.int (Int32.ofNat t.length) :: st)) : sv_J E X wd sz ce sl pc lv (.ref v :: st) := by
  obtain ⟨p, l, e, R, s, m, args, below, meth, c, Q, A, nL⟩ := X
  exact fun H locs ls h1 h2 h3 h4 h5 => va_tlen C.1.1 C.1.2.1 (C.2.2.2.2.2 _ hx).2.2.2 h4 rfl hd (kk H locs ls h1 h2 h3 h4 h5)
theorem ss_bald {i : Int32} (C : sv_C E X cc own sx) (hx : (k, v, t) ∈ sx) (hin : sv_inb i t.length = true) (hd : decode cc pc = .ok (.baload, 1)) (kk : sv_J E X wd sz ce sl (pc + 1) lv (.int (t.getD i.toNatClampNeg 0) :: st)) : sv_J E X wd sz ce sl pc lv (.int i :: .ref v :: st) := by
  obtain ⟨p, l, e, R, s, m, args, below, meth, c, Q, A, nL⟩ := X
  exact fun H locs ls h1 h2 h3 h4 h5 => va_tb C.1.1 C.1.2.1 (C.2.2.2.2.2 _ hx).2.2.2 h4 (sv_inb_in hin) rfl hd (kk H locs ls h1 h2 h3 h4 h5)
variable {sx' : List (Nat × Nat × List Int32)} {wd' : va_W} {sz' : Nat} {rest : List Value}
variable {index : Nat} {y : MethodName} {cb : ByteArray} {mL : Nat} {rt : Option FieldType} {n fr lo : Nat} {As : List Value} {res : Option Value}
/-- invokevirtual on a String -/
theorem ss_callV (C : sv_C E X cc own sx) (L : sv_MV own index y cb mL rt n) (M : sv_Met (sv_l X) E y cb mL rt fr lo sx' (.ref k :: As) wd sz res wd' sz' 0 0) (hsx : sv_sxs E sx sx') (hx : (k, v, t) ∈ sx') (hc : y.cls = "java/lang/String") (hn : As.length = n) (hst : st = As.reverse ++ .ref k :: rest) (hw : (rest.map fun v => v.category).sum ≤ 8)
    (hR : fr + 1 ≤ (sv_R X).frames ∧ 8 + (mL + 11) + lo ≤ (sv_R X).locals) (hcs : ce ≤ (sv_R X).cells ∧ sl ≤ (sv_R X).slots) (hd : decode cc pc = .ok (.invokevirtual index, 3)) (kk : sv_J E X wd' sz' ce sl (pc + 3) lv (res.toList ++ rest)) : sv_J E X wd sz ce sl pc lv st := by
  obtain ⟨p, l, e, R, s, m, args, below, meth, c, Q, A, nL⟩ := X
  obtain ⟨S, hK, hlk, hA, hE, hX⟩ := C
  intro H locs ls g1 hP hD hS g5
  subst g1
  have hf := sv_free hA hD hS
  have hrec : ∃ cell : Cell, H[k]? = some cell ∧ cell.vm.isStatics = false ∧ s.vm.findClass y.cls = some cell.cls := by
    have h1 := (sv_sxu hE hX hsx _ hx).1
    obtain ⟨cell, e1, e2, e3, -⟩ := va_O.kept (H1 := H) h1 (fun a h2 h3 => hS.2.1 a h2 h3)
    exact ⟨cell, e1, e2, by rw [hc]; exact e3⟩
  refine sv_cont (va_runV (As := As) (rest := rest) S M (cwV n S.2.2.2.2 L.1 rfl rfl rfl ⟨rfl, L.2⟩ hR) ⟨sv_blind, hrec, sv_pre (wd0 := wd) (sx := sx) hK hE (sv_sxu hE hX hsx) rfl hP hD hS hf⟩ rfl hn g5.1 hst (lv_room hw) hd hcs) hS hf (fun H1 locs1 k1 k2 k3 k4 k5 k6 => kk H1 locs1 ls k1 k2 k3 k6 g5)
end GSR
section SMM
variable {E : sv_E} {X : sv_X} {cc : ByteArray} {own : String} {sx : List (Nat × Nat × List Int32)} {wd : va_W} {sz ce sl pc : Nat} {lv lv' : List (Nat × Value)} {rest : List Value}
theorem sv_mmax {index : Nat} {x y : Int32} (C : sv_C E X cc own sx) (w1 : Cond.methodLink own index Lib.Math.max.name ∈ sv_w) (w2 : Cond.static Lib.Math.max.name ∈ sv_w) (w3 : Cond.initialized "java/lang/Math" ∈ sv_w) (w4 : Cond.code Lib.Math.max.name Lib.Math.max.code 2 (some .int) ∈ sv_w) (hr : 1 ≤ (sv_R X).frames ∧ (rest.map fun v => v.category).sum + 13 ≤ (sv_R X).locals) (hcs : ce ≤ (sv_R X).cells ∧ sl ≤ (sv_R X).slots) (hd : decode cc pc = .ok (.invokestatic index, 3)) (k : sv_J E X wd sz ce sl (pc + 3) lv (.int (if x < y then y else x) :: rest)) : sv_J E X wd sz ce sl pc lv (.int y :: .int x :: rest) := by
  obtain ⟨p, l, e, R, s, m, args, below, meth, c, Q, A, nL⟩ := X
  exact fun H locs ls h1 h2 h3 h4 h5 => va_mmax C.1.1 C.1.2.1 (C.1.2.2.1.trans h5.1.symm) C.1.2.2.2.1 (C.1.2.2.2.2 _ w1) (C.1.2.2.2.2 _ w2) (C.1.2.2.2.2 _ w3) (C.1.2.2.2.2 _ w4) hr.1 hr.2 hcs.1 hcs.2 hd (k H locs ls h1 h2 h3 h4 h5)
theorem sv_mmin {index : Nat} {x y : Int32} (C : sv_C E X cc own sx) (w1 : Cond.methodLink own index Lib.Math.min.name ∈ sv_w) (w2 : Cond.static Lib.Math.min.name ∈ sv_w) (w3 : Cond.initialized "java/lang/Math" ∈ sv_w) (w4 : Cond.code Lib.Math.min.name Lib.Math.min.code 2 (some .int) ∈ sv_w) (hr : 1 ≤ (sv_R X).frames ∧ (rest.map fun v => v.category).sum + 13 ≤ (sv_R X).locals) (hcs : ce ≤ (sv_R X).cells ∧ sl ≤ (sv_R X).slots) (hd : decode cc pc = .ok (.invokestatic index, 3)) (k : sv_J E X wd sz ce sl (pc + 3) lv (.int (if y < x then y else x) :: rest)) : sv_J E X wd sz ce sl pc lv (.int y :: .int x :: rest) := by
  obtain ⟨p, l, e, R, s, m, args, below, meth, c, Q, A, nL⟩ := X
  exact fun H locs ls h1 h2 h3 h4 h5 => va_mmin C.1.1 C.1.2.1 (C.1.2.2.1.trans h5.1.symm) C.1.2.2.2.1 (C.1.2.2.2.2 _ w1) (C.1.2.2.2.2 _ w2) (C.1.2.2.2.2 _ w3) (C.1.2.2.2.2 _ w4) hr.1 hr.2 hcs.1 hcs.2 hd (k H locs ls h1 h2 h3 h4 h5)
end SMM
section SLW
variable {E : sv_E} {X : sv_X} {cc : ByteArray} {own : String} {sx : List (Nat × Nat × List Int32)} {wd : va_W} {sz ce sl pc : Nat} {lv lv' : List (Nat × Value)} {st : List Value}
/-- a String constant by a wide index -/
theorem sv_ldcSw {index i : Nat} {tx : String} {bs : List Int32} (C : sv_C E X cc own sx) (hi : sv_strs[i]? = some (own, index, tx, bs)) (hd : decode cc pc = .ok (.ldc_w index, 3)) (k : sv_J E X wd sz ce sl (pc + 3) lv (.ref (E.2.2.1 i) :: st)) : sv_J E X wd sz ce sl pc lv st := by
  obtain ⟨p, l, e, R, s, m, args, below, meth, c, Q, A, nL⟩ := X
  intro H locs ls h1 h2 h3 h4 h5 T hT Y
  have hZ := (C.2.2.2.2.1.1 i _ hi).1
  obtain ⟨t, a1, b1⟩ := k H locs ls h1 h2 h3 h4 h5 T hT Y
  exact ⟨t, Y.ldcStringW C.1.1 C.1.2.2.2.1 (text := tx) (a := E.2.2.1 i) hZ.1 hZ.2 (g := F0 m pc ls st) rfl (by rw [C.1.2.1]; exact hd) t a1, b1⟩
end SLW
