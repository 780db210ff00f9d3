/-! ===== the reference's world: one object and its arrays; md_B: int fields by slot, arrays by the slot of the field that holds them ===== -/
abbrev md_B : Type := (Nat → Int32) × (Nat → Nat → Int32)
def md_arr : List (Nat × Nat × Nat) := [(1, 1, 2000), (3, 1, 200), (6, 1, 79), (10, 1, 9), (11, 1, 80), (12, 1, 80), (15, 1, 18), (16, 1, 18), (21, 1, 11), (22, 1, 11), (23, 1, 11), (24, 2, 35640), (25, 2, 3240), (29, 1, 960), (30, 1, 2400), (31, 1, 120), (35, 2, 424)]
def md_ref (k : Nat) : Bool := k == 1 || k == 3 || k == 6 || k == 10 || k == 11 || k == 12 || k == 15 || k == 16 || k == 21 || k == 22 || k == 23 || k == 24 || k == 25 || k == 29 || k == 30 || k == 31 || k == 35
def md_fs (ad : Nat → Nat) (F : Nat → Int32) : List Value := (List.range 38).map (fun k => if md_ref k = true then .ref (ad k) else .int (F k))
def md_w (E : sv_E) (h0 : Nat) (ad : Nat → Nat) (B : md_B) : va_W := (h0, .inr (9, md_fs ad B.1)) :: md_arr.map (fun q => (ad q.1, .inl (E.2.1 q.2.1, q.2.2, .inl (B.2 q.1))))
/-- a field, a place of an array: set -/
def md_pf (B : md_B) (k : Nat) (v : Int32) : md_B := (upd B.1 k v, B.2)
def md_pa (B : md_B) (k : Nat) (i : Int32) (v : Int32) : md_B := (B.1, fun j => if j = k then upd (B.2 k) i.toNatClampNeg v else B.2 j)
theorem md_fs_i {ad : Nat → Nat} {F : Nat → Int32} {k : Nat} (h : md_ref k = false) (hk : k < 38) : (md_fs ad F)[k]? = some (.int (F k)) := by
  simp [md_fs, List.getElem?_map, List.getElem?_range hk, h]
theorem md_fs_r {ad : Nat → Nat} {F : Nat → Int32} {k : Nat} (h : md_ref k = true) (hk : k < 38) : (md_fs ad F)[k]? = some (.ref (ad k)) := by
  simp [md_fs, List.getElem?_map, List.getElem?_range hk, h]
theorem md_fs_s {ad : Nat → Nat} {F : Nat → Int32} {k : Nat} {v : Int32} (h : md_ref k = false) : (md_fs ad F).set k (.int v) = md_fs ad (upd F k v) := by
  apply List.ext_getElem?
  intro j
  rw [List.getElem?_set]
  by_cases hj : k = j
  · subst hj
    by_cases hk : k < 38
    · rw [md_fs_i h hk]
      simp [md_fs, hk, upd, h]
    · simp [md_fs, hk]
  · rw [if_neg hj]
    simp only [md_fs, List.getElem?_map]
    by_cases hk : j < 38
    · rw [List.getElem?_range hk]
      simp [upd, Ne.symm hj]
    · simp [hk]
theorem md_fs_l {ad : Nat → Nat} {F : Nat → Int32} : (md_fs ad F).length = 38 := by simp [md_fs]
theorem md_set_f {E : sv_E} {h0 : Nat} {ad : Nat → Nat} {B : md_B} {k : Nat} {v : Int32} (h : md_ref k = false) : (md_w E h0 ad B).set 0 (h0, .inr (9, (md_fs ad B.1).set k (.int v))) = md_w E h0 ad (md_pf B k v) := by
  simp [md_w, md_pf, md_fs_s h]
theorem md_at {E : sv_E} {h0 : Nat} {ad : Nat → Nat} {B : md_B} {j k t n : Nat} (h : md_arr[j]? = some (k, t, n)) : (md_w E h0 ad B)[j + 1]? = some (ad k, .inl (E.2.1 t, n, .inl (B.2 k))) := by
  simp [md_w, List.getElem?_map, h]
theorem md_one : ∀ i, i < 17 → ∀ j, j < 17 → (md_arr[i]?).map (fun q => q.1) = (md_arr[j]?).map (fun q => q.1) → i = j := by decide
theorem md_set_a {E : sv_E} {h0 : Nat} {ad : Nat → Nat} {B : md_B} {j k t n : Nat} {f : Nat → Int32} (h : md_arr[j]? = some (k, t, n)) : (md_w E h0 ad B).set (j + 1) (ad k, .inl (E.2.1 t, n, .inl f)) = md_w E h0 ad (B.1, fun i => if i = k then f else B.2 i) := by
  have hj : j < 17 := (List.getElem?_eq_some_iff.mp h).1
  simp only [md_w, List.set_cons_succ]
  congr 1
  apply List.ext_getElem?
  intro i
  rw [List.getElem?_set]
  by_cases hi : j = i
  · subst hi
    rw [if_pos rfl, if_pos (by rw [List.length_map]; exact hj), List.getElem?_map, h]
    simp
  · rw [if_neg hi, List.getElem?_map, List.getElem?_map]
    cases hq : md_arr[i]? with
    | none => rfl
    | some q =>
      have hi2 : i < 17 := (List.getElem?_eq_some_iff.mp hq).1
      have hne : q.1 ≠ k := fun e => hi (md_one j hj i hi2 (by rw [h, hq]; simp [e]))
      simp [hne]
section MDR
variable {E : sv_E} {X : sv_X} {cc : ByteArray} {own : String} {sx : List (Nat × Nat × List Int32)} {h0 : Nat} {ad : Nat → Nat} {B : md_B} {sz ce sl pc : Nat} {lv lv' : List (Nat × Value)} {st : List Value}
theorem md_geti {index k : Nat} {fin : Bool} {ty : FieldType} (C : sv_C E X cc own sx) (hF : sv_FL own index 9 k fin ty) (hk : (!md_ref k && decide (k < 38)) = true) (hd : decode cc pc = .ok (.getfield index, 3)) (kk : sv_J E X (md_w E h0 ad B) sz ce sl (pc + 3) lv (.int (B.1 k) :: st)) : sv_J E X (md_w E h0 ad B) sz ce sl pc lv (.ref h0 :: st) := by
  simp only [Bool.and_eq_true, Bool.not_eq_true', decide_eq_true_eq] at hk
  exact sv_getf C hF 0 rfl (md_fs_i hk.1 hk.2) hd kk
theorem md_getr {index k : Nat} {fin : Bool} {ty : FieldType} (C : sv_C E X cc own sx) (hF : sv_FL own index 9 k fin ty) (hk : (md_ref k && decide (k < 38)) = true) (hd : decode cc pc = .ok (.getfield index, 3)) (kk : sv_J E X (md_w E h0 ad B) sz ce sl (pc + 3) lv (.ref (ad k) :: st)) : sv_J E X (md_w E h0 ad B) sz ce sl pc lv (.ref h0 :: st) := by
  simp only [Bool.and_eq_true, decide_eq_true_eq] at hk
  exact sv_getf C hF 0 rfl (md_fs_r hk.1 hk.2) hd kk
theorem md_puti {index k : Nat} {ty : FieldType} {v : Int32} (C : sv_C E X cc own sx) (hF : sv_FL own index 9 k false ty) (hk : (!md_ref k && decide (k < 38)) = true) (hn : narrow ty (.int v) = .int v) (hfit : fits ty (.int v) = true) (hd : decode cc pc = .ok (.putfield index, 3)) (kk : sv_J E X (md_w E h0 ad (md_pf B k v)) sz ce sl (pc + 3) lv st) : sv_J E X (md_w E h0 ad B) sz ce sl pc lv (.int v :: .ref h0 :: st) := by
  simp only [Bool.and_eq_true, Bool.not_eq_true', decide_eq_true_eq] at hk
  refine sv_putf C hF 0 rfl hn hfit (by rw [md_fs_l]; exact hk.2) hd ?_
  rw [md_set_f hk.1]
  exact kk
theorem md_iald {k n : Nat} {i : Int32} (C : sv_C E X cc own sx) (j : Nat) (hj : md_arr[j]? = some (k, 1, n)) (hin : sv_inb i n = true) (hd : decode cc pc = .ok (.iaload, 1)) (kk : sv_J E X (md_w E h0 ad B) sz ce sl (pc + 1) lv (.int (B.2 k i.toNatClampNeg) :: st)) : sv_J E X (md_w E h0 ad B) sz ce sl pc lv (.int i :: .ref (ad k) :: st) := sv_iald C (j + 1) (md_at hj) hin hd kk
theorem md_zald {k n : Nat} {i : Int32} (C : sv_C E X cc own sx) (j : Nat) (hj : md_arr[j]? = some (k, 2, n)) (hin : sv_inb i n = true) (hd : decode cc pc = .ok (.baload, 1)) (kk : sv_J E X (md_w E h0 ad B) sz ce sl (pc + 1) lv (.int (B.2 k i.toNatClampNeg) :: st)) : sv_J E X (md_w E h0 ad B) sz ce sl pc lv (.int i :: .ref (ad k) :: st) := sv_zald C (j + 1) (md_at hj) hin hd kk
theorem md_iast {k n : Nat} {i x : Int32} (C : sv_C E X cc own sx) (j : Nat) (hj : md_arr[j]? = some (k, 1, n)) (hin : sv_inb i n = true) (hd : decode cc pc = .ok (.iastore, 1)) (kk : sv_J E X (md_w E h0 ad (md_pa B k i x)) sz ce sl (pc + 1) lv st) : sv_J E X (md_w E h0 ad B) sz ce sl pc lv (.int x :: .int i :: .ref (ad k) :: st) := by
  refine sv_iast C (j + 1) (md_at hj) hin hd ?_
  rw [md_set_a hj]
  exact kk
theorem md_zast {k n : Nat} {i x : Int32} (C : sv_C E X cc own sx) (j : Nat) (hj : md_arr[j]? = some (k, 2, n)) (hin : sv_inb i n = true) (hd : decode cc pc = .ok (.bastore, 1)) (kk : sv_J E X (md_w E h0 ad (md_pa B k i (vp_nar .boolean x))) sz ce sl (pc + 1) lv st) : sv_J E X (md_w E h0 ad B) sz ce sl pc lv (.int x :: .int i :: .ref (ad k) :: st) := by
  refine sv_zast C (j + 1) (md_at hj) hin hd ?_
  rw [md_set_a hj]
  exact kk
end MDR
/-! ===== pure functions that may fail: guards ===== -/
/-- fails unless b -/
def sv_g {α : Type} (b : Bool) (x : Option α) : Option α := if b = true then x else none
theorem sv_g_some {α : Type} {b : Bool} {x : Option α} {y : α} (h : sv_g b x = some y) : b = true ∧ x = some y := by
  unfold sv_g at h
  split at h
  · exact ⟨by assumption, h⟩
  · cases h
theorem sv_g_t {α : Type} {b : Bool} {x : Option α} (h : b = true) : sv_g b x = x := if_pos h
theorem sv_bind_some {α β : Type} {x : Option α} {f : α → Option β} {y : β} (h : x.bind f = some y) : ∃ a, x = some a ∧ f a = some y := by
  cases x with
  | none => cases h
  | some a => exact ⟨a, rfl, h⟩
theorem sv_if_t {α : Type} {c : Prop} [Decidable c] {a b : Option α} {y : α} (h : c) (e : (if c then a else b) = some y) : a = some y := by rw [if_pos h] at e; exact e
theorem sv_if_f {α : Type} {c : Prop} [Decidable c] {a b : Option α} {y : α} (h : ¬ c) (e : (if c then a else b) = some y) : b = some y := by rw [if_neg h] at e; exact e
/-- how often a loop may turn -/
def sv_fu : Nat := 100000
