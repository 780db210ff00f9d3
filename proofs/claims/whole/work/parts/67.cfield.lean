/-! ===== PURE: fields, the class ===== -/
theorem nu_div {n k : Nat} (hn : n < 2147483648) (hk : k < 2147483648) : Int32.ofNat n / Int32.ofNat k = Int32.ofNat (n / k) := by
  apply Int32.toInt_inj.mp
  have h1 : n / k ≤ n := Nat.div_le_self n k
  rw [Int32.toInt_div, nu_int hn, nu_int hk, nu_int (by omega), Int.tdiv_eq_ediv_of_nonneg (by omega), ← Int.natCast_ediv]
  generalize n / k = d at h1 ⊢
  rw [Int.bmod_eq_of_le] <;> omega
theorem nd_lit {n k : Nat} (x : Int32) (hx : x = Int32.ofNat k) (hn : n < 2147483648) (hk : k < 2147483648) : Int32.ofNat n / x = Int32.ofNat (n / k) := by rw [hx, nu_div hn hk]
theorem nm_lit {n k : Nat} (x : Int32) (hx : x = Int32.ofNat k) (hn : n < 2147483648) (hk : k < 2147483648) : Int32.ofNat n - Int32.ofNat n / x * x = Int32.ofNat (n % k) := by
  have h1 : n / k * k ≤ n := Nat.div_mul_le_self n k
  have h2 : n - n / k * k = n % k := by
    have := Nat.div_add_mod n k
    rw [Nat.mul_comm] at this
    omega
  rw [hx, nu_div hn hk, nu_mul, nu_sub h1, h2]
def S_cou (s p : Nat → Nat) (f : Nat) : Option Int32 := (S_dec s p f 2 3).bind (fun y => if 36000 ≤ y then none else some y)
def S_side (s p : Nat → Nat) (f ab be : Nat) (y : Int32) : Option Int32 := if y = -2147483648 then (if fl p f = 0 then some (-2147483648) else none) else if fl p f = 1 ∧ s (p f) = ab then some y else if fl p f = 1 ∧ s (p f) = be then some (-y) else none
def S_var (s p : Nat → Nat) (f : Nat) : Option Int32 := ((S_dec s p f 1 3).bind (fun y => if 1800 < y then none else some y)).bind (S_side s p (f + 1) 69 87)
def tm (v : Nat) : Option Int32 := if 23 < v / 10000000 ∨ 59 < v / 100000 % 100 ∨ 59999 < v % 100000 then none else some (Int32.ofNat ((v / 10000000 * 60 + v / 100000 % 100) * 60000 + v % 100000))
def S_time (s p : Nat → Nat) (f : Nat) : Option Int32 := if fl p f = 0 then some (-2147483648) else (sD s (p f) (fl p f) 6 6 3 3).bind tm
def dt (v : Nat) : Option Int32 := if v / 10000 < 1 ∨ 31 < v / 10000 ∨ v / 100 % 100 < 1 ∨ 12 < v / 100 % 100 then none else some (Int32.ofNat (v / 10000 + 100 * (v / 100 % 100) + 10000 * (v % 100)))
def S_date (s p : Nat → Nat) (f : Nat) : Option Int32 := if fl p f = 0 then some (-2147483648) else (sD s (p f) (fl p f) 6 6 0 0).bind dt
def ag (most v : Nat) : Option Int32 := if 600000 ≤ v % 1000000 ∨ most < v / 1000000 * 600000 + v % 1000000 then none else some (Int32.ofNat (v / 1000000 * 600000 + v % 1000000))
def S_ang (s p : Nat → Nat) (f w most : Nat) : Option Int32 := if fl p f = 0 then some (-2147483648) else (sD s (p f) (fl p f) w w 6 4).bind (ag most)
def S_one (s p : Nat → Nat) (f : Nat) (l : List Nat) : Option Int32 := if fl p f = 0 then some (-2147483648) else if fl p f = 1 ∧ s (p f) ∈ l then some (Int32.ofNat (s (p f))) else none
def S_who (s p : Nat → Nat) (f least most : Nat) : Option Int32 := if fl p f = 0 then some (-2147483648) else (sD s (p f) (fl p f) least most 0 0).map Int32.ofNat
abbrev U_unit (s p : Nat → Nat) (f u : Nat) : Prop := if fl p f = 0 then fl p (f - 1) = 0 else fl p f = 1 ∧ s (p f) = u
theorem p9 {a b : Nat} (h : a + b ≤ 9) : 10 ^ (a + b) < 2147483648 := Nat.lt_of_le_of_lt (Nat.pow_le_pow_right (by decide) h) (by decide)
section CF
variable {a0 m nf : Nat} {s p : Nat → Nat} {T : gh_T} {V : gh_V} {B : md_B} {f : Nat}
theorem c_decimal (hs : sh a0 T) (hS : FS m s nf p) (hC : FC a0 m s nf p V) (hf : f < nf) {d w : Nat} (hd : d ≤ 4) (hw : 1 ≤ w) (hw2 : w < 100) : f_X1_decimal T V (a0 + 8) (Int32.ofNat f) (Int32.ofNat d) (Int32.ofNat w) = some (cr (a0 + 8) V (S_dec s p f d w)) := by
  have hb := hS.b hf
  unfold f_X1_decimal S_dec
  rw [c_emp hs hS hC hf, Option.bind_some]
  by_cases c : fl p f = 0
  · rw [if_pos c, if_pos c]
    rfl
  · rw [if_neg c, if_neg c, if_pos rfl, c_from hs hS hC hf, Option.bind_some, c_to hs hS hC hf, Option.bind_some]
    have := c_digits hs hS hC (a := p f) (l := fl p f) (least := 1) (most := w) (behind := 6) (kept := d) (by omega) hw hw2 (by decide) (by omega)
    show (f_X1_digits T V (a0 + 8) (Int32.ofNat (p f)) (Int32.ofNat (p f + fl p f)) (Int32.ofNat 1) (Int32.ofNat w) (Int32.ofNat 6) (Int32.ofNat d)).bind _ = _
    rw [this, Option.bind_some]
theorem c_signed (hs : sh a0 T) (hS : FS m s nf p) (hC : FC a0 m s nf p V) (hf : f + 1 < nf) {d w : Nat} (hd : d ≤ 4) (hw : 1 ≤ w) (hw2 : w + d ≤ 9) : f_X1_signed T V (a0 + 8) (Int32.ofNat f) (Int32.ofNat d) (Int32.ofNat w) = some (cr (a0 + 8) V (S_sgn s p f d w)) := by
  have hf0 : f < nf := by omega
  have hb := hS.b hf0
  have hb1 := hS.b hf
  have h44 := hS.2.2.2.2.2.2.2 f hf
  have hlt : p f < m := by omega
  have h2 := hS.2.2.2.1 (p f) hlt
  have hdec := c_decimal hs hS hC hf0 hd hw (by omega : w < 100)
  unfold f_X1_signed
  rw [c_from hs hS hC hf0, Option.bind_some, c_at hs hS hC hlt, Option.bind_some]
  by_cases c0 : fl p f = 0
  · have e : s (p f) = 44 := by rw [← h44]; congr 1; omega
    rw [e, if_neg (by simp)]
    simp only
    rw [hdec, Option.bind_some]
    unfold S_sgn S_dec
    rw [if_pos c0, if_pos c0]
  · by_cases c4 : s (p f) = 45
    · have := c_digits hs hS hC (a := p f + 1) (l := fl p f - 1) (least := 1) (most := w) (behind := 6) (kept := d) (by omega) hw (by omega) (by decide) (by omega)
      rw [show p f + 1 + (fl p f - 1) = p f + fl p f by omega] at this
      rw [if_pos (by rw [c4]; rfl)]
      simp only
      rw [c_from hs hS hC hf0, Option.bind_some, c_to hs hS hC hf0, Option.bind_some, nu_s]
      show (f_X1_digits T V (a0 + 8) (Int32.ofNat (p f + 1)) (Int32.ofNat (p f + fl p f)) (Int32.ofNat 1) (Int32.ofNat w) (Int32.ofNat 6) (Int32.ofNat d)).bind _ = _
      rw [this, Option.bind_some]
      unfold S_sgn
      rw [if_neg c0, if_pos c4]
      cases hD : sD s (p f + 1) (fl p f - 1) 1 w 6 d with
      | none => exact if_pos rfl
      | some v =>
        have hv := sD_lt hD
        have hp := p9 (a := w) (b := d) hw2
        exact if_neg (none_ne (by omega))
    · rw [if_neg (mt (nl_eq 45 45 rfl (by decide) (by omega)).mp c4)]
      simp only
      rw [hdec, Option.bind_some]
      unfold S_sgn S_dec
      rw [if_neg c0, if_neg c0, if_neg c4]
theorem cr_wrong {V : gh_V} {r : Option Int32} {A : Nat} (h : r = none) : (cr A V r) = (-2147483648, gh_pf V 3 A 0) := by rw [h]; rfl
theorem c_course (hs : sh a0 T) (hS : FS m s nf p) (hC : FC a0 m s nf p V) (hf : f < nf) : f_X1_course T V (a0 + 8) (Int32.ofNat f) = some (cr (a0 + 8) V (S_cou s p f)) := by
  unfold f_X1_course f_X1_wrong
  have hdec := c_decimal hs hS hC hf (d := 2) (w := 3) (by decide) (by decide) (by decide)
  have hdec : f_X1_decimal T V (a0 + 8) (Int32.ofNat f) 2 3 = some (cr (a0 + 8) V (S_dec s p f 2 3)) := hdec
  rw [hdec, Option.bind_some]
  unfold S_cou
  cases S_dec s p f 2 3 with
  | none => exact if_neg (by decide : ¬ (36000 : Int32) ≤ -2147483648)
  | some y =>
    show (if 36000 ≤ y then _ else _) = some (cr (a0 + 8) V (if 36000 ≤ y then none else some y))
    by_cases c : 36000 ≤ y
    · rw [if_pos c, if_pos c]
      rfl
    · rw [if_neg c, if_neg c]
theorem c_side' (hs : sh a0 T) (hS : FS m s nf p) (hC : FC a0 m s nf p V) (hf : f < nf) {ab be : Nat} (hab : ab < 1000) (hbe : be < 1000) (y : Int32) : f_X1_onSide T V (a0 + 8) y (Int32.ofNat f) (Int32.ofNat ab) (Int32.ofNat be) = some (cr (a0 + 8) V (S_side s p f ab be y)) := by
  have hb := hS.b hf
  unfold f_X1_onSide f_X1_onSide_53 f_X1_wrong S_side
  by_cases c0 : y = -2147483648
  · rw [if_pos c0, if_pos c0, c_emp hs hS hC hf, Option.bind_some]
    by_cases c : fl p f = 0
    · rw [if_pos c, if_pos c]
      rfl
    · rw [if_neg c, if_neg c]
      rfl
  · rw [if_neg c0, if_neg c0, c_to hs hS hC hf, Option.bind_some, c_from hs hS hC hf, Option.bind_some]
    simp only
    rw [nu_sub (by omega), show p f + fl p f - p f = fl p f by omega]
    by_cases c1 : fl p f = 1
    · have h2 := hS.2.2.2.1 (p f) (by omega)
      rw [if_pos (by rw [c1]; rfl), c_from hs hS hC hf, Option.bind_some, c_at hs hS hC (by omega), Option.bind_some]
      simp only [nu_eq (show s (p f) < 2147483648 by omega) (show ab < 2147483648 by omega), nu_eq (show s (p f) < 2147483648 by omega) (show be < 2147483648 by omega)]
      by_cases c2 : s (p f) = ab
      · rw [if_pos c2, if_pos ⟨c1, c2⟩]
        rfl
      · rw [if_neg c2, if_neg (show ¬ (fl p f = 1 ∧ s (p f) = ab) from fun h => c2 h.2)]
        by_cases c3 : s (p f) = be
        · rw [if_pos c3, if_pos ⟨c1, c3⟩]
          rfl
        · rw [if_neg c3, if_neg (show ¬ (fl p f = 1 ∧ s (p f) = be) from fun h => c3 h.2)]
          rfl
    · rw [if_neg (mt (nl_eq 1 1 rfl (by decide) (by omega)).mp c1), if_neg (show ¬ (fl p f = 1 ∧ s (p f) = ab) from fun h => c1 h.1), if_neg (show ¬ (fl p f = 1 ∧ s (p f) = be) from fun h => c1 h.1), if_neg (fun h => none_ne (by omega : ab < 2147483648) h.symm), if_neg (fun h => none_ne (by omega : be < 2147483648) h.symm)]
      rfl
/-- a side, behind a value that may be bad -/
theorem c_side (hs : sh a0 T) (hS : FS m s nf p) (hC : FC a0 m s nf p V) (hf : f < nf) {ab be : Nat} (hab : ab < 1000) (hbe : be < 1000) (r : Option Int32) : f_X1_onSide T (cr (a0 + 8) V r).2 (a0 + 8) (cr (a0 + 8) V r).1 (Int32.ofNat f) (Int32.ofNat ab) (Int32.ofNat be) = some (cr (a0 + 8) V (r.bind (S_side s p f ab be))) := by
  cases r with
  | some y => exact c_side' hs hS hC hf hab hbe y
  | none =>
    show f_X1_onSide T (gh_pf V 3 (a0 + 8) 0) (a0 + 8) (-2147483648) (Int32.ofNat f) (Int32.ofNat ab) (Int32.ofNat be) = _
    rw [c_side' hs hS hC.wr hf hab hbe]
    unfold S_side
    rw [if_pos rfl]
    by_cases c : fl p f = 0
    · rw [if_pos c]
      rfl
    · rw [if_neg c]
      show some (-2147483648, gh_pf (gh_pf V 3 (a0 + 8) 0) 3 (a0 + 8) 0) = _
      rw [nf_two]
      rfl
theorem c_variation (hs : sh a0 T) (hS : FS m s nf p) (hC : FC a0 m s nf p V) (hf : f + 1 < nf) : f_X1_variation T V (a0 + 8) (Int32.ofNat f) = some (cr (a0 + 8) V (S_var s p f)) := by
  unfold f_X1_variation f_X1_wrong
  have hdec := c_decimal hs hS hC (show f < nf by omega) (d := 1) (w := 3) (by decide) (by decide) (by decide)
  have hdec : f_X1_decimal T V (a0 + 8) (Int32.ofNat f) 1 3 = some (cr (a0 + 8) V (S_dec s p f 1 3)) := hdec
  have hsid := fun r => c_side hs hS hC hf (ab := 69) (be := 87) (by decide) (by decide) r
  have hsid : ∀ r, f_X1_onSide T (cr (a0 + 8) V r).2 (a0 + 8) (cr (a0 + 8) V r).1 (Int32.ofNat (f + 1)) 69 87 = some (cr (a0 + 8) V (r.bind (S_side s p (f + 1) 69 87))) := hsid
  rw [hdec, Option.bind_some, nu_s, hsid]
  unfold S_var
  cases S_dec s p f 1 3 with
  | none => exact if_neg (by decide : ¬ (1800 : Int32) < -2147483648)
  | some y =>
    show (if 1800 < y then _ else _) = some (cr (a0 + 8) V ((if 1800 < y then none else some y : Option Int32).bind _))
    by_cases c : 1800 < y
    · rw [if_pos c, if_pos c]
      rfl
    · rw [if_neg c, if_neg c]
      rfl
theorem c_time (hs : sh a0 T) (hS : FS m s nf p) (hC : FC a0 m s nf p V) (hf : f < nf) : f_X1_time T V (a0 + 8) (Int32.ofNat f) = some (cr (a0 + 8) V (S_time s p f)) := by
  have hb := hS.b hf
  unfold f_X1_time S_time
  rw [c_emp hs hS hC hf, Option.bind_some]
  by_cases c : fl p f = 0
  · rw [if_pos c, if_pos c]
    rfl
  · rw [if_neg c, if_neg c, if_pos rfl, c_from hs hS hC hf, Option.bind_some, c_to hs hS hC hf, Option.bind_some]
    have := c_digits hs hS hC (a := p f) (l := fl p f) (least := 6) (most := 6) (behind := 3) (kept := 3) (by omega) (by decide) (by decide) (by decide) (by decide)
    show (f_X1_digits T V (a0 + 8) (Int32.ofNat (p f)) (Int32.ofNat (p f + fl p f)) (Int32.ofNat 6) (Int32.ofNat 6) (Int32.ofNat 3) (Int32.ofNat 3)).bind _ = _
    rw [this, Option.bind_some]
    cases hD : sD s (p f) (fl p f) 6 6 3 3 with
    | none => exact if_pos rfl
    | some v =>
      have hv : v < 1000000000 := sD_lt hD
      show f_X1_time_33 T (a0 + 8) V (Int32.ofNat v) = some (cr (a0 + 8) V (tm v))
      unfold f_X1_time_33 f_X1_time_83 f_X1_wrong tm
      rw [if_neg (none_ne (by omega)), nm_lit (k := 100000) 100000 rfl (by omega) (by decide), nd_lit (k := 100000) 100000 rfl (by omega) (by decide), nd_lit (k := 10000000) 10000000 rfl (by omega) (by decide), nm_lit (k := 100) 100 rfl (by omega) (by decide)]
      by_cases c1 : 23 < v / 10000000
      · rw [if_pos ((nl_lt 23 23 rfl (by decide) (by omega)).mpr c1), if_pos (Or.inl c1)]
        rfl
      · rw [if_neg (mt (nl_lt 23 23 rfl (by decide) (by omega)).mp c1)]
        by_cases c2 : 59 < v / 100000 % 100
        · rw [if_pos ((nl_lt 59 59 rfl (by decide) (by omega)).mpr c2), if_pos (Or.inr (Or.inl c2))]
          rfl
        · rw [if_neg (mt (nl_lt 59 59 rfl (by decide) (by omega)).mp c2)]
          by_cases c3 : 59999 < v % 100000
          · rw [if_neg (by rw [nl_ge 59999 59999 rfl (by decide) (by omega)]; omega), if_pos (Or.inr (Or.inr c3))]
            rfl
          · rw [if_pos (by rw [nl_ge 59999 59999 rfl (by decide) (by omega)]; omega), if_neg (by omega), show (60 : Int32) = Int32.ofNat 60 from rfl, show (60000 : Int32) = Int32.ofNat 60000 from rfl, nu_mul, nu_add, nu_mul, nu_add]
            rfl
theorem c_whole (hs : sh a0 T) (hS : FS m s nf p) (hC : FC a0 m s nf p V) (hf : f < nf) {least most : Nat} (hlm : least ≤ most) (hm : most < 100) : f_X1_whole T V (a0 + 8) (Int32.ofNat f) (Int32.ofNat least) (Int32.ofNat most) = some (cr (a0 + 8) V (S_who s p f least most)) := by
  have hb := hS.b hf
  unfold f_X1_whole S_who
  rw [c_emp hs hS hC hf, Option.bind_some]
  by_cases c : fl p f = 0
  · rw [if_pos c, if_pos c]
    rfl
  · rw [if_neg c, if_neg c, if_pos rfl, c_from hs hS hC hf, Option.bind_some, c_to hs hS hC hf, Option.bind_some]
    have := c_digits hs hS hC (a := p f) (l := fl p f) (least := least) (most := most) (behind := 0) (kept := 0) (by omega) hlm hm (by decide) (by decide)
    show (f_X1_digits T V (a0 + 8) (Int32.ofNat (p f)) (Int32.ofNat (p f + fl p f)) (Int32.ofNat least) (Int32.ofNat most) (Int32.ofNat 0) (Int32.ofNat 0)).bind _ = _
    rw [this, Option.bind_some]
theorem c_date (hs : sh a0 T) (hS : FS m s nf p) (hC : FC a0 m s nf p V) (hf : f < nf) : f_X1_date T V (a0 + 8) (Int32.ofNat f) = some (cr (a0 + 8) V (S_date s p f)) := by
  have hw := c_whole hs hS hC hf (least := 6) (most := 6) (by decide) (by decide)
  have hw : f_X1_whole T V (a0 + 8) (Int32.ofNat f) 6 6 = _ := hw
  unfold f_X1_date f_X1_date_64 f_X1_wrong S_date
  rw [hw, Option.bind_some]
  unfold S_who
  by_cases c : fl p f = 0
  · rw [if_pos c, if_pos c]
    rfl
  · rw [if_neg c, if_neg c]
    cases hD : sD s (p f) (fl p f) 6 6 0 0 with
    | none => exact if_pos rfl
    | some v =>
      have hv : v < 1000000 := sD_lt hD
      show (if Int32.ofNat v = -2147483648 then _ else _) = some (cr (a0 + 8) V (dt v))
      unfold dt
      simp only [cr, Option.map_some]
      rw [if_neg (none_ne (by omega))]
      have e1 := nm_lit (n := v) (k := 100) 100 rfl (by omega) (by decide)
      have e2 := nd_lit (n := v) (k := 100) 100 rfl (by omega) (by decide)
      have e3 := nd_lit (n := v) (k := 10000) 10000 rfl (by omega) (by decide)
      have e4 := nm_lit (n := v / 100) (k := 100) 100 rfl (by omega) (by decide)
      rw [e2] at e1
      simp only [e2, e3, e4, e1]
      by_cases c1 : v / 10000 < 1
      · rw [if_pos ((nl_gt 1 1 rfl (by decide) (by omega)).mpr c1), if_pos (Or.inl c1)]
        rfl
      · rw [if_neg (mt (nl_gt 1 1 rfl (by decide) (by omega)).mp c1)]
        by_cases c2 : 31 < v / 10000
        · rw [if_pos ((nl_lt 31 31 rfl (by decide) (by omega)).mpr c2), if_pos (Or.inr (Or.inl c2))]
          rfl
        · rw [if_neg (mt (nl_lt 31 31 rfl (by decide) (by omega)).mp c2)]
          by_cases c3 : v / 100 % 100 < 1
          · rw [if_pos ((nl_gt 1 1 rfl (by decide) (by omega)).mpr c3), if_pos (Or.inr (Or.inr (Or.inl c3)))]
            rfl
          · rw [if_neg (mt (nl_gt 1 1 rfl (by decide) (by omega)).mp c3)]
            by_cases c4 : 12 < v / 100 % 100
            · rw [if_neg (by rw [nl_ge 12 12 rfl (by decide) (by omega)]; omega), if_pos (Or.inr (Or.inr (Or.inr c4)))]
              rfl
            · rw [if_pos (by rw [nl_ge 12 12 rfl (by decide) (by omega)]; omega), if_neg (by omega), show (100 : Int32) = Int32.ofNat 100 from rfl, show (10000 : Int32) = Int32.ofNat 10000 from rfl, nu_mul, nu_add, nu_mul, nu_add]
theorem c_angle (hs : sh a0 T) (hS : FS m s nf p) (hC : FC a0 m s nf p V) (hf : f < nf) {w most : Nat} (hw : w ≤ 5) (hm : most < 2147483648) : f_X1_angle T V (a0 + 8) (Int32.ofNat f) (Int32.ofNat w) (Int32.ofNat most) = some (cr (a0 + 8) V (S_ang s p f w most)) := by
  have hb := hS.b hf
  unfold f_X1_angle S_ang
  rw [c_emp hs hS hC hf, Option.bind_some]
  by_cases c : fl p f = 0
  · rw [if_pos c, if_pos c]
    rfl
  · rw [if_neg c, if_neg c, if_pos rfl, c_from hs hS hC hf, Option.bind_some, c_to hs hS hC hf, Option.bind_some]
    have := c_digits hs hS hC (a := p f) (l := fl p f) (least := w) (most := w) (behind := 6) (kept := 4) (by omega) (by omega) (by omega) (by decide) (by decide)
    show (f_X1_digits T V (a0 + 8) (Int32.ofNat (p f)) (Int32.ofNat (p f + fl p f)) (Int32.ofNat w) (Int32.ofNat w) (Int32.ofNat 6) (Int32.ofNat 4)).bind _ = _
    rw [this, Option.bind_some]
    cases hD : sD s (p f) (fl p f) w w 6 4 with
    | none => exact if_pos rfl
    | some v =>
      have hv := sD_lt hD
      have hv2 : 10 ^ (w + 4) ≤ 1000000000 := Nat.le_trans (Nat.pow_le_pow_right (by decide) (show w + 4 ≤ 9 by omega)) (by decide)
      show f_X1_angle_32 T (a0 + 8) V (Int32.ofNat most) (Int32.ofNat v) = some (cr (a0 + 8) V (ag most v))
      unfold f_X1_angle_32 f_X1_angle_82 f_X1_wrong ag
      rw [if_neg (none_ne (by omega)), nm_lit (k := 1000000) 1000000 rfl (by omega) (by decide), nd_lit (k := 1000000) 1000000 rfl (by omega) (by decide), show (600000 : Int32) = Int32.ofNat 600000 from rfl, nu_mul, nu_add]
      by_cases c1 : 600000 ≤ v % 1000000
      · rw [if_pos ((nu_le (by decide) (by omega)).mpr c1), if_pos (Or.inl c1)]
        rfl
      · rw [if_neg (mt (nu_le (by decide) (by omega)).mp c1)]
        by_cases c2 : most < v / 1000000 * 600000 + v % 1000000
        · rw [if_pos ((nu_lt hm (by omega)).mpr c2), if_pos (Or.inr c2)]
          rfl
        · rw [if_neg (mt (nu_lt hm (by omega)).mp c2), if_neg (by omega)]
          rfl
theorem c_latitude (hs : sh a0 T) (hS : FS m s nf p) (hC : FC a0 m s nf p V) (hf : f + 1 < nf) : f_X1_latitude T V (a0 + 8) (Int32.ofNat f) = some (cr (a0 + 8) V ((S_ang s p f 4 54000000).bind (S_side s p (f + 1) 78 83))) := by
  have h1 := c_angle hs hS hC (show f < nf by omega) (w := 4) (most := 54000000) (by decide) (by decide)
  have h1 : f_X1_angle T V (a0 + 8) (Int32.ofNat f) 4 54000000 = _ := h1
  have h2 := c_side hs hS hC hf (ab := 78) (be := 83) (by decide) (by decide) (S_ang s p f 4 54000000)
  have h2 : f_X1_onSide T (cr (a0 + 8) V (S_ang s p f 4 54000000)).2 (a0 + 8) (cr (a0 + 8) V (S_ang s p f 4 54000000)).1 (Int32.ofNat (f + 1)) 78 83 = _ := h2
  unfold f_X1_latitude
  rw [h1, Option.bind_some, nu_s, h2]
  rfl
theorem c_longitude (hs : sh a0 T) (hS : FS m s nf p) (hC : FC a0 m s nf p V) (hf : f + 1 < nf) : f_X1_longitude T V (a0 + 8) (Int32.ofNat f) = some (cr (a0 + 8) V ((S_ang s p f 5 108000000).bind (S_side s p (f + 1) 69 87))) := by
  have h1 := c_angle hs hS hC (show f < nf by omega) (w := 5) (most := 108000000) (by decide) (by decide)
  have h1 : f_X1_angle T V (a0 + 8) (Int32.ofNat f) 5 108000000 = _ := h1
  have h2 := c_side hs hS hC hf (ab := 69) (be := 87) (by decide) (by decide) (S_ang s p f 5 108000000)
  have h2 : f_X1_onSide T (cr (a0 + 8) V (S_ang s p f 5 108000000)).2 (a0 + 8) (cr (a0 + 8) V (S_ang s p f 5 108000000)).1 (Int32.ofNat (f + 1)) 69 87 = _ := h2
  unfold f_X1_longitude
  rw [h1, Option.bind_some, nu_s, h2]
  rfl
theorem c_unit (hs : sh a0 T) (hS : FS m s nf p) (hC : FC a0 m s nf p V) (hf : f < nf) (h1 : 1 ≤ f) {u : Nat} (hu : u < 1000) : f_X1_checkUnit T V (a0 + 8) (Int32.ofNat f) (Int32.ofNat u) = some (if U_unit s p f u then V else gh_pf V 3 (a0 + 8) 0) := by
  have hb := hS.b hf
  unfold f_X1_checkUnit f_X1_checkUnit_50 f_X1_checkUnit_51
  rw [c_emp hs hS hC hf, Option.bind_some]
  by_cases c : fl p f = 0
  · have e1 : Int32.ofNat f - 1 = Int32.ofNat (f - 1) := nu_sub h1
    rw [if_pos c, if_neg (by simp), e1]
    simp only
    rw [c_emp hs hS hC (show f - 1 < nf by omega), Option.bind_some]
    by_cases c2 : fl p (f - 1) = 0
    · rw [if_pos c2, if_pos (show U_unit s p f u by unfold U_unit; rw [if_pos c]; exact c2)]
      rfl
    · rw [if_neg c2, if_neg (show ¬ U_unit s p f u by unfold U_unit; rw [if_pos c]; exact c2)]
      rfl
  · rw [if_neg c, if_pos rfl]
    simp only
    rw [c_to hs hS hC hf, Option.bind_some, c_from hs hS hC hf, Option.bind_some]
    simp only
    rw [nu_sub (by omega), show p f + fl p f - p f = fl p f by omega]
    by_cases c1 : fl p f = 1
    · have h2 := hS.2.2.2.1 (p f) (by omega)
      rw [if_pos (by rw [c1]; rfl), c_from hs hS hC hf, Option.bind_some, c_at hs hS hC (by omega), Option.bind_some]
      simp only [nu_eq (show s (p f) < 2147483648 by omega) (show u < 2147483648 by omega)]
      by_cases c2 : s (p f) = u
      · rw [if_pos c2, if_pos (show U_unit s p f u by unfold U_unit; rw [if_neg c]; exact ⟨c1, c2⟩)]
        rfl
      · rw [if_neg c2, if_neg (show ¬ U_unit s p f u by unfold U_unit; rw [if_neg c]; exact fun h => c2 h.2)]
        rfl
    · rw [if_neg (mt (nl_eq 1 1 rfl (by decide) (by omega)).mp c1), if_neg (show ¬ U_unit s p f u by unfold U_unit; rw [if_neg c]; exact fun h => c1 h.1)]
      rfl
/-- a sign in a text -/
theorem ix_l {t : List Int32} {c : Nat} (ht : t.length < 1000) : ∀ (k j n : Nat), j + k = t.length → k < n → ∃ y, f_J1_indexOfChar_4cfef_7 t n (Int32.ofNat t.length) (Int32.ofNat c) (Int32.ofNat j) = some y ∧ (¬ y < 0 ↔ ∃ i, j ≤ i ∧ i < t.length ∧ t.getD i 0 = Int32.ofNat c) := by
  intro k
  induction k with
  | zero =>
    intro j n hj hn
    cases n with
    | zero => omega
    | succ n =>
      unfold f_J1_indexOfChar_4cfef_7
      rw [if_pos ((nu_le (by omega) (by omega)).mpr (by omega))]
      exact ⟨_, rfl, fun h => absurd (by decide : (-1 : Int32) < 0) h, fun ⟨i, h1, h2, _⟩ => by omega⟩
  | succ k ih =>
    intro j n hj hn
    cases n with
    | zero => omega
    | succ n =>
      unfold f_J1_indexOfChar_4cfef_7
      rw [if_neg (mt (nu_le (by omega) (by omega)).mp (by omega)), nu_inb (by omega) (by omega), sv_g_t rfl, nu_nat (by omega)]
      by_cases h : t.getD j 0 = Int32.ofNat c
      · rw [if_pos h]
        exact ⟨_, rfl, fun _ => ⟨j, Nat.le_refl _, by omega, h⟩, fun _ => nu_neg (by omega)⟩
      · rw [if_neg h, nu_s]
        obtain ⟨y, e1, e2⟩ := ih (j + 1) n (by omega) (by omega)
        refine ⟨y, e1, e2.trans ⟨fun ⟨i, h1, h2, h3⟩ => ⟨i, by omega, h2, h3⟩, fun ⟨i, h1, h2, h3⟩ => ⟨i, ?_, h2, h3⟩⟩⟩
        by_cases hi : i = j
        · subst hi
          exact absurd h3 h
        · omega
theorem pb8 : ∀ c, c < 128 → (Int32.ofNat c).toInt8.toInt32 = Int32.ofNat c := by decide +kernel
theorem pu16 : ∀ c, c < 128 → ((Int32.ofNat c).toUInt32 % 65536).toInt32 = Int32.ofNat c := by decide +kernel
theorem ix_s (l : List Nat) (hl : l.length < 1000) (h128 : ∀ d ∈ l, d < 128) {c : Nat} (hc : c < 128) : ∃ y, f_J0_indexOf_0f7a4 (l.map Int32.ofNat) (((Int32.ofNat c).toUInt32 % 65536).toInt32) = some y ∧ (¬ y < 0 ↔ c ∈ l) := by
  obtain ⟨y, e1, e2⟩ := ix_l (t := l.map Int32.ofNat) (c := c) (by rw [List.length_map]; exact hl) l.length 0 sv_fu (by rw [List.length_map]; omega) (fu_lt (by omega))
  have hmem : (∃ i, 0 ≤ i ∧ i < (l.map Int32.ofNat).length ∧ (l.map Int32.ofNat).getD i 0 = Int32.ofNat c) ↔ c ∈ l := by
    rw [List.length_map]
    constructor
    · rintro ⟨i, -, h1, h2⟩
      rw [List.getD_eq_getElem?_getD, List.getElem?_map, List.getElem?_eq_getElem h1] at h2
      have h3 : Int32.ofNat l[i] = Int32.ofNat c := h2
      have h4 := h128 _ (List.getElem_mem h1)
      rw [nu_eq (by omega) (by omega)] at h3
      rw [← h3]
      exact List.getElem_mem h1
    · intro h
      obtain ⟨i, h1, h2⟩ := List.getElem_of_mem h
      refine ⟨i, Nat.zero_le _, h1, ?_⟩
      rw [List.getD_eq_getElem?_getD, List.getElem?_map, List.getElem?_eq_getElem h1, h2]
      rfl
  refine ⟨y, ?_, e2.trans hmem⟩
  unfold f_J0_indexOf_0f7a4 f_J0_indexOf_7cf53 f_J1_indexOf_4cfef f_J1_indexOfChar_4cfef
  have h1 : f_J0_isLatin1_aae02 (l.map Int32.ofNat) = some 1 := rfl
  have h2 : f_J1_canEncode_9a6ad (Int32.ofNat c) = some 1 := by
    unfold f_J1_canEncode_9a6ad
    rw [if_neg (nu_neg (by omega)), if_neg (mt (nl_lt 255 255 rfl (by decide) (by omega)).mp (by omega))]
  rw [h1, Option.bind_some, if_neg (by decide), pu16 c hc, pb8 c hc, len_t, Option.bind_some, h2, Option.bind_some, if_neg (by decide)]
  simp only [ite_self]
  rw [List.length_map]
  rw [List.length_map] at e1
  by_cases h0 : 0 < l.length
  · rw [if_pos ((nl_lt 0 0 rfl (by decide) (by omega)).mpr h0)]
    have e1 : f_J1_indexOfChar_4cfef_7 (l.map Int32.ofNat) sv_fu (Int32.ofNat l.length) (Int32.ofNat c) 0 = some y := e1
    rw [e1]
    rfl
  · rw [if_neg (mt (nl_lt 0 0 rfl (by decide) (by omega)).mp h0)]
    have hl0 : l = [] := List.eq_nil_of_length_eq_zero (by omega)
    subst hl0
    have : sv_fu = sv_fu - 1 + 1 := (Nat.sub_add_cancel (Nat.le_of_lt (fu_lt (by decide)))).symm
    rw [this] at e1
    unfold f_J1_indexOfChar_4cfef_7 at e1
    rw [if_pos (by decide)] at e1
    exact e1
end CF
