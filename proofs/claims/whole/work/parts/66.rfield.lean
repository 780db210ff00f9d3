/-! ===== PURE: fields, the reference ===== -/
theorem in_nat {B : md_B} {n lo hi : Nat} {l h : Int64} (hn : n < 2147483648) (hlo : lo < 2147483648) (hhi : hi < 2147483648) (hl : (Int32.ofNat lo).toInt64 = l) (hh : (Int32.ofNat hi).toInt64 = h) : f_X9_in B (Int32.ofNat n).toInt64 l h = some (if lo ≤ n ∧ n ≤ hi then 1 else 0, B) := by
  by_cases c : lo ≤ n ∧ n ≤ hi
  · rw [if_pos c, in_y hl hh (mt (nu_lt hn hlo).mp (by omega)) (mt (nu_lt hhi hn).mp (by omega))]
  · rw [if_neg c, in_n hl hh]
    by_cases c1 : n < lo
    · exact Or.inl ((nu_lt hn hlo).mpr c1)
    · exact Or.inr ((nu_lt hhi hn).mpr (by omega))
theorem wh_two (s : Nat → Nat) (a n : Nat) : wh s a (n + 2) = wh s a n * 100 + wh s (a + n) 2 := by
  show (wh s a n * 10 + (s (a + n) - 48)) * 10 + (s (a + (n + 1)) - 48) = wh s a n * 100 + ((0 * 10 + (s (a + n) - 48)) * 10 + (s (a + (n + 1)) - 48))
  omega
section RF
variable {a0 m nf : Nat} {s p : Nat → Nat} {T : gh_T} {V : gh_V} {B : md_B} {f : Nat}
theorem r_size (hS : FS m s nf p) (hB : FB m s nf p B) (hf : f < nf) : f_X9_size B (Int32.ofNat f) = some (Int32.ofNat (fl p f), B) := by
  have hb := hS.b hf
  unfold f_X9_size
  rw [nu_inb (by omega) (by omega), sv_g_t rfl, sv_g_t rfl, nu_nat (by omega), (hB.2.2 f hf).1, (hB.2.2 f hf).2, nu_sub (by omega)]
  unfold fl
  rw [show p (f + 1) - (p f + 1) = p (f + 1) - 1 - p f by omega]
theorem r_at (hS : FS m s nf p) (hB : FB m s nf p B) (hf : f < nf) {i : Nat} (hi : i < fl p f) : f_X9_at B (Int32.ofNat f) (Int32.ofNat i) = some (Int32.ofNat (s (p f + i)), B) := by
  have hb := hS.b hf
  unfold f_X9_at
  rw [nu_inb (n := f) (by omega) (by omega), sv_g_t rfl, nu_nat (n := f) (by omega), (hB.2.2 f hf).1, nu_add, nu_inb (by omega) (by omega), sv_g_t rfl, nu_nat (by omega), show p f + 1 + i = p f + i + 1 by omega, hB.2.1 _ (by omega)]
theorem r_isd {c : Nat} (hc : c < 1000) : f_X9_isDigit B (Int32.ofNat c) = some (if isd c then 1 else 0, B) := by
  unfold f_X9_isDigit
  rw [in_nat (n := c) (lo := 48) (hi := 57) (l := 48) (h := 57) (by omega) (by decide) (by decide) rfl rfl, Option.bind_some]
  by_cases h : 48 ≤ c ∧ c ≤ 57
  · rw [if_pos h]
    exact sv_g_t (by decide : decide (vp_nar .boolean (1 : Int32) = 1) = true)
  · rw [if_neg h]
    exact sv_g_t (by decide : decide (vp_nar .boolean (0 : Int32) = 0) = true)
theorem r_digits (hS : FS m s nf p) (hB : FB m s nf p B) (hf : f < nf) {i : Nat} (hi : i ≤ fl p f) : f_X9_digits B (Int32.ofNat f) (Int32.ofNat i) = some (Int32.ofNat (nd s (p f + i) (fl p f - i)), B) := by
  have hb := hS.b hf
  have hle := nd_le s (fl p f - i) (p f + i)
  have loop : ∀ (k j n : Nat), j + k = nd s (p f + i) (fl p f - i) → k < n → f_X9_digits_2 n B (Int32.ofNat f) (Int32.ofNat i) (Int32.ofNat j) = some (Int32.ofNat (nd s (p f + i) (fl p f - i)), B) := by
    intro k
    induction k with
    | zero =>
      intro j n hj hn
      cases n with
      | zero => omega
      | succ n =>
        unfold f_X9_digits_2
        rw [r_size hS hB hf, Option.bind_some, nu_add]
        by_cases c1 : fl p f ≤ i + j
        · rw [if_pos ((nu_le (by omega) (by omega)).mpr c1), show j = nd s (p f + i) (fl p f - i) by omega]
        · have hno := nd_no s (fl p f - i) (p f + i) (by omega)
          have h2 := hS.2.2.2.1 (p f + (i + j)) (by omega)
          rw [if_neg (mt (nu_le (by omega) (by omega)).mp c1), r_at hS hB hf (by omega), Option.bind_some, r_isd (by omega), Option.bind_some]
          have e : p f + (i + j) = p f + i + nd s (p f + i) (fl p f - i) := by omega
          rw [e, if_neg hno, if_pos rfl, show j = nd s (p f + i) (fl p f - i) by omega]
    | succ k ih =>
      intro j n hj hn
      cases n with
      | zero => omega
      | succ n =>
        have hd := nd_is s (fl p f - i) (p f + i) j (by omega)
        have h2 := hS.2.2.2.1 (p f + (i + j)) (by omega)
        unfold f_X9_digits_2
        rw [r_size hS hB hf, Option.bind_some, nu_add, if_neg (mt (nu_le (by omega) (by omega)).mp (by omega)), r_at hS hB hf (by omega), Option.bind_some, r_isd (by omega), Option.bind_some, show p f + (i + j) = p f + i + j by omega, if_pos hd, if_neg (by simp), nu_s]
        exact ih (j + 1) n (by omega) (by omega)
  exact loop (nd s (p f + i) (fl p f - i)) 0 sv_fu (by omega) (fu_lt (by omega))
theorem r_whole (hS : FS m s nf p) (hB : FB m s nf p B) (hf : f < nf) {i n : Nat} (hi : i + n ≤ fl p f) (hd : ∀ j, j < n → isd (s (p f + i + j))) : f_X9_whole B (Int32.ofNat f) (Int32.ofNat i) (Int32.ofNat n) = some (Int32.ofNat (wh s (p f + i) n), B) := by
  have hb := hS.b hf
  have loop : ∀ (k j z : Nat), j + k = n → k < z → f_X9_whole_6 z B (Int32.ofNat f) (Int32.ofNat i) (Int32.ofNat n) (Int32.ofNat (wh s (p f + i) j)) (Int32.ofNat (i + j)) = some (Int32.ofNat (wh s (p f + i) n), B) := by
    intro k
    induction k with
    | zero =>
      intro j z hj hz
      cases z with
      | zero => omega
      | succ z =>
        unfold f_X9_whole_6
        rw [nu_add, if_pos ((nu_le (by omega) (by omega)).mpr (by omega)), show j = n by omega]
    | succ k ih =>
      intro j z hj hz
      cases z with
      | zero => omega
      | succ z =>
        have hd' := hd j (by omega)
        unfold isd at hd'
        unfold f_X9_whole_6
        rw [nu_add, if_neg (mt (nu_le (by omega) (by omega)).mp (by omega)), r_at hS hB hf (by omega), Option.bind_some, show (10 : Int32) = Int32.ofNat 10 from rfl, show (48 : Int32) = Int32.ofNat 48 from rfl, nu_mul, nu_add, show p f + (i + j) = p f + i + j by omega, nu_sub (by omega), nu_s]
        have e : 10 * wh s (p f + i) j + s (p f + i + j) - 48 = wh s (p f + i) (j + 1) := by
          show _ = wh s (p f + i) j * 10 + (s (p f + i + j) - 48)
          omega
        rw [e]
        exact ih (j + 1) z (by omega) (by omega)
  exact loop n 0 sv_fu (by omega) (fu_lt (by omega))
theorem r_behind (hS : FS m s nf p) (hB : FB m s nf p B) (hf : f < nf) {i most C : Nat} (hi : i ≤ fl p f) (hm : most < 100) (hC : C < 100) : f_X9_behind B (Int32.ofNat f) (Int32.ofNat i) (Int32.ofNat most) (Int32.ofNat C) = some (br B ((bh s (p f + i) (fl p f - i) most).map (fun r => Int32.ofNat (vk s (p f + i + 1) r 0 C)))) := by
  have hb := hS.b hf
  have loop : ∀ (r : Nat) (x5 : Int32), (∀ k, k < 100 → (x5 ≤ Int32.ofNat k ↔ r ≤ k)) → (∀ j, j < r → i + 1 + j < fl p f ∧ isd (s (p f + i + 1 + j))) → ∀ (k j z : Nat), j + k = C → k < z → f_X9_behind_63 z B (Int32.ofNat f) (Int32.ofNat i) (Int32.ofNat C) x5 (Int32.ofNat (vk s (p f + i + 1) r 0 j)) (Int32.ofNat j) = some (Int32.ofNat (vk s (p f + i + 1) r 0 C), B) := by
    intro r x5 hx5 hr k
    induction k with
    | zero =>
      intro j z hj hz
      cases z with
      | zero => omega
      | succ z =>
        unfold f_X9_behind_63
        rw [if_pos ((nu_le (by omega) (by omega)).mpr (by omega)), show j = C by omega]
    | succ k ih =>
      intro j z hj hz
      cases z with
      | zero => omega
      | succ z =>
        unfold f_X9_behind_63 f_X9_behind_100
        rw [if_neg (mt (nu_le (by omega) (by omega)).mp (by omega)), show (10 : Int32) = Int32.ofNat 10 from rfl, nu_mul, nu_s]
        have e : vk s (p f + i + 1) r 0 (j + 1) = vk s (p f + i + 1) r 0 j * 10 + (if j < r then s (p f + i + 1 + j) - 48 else 0) := rfl
        have ih' := ih (j + 1) z (by omega) (by omega)
        rw [e] at ih'
        by_cases c : r ≤ j
        · rw [if_neg (by omega), Nat.add_zero] at ih'
          rw [if_pos ((hx5 j (by omega)).mpr c), show (0 : Int32) = Int32.ofNat 0 from rfl, nu_add, Nat.add_zero, Nat.mul_comm]
          exact ih'
        · have hj2 := hr j (by omega)
          have hd := hj2.2
          unfold isd at hd
          rw [if_pos (by omega)] at ih'
          rw [if_neg (mt (hx5 j (by omega)).mp c), nu_s, nu_add, r_at hS hB hf hj2.1, Option.bind_some, show (48 : Int32) = Int32.ofNat 48 from rfl, show p f + (i + 1 + j) = p f + i + 1 + j by omega]
          simp only
          rw [nu_sub (by omega), nu_add, Nat.mul_comm]
          exact ih'
  have ersub : Int32.ofNat (fl p f) - Int32.ofNat i = Int32.ofNat (fl p f - i) := nu_sub (by omega)
  unfold f_X9_behind f_X9_behind_57 f_X9_behind_52 f_X9_bad
  rw [r_size hS hB hf, Option.bind_some]
  simp only
  rw [ersub]
  unfold bh
  by_cases c0 : fl p f - i = 0
  · rw [c0, if_pos rfl, if_pos (by decide)]
    exact loop 0 (Int32.ofNat 0 - 1) (fun k hk => by
      constructor
      · intro _; omega
      · intro _
        rw [Int32.le_iff_toInt_le, nu_int (by omega)]
        show (-1 : Int) ≤ _
        omega) (fun j hj => by omega) C 0 sv_fu (by omega) (fu_lt (by omega))
  · have e1 : Int32.ofNat (fl p f - i) - 1 = Int32.ofNat (fl p f - i - 1) := nu_sub (n := fl p f - i) (m := 1) (by omega)
    have h2 := hS.2.2.2.1 (p f + i) (by omega)
    rw [if_neg c0, e1, if_neg (nu_neg (by omega)), r_at hS hB hf (by omega), Option.bind_some]
    by_cases c4 : s (p f + i) = 46
    · rw [if_pos ((nl_eq 46 46 rfl (by decide) (by omega)).mpr c4), in_nat (n := fl p f - i - 1) (lo := 1) (hi := most) (l := 1) (h := (Int32.ofNat most).toInt64) (by omega) (by decide) (by omega) rfl rfl, Option.bind_some]
      by_cases c5 : 1 ≤ fl p f - i - 1 ∧ fl p f - i - 1 ≤ most
      · rw [if_pos c5, if_neg (by simp), nu_s, r_digits hS hB hf (by omega), Option.bind_some]
        have e2 : p f + (i + 1) = p f + i + 1 := by omega
        have e3 : fl p f - (i + 1) = fl p f - i - 1 := by omega
        rw [e2, e3]
        have hle := nd_le s (fl p f - i - 1) (p f + i + 1)
        by_cases c7 : nd s (p f + i + 1) (fl p f - i - 1) = fl p f - i - 1
        · rw [if_pos (by rw [c7]), if_pos ⟨c4, c5.1, c5.2, c7⟩]
          exact loop (fl p f - i - 1) _ (fun k hk => nu_le (by omega) (by omega)) (fun j hj => ⟨by omega, nd_is s _ _ j (by rw [c7]; exact hj)⟩) C 0 sv_fu (by omega) (fu_lt (by omega))
        · rw [if_neg (by rw [nu_eq (by omega) (by omega)]; exact c7), if_neg (fun h => c7 h.2.2.2)]
          rfl
      · rw [if_neg c5, if_pos rfl, if_neg (fun h => c5 ⟨h.2.1, h.2.2.1⟩)]
        rfl
    · rw [if_neg (mt (nl_eq 46 46 rfl (by decide) (by omega)).mp c4), if_neg (fun h => c4 h.1)]
      rfl
theorem r_ten {d : Nat} (hd : d < 100) : f_X9_ten B (Int32.ofNat d) = some (Int32.ofNat (10 ^ d), B) := by
  have loop : ∀ (k j z : Nat), j + k = d → k < z → f_X9_ten_4 z B (Int32.ofNat d) (Int32.ofNat (10 ^ j)) (Int32.ofNat j) = some (Int32.ofNat (10 ^ d), B) := by
    intro k
    induction k with
    | zero =>
      intro j z hj hz
      cases z with
      | zero => omega
      | succ z =>
        unfold f_X9_ten_4
        rw [if_pos ((nu_le (by omega) (by omega)).mpr (by omega)), show j = d by omega]
    | succ k ih =>
      intro j z hj hz
      cases z with
      | zero => omega
      | succ z =>
        unfold f_X9_ten_4
        rw [if_neg (mt (nu_le (by omega) (by omega)).mp (by omega)), show (10 : Int32) = Int32.ofNat 10 from rfl, nu_mul, nu_s, ← Nat.pow_succ]
        exact ih (j + 1) z (by omega) (by omega)
  exact loop d 0 sv_fu (by omega) (fu_lt (by omega))
theorem p4 : ∀ C, C ≤ 4 → 10 ^ C < 2147483648 := by decide
theorem r_dec32 (hS : FS m s nf p) (hB : FB m s nf p B) (hf : f < nf) {i d w : Nat} (hi : i ≤ fl p f) (hi1 : i ≤ 1) (hd : d ≤ 4) (hw : w < 100) : f_X9_decimal_32 B (Int32.ofNat f) (Int32.ofNat d) (Int32.ofNat w) (Int32.ofNat i) = some (br B ((sD s (p f + i) (fl p f - i) 1 w 6 d).map (fun v => if i = 1 then - Int32.ofNat v else Int32.ofNat v))) := by
  have hb := hS.b hf
  have hle := nd_le s (fl p f - i) (p f + i)
  unfold f_X9_decimal_32 f_X9_bad sD
  rw [r_digits hS hB hf hi, Option.bind_some]
  simp only
  rw [in_nat (n := nd s (p f + i) (fl p f - i)) (lo := 1) (hi := w) (l := 1) (h := (Int32.ofNat w).toInt64) (by omega) (by decide) (by omega) rfl rfl, Option.bind_some]
  by_cases c1 : 1 ≤ nd s (p f + i) (fl p f - i) ∧ nd s (p f + i) (fl p f - i) ≤ w
  · have hbe := r_behind hS hB hf (i := i + nd s (p f + i) (fl p f - i)) (most := 6) (C := d) (by omega) (by decide) (by omega)
    rw [show p f + (i + nd s (p f + i) (fl p f - i)) = p f + i + nd s (p f + i) (fl p f - i) by omega, show fl p f - (i + nd s (p f + i) (fl p f - i)) = fl p f - i - nd s (p f + i) (fl p f - i) by omega] at hbe
    have hdig : ∀ j, j < nd s (p f + i) (fl p f - i) → isd (s (p f + i + j)) := fun j hj => nd_is s _ _ j hj
    rw [if_pos c1, if_neg (by simp), if_neg (show ¬ (nd s (p f + i) (fl p f - i) < 1 ∨ w < nd s (p f + i) (fl p f - i)) by omega)]
    simp only
    rw [nu_add, show (6 : Int32) = Int32.ofNat 6 from rfl, hbe, Option.bind_some]
    cases hbb : bh s (p f + i + nd s (p f + i) (fl p f - i)) (fl p f - i - nd s (p f + i) (fl p f - i)) 6 with
    | none =>
      show (f_X9_whole (md_pf B 14 0) _ _ _).bind _ = _
      rw [r_whole hS hB.wr hf (by omega) hdig, Option.bind_some]
      show (f_X9_ten (md_pf B 14 0) _).bind _ = _
      rw [r_ten (by omega), Option.bind_some]
      exact if_pos rfl
    | some r =>
      show (f_X9_whole B _ _ _).bind _ = _
      rw [r_whole hS hB hf (by omega) hdig, Option.bind_some]
      show (f_X9_ten B _).bind _ = _
      rw [r_ten (by omega), Option.bind_some]
      have hlt := vk_lt s (p f + i + nd s (p f + i) (fl p f - i) + 1) r (bh_is hbb) d
      have hp := p4 d hd
      show (if Int32.ofNat (vk s (p f + i + nd s (p f + i) (fl p f - i) + 1) r 0 d) = -2147483648 then _ else _) = _
      rw [if_neg (none_ne (by omega))]
      simp only [Option.map_some, br]
      rw [nu_mul, nu_add, ← vk_add]
      have hi2 : (Int32.ofNat i = 1) ↔ i = 1 := nl_eq 1 1 rfl (by decide) (by omega)
      simp only [hi2]
      split <;> rfl
  · rw [if_neg c1, if_pos rfl, if_pos (show nd s (p f + i) (fl p f - i) < 1 ∨ w < nd s (p f + i) (fl p f - i) by omega)]
    rfl
/-- what a field of a kind says -/
def S_dec (s p : Nat → Nat) (f d w : Nat) : Option Int32 := if fl p f = 0 then some (-2147483648) else (sD s (p f) (fl p f) 1 w 6 d).map Int32.ofNat
def S_sgn (s p : Nat → Nat) (f d w : Nat) : Option Int32 := if fl p f = 0 then some (-2147483648) else if s (p f) = 45 then (sD s (p f + 1) (fl p f - 1) 1 w 6 d).map (fun v => - Int32.ofNat v) else (sD s (p f) (fl p f) 1 w 6 d).map Int32.ofNat
def S_num (s p : Nat → Nat) (f n : Nat) : Option Int32 := if fl p f = 0 then some (-2147483648) else (sD s (p f) (fl p f) n n 0 0).map Int32.ofNat
theorem fl0 {n : Nat} (h : n < 2147483648) : (Int32.ofNat n = 0) ↔ n = 0 := nl_eq 0 0 rfl (by decide) h
theorem r_decimal (hS : FS m s nf p) (hB : FB m s nf p B) (hf : f < nf) {d w : Nat} (hd : d ≤ 4) (hw : w < 100) : f_X9_decimal B (Int32.ofNat f) (Int32.ofNat d) (Int32.ofNat w) 0 = some (br B (S_dec s p f d w)) := by
  have hb := hS.b hf
  unfold f_X9_decimal S_dec
  rw [r_size hS hB hf, Option.bind_some]
  by_cases c : fl p f = 0
  · rw [if_pos c, if_pos ((fl0 (by omega)).mpr c)]
    rfl
  · rw [if_neg c, if_neg (mt (fl0 (by omega)).mp c), if_pos rfl]
    have := r_dec32 hS hB hf (i := 0) (d := d) (w := w) (by omega) (by decide) hd hw
    exact this
theorem r_signed (hS : FS m s nf p) (hB : FB m s nf p B) (hf : f < nf) {d w : Nat} (hd : d ≤ 4) (hw : w < 100) : f_X9_decimal B (Int32.ofNat f) (Int32.ofNat d) (Int32.ofNat w) 1 = some (br B (S_sgn s p f d w)) := by
  have hb := hS.b hf
  unfold f_X9_decimal S_sgn
  rw [r_size hS hB hf, Option.bind_some]
  by_cases c : fl p f = 0
  · rw [if_pos c, if_pos ((fl0 (by omega)).mpr c)]
    rfl
  · have h2 := hS.2.2.2.1 (p f + 0) (by omega)
    rw [if_neg c, if_neg (mt (fl0 (by omega)).mp c), if_neg (by decide), show (0 : Int32) = Int32.ofNat 0 from rfl, r_at hS hB hf (by omega), Option.bind_some, Nat.add_zero]
    by_cases c4 : s (p f) = 45
    · rw [if_pos c4, if_pos (by rw [c4]; rfl)]
      have := r_dec32 hS hB hf (i := 1) (d := d) (w := w) (by omega) (by decide) hd hw
      exact this
    · rw [if_neg c4, if_neg (mt (nl_eq 45 45 rfl (by decide) (by rw [Nat.add_zero] at h2; omega)).mp c4)]
      have := r_dec32 hS hB hf (i := 0) (d := d) (w := w) (by omega) (by decide) hd hw
      exact this
theorem sD_num {a l n : Nat} : sD s a l n n 0 0 = if l = n ∧ nd s a l = n then some (wh s a n) else none := by
  have hle := nd_le s l a
  unfold sD
  by_cases c : nd s a l = n
  · rw [if_neg (by omega), c]
    unfold bh
    by_cases c2 : l = n
    · rw [if_pos (by omega), if_pos ⟨c2, rfl⟩]
      rfl
    · rw [if_neg (by omega), if_neg (by omega), if_neg (fun h => c2 h.1)]
      rfl
  · rw [if_pos (by omega), if_neg (fun h => c h.2)]
theorem r_number (hS : FS m s nf p) (hB : FB m s nf p B) (hf : f < nf) {n : Nat} (hn : n < 100) : f_X9_number B (Int32.ofNat f) (Int32.ofNat n) = some (br B (S_num s p f n)) := by
  have hb := hS.b hf
  unfold f_X9_number f_X9_number_32 f_X9_bad S_num
  rw [r_size hS hB hf, Option.bind_some]
  by_cases c : fl p f = 0
  · rw [if_pos c, if_pos ((fl0 (by omega)).mpr c)]
    rfl
  · rw [if_neg c, if_neg (mt (fl0 (by omega)).mp c)]
    simp only
    rw [r_size hS hB hf, Option.bind_some, sD_num]
    simp only [nu_eq (show fl p f < 2147483648 by omega) (show n < 2147483648 by omega)]
    by_cases c1 : fl p f = n
    · have hle := nd_le s (fl p f - 0) (p f + 0)
      rw [if_pos c1, show (0 : Int32) = Int32.ofNat 0 from rfl, r_digits hS hB hf (by omega), Option.bind_some, Nat.add_zero, Nat.sub_zero]
      rw [Nat.add_zero, Nat.sub_zero] at hle
      simp only [nu_eq (show nd s (p f) (fl p f) < 2147483648 by omega) (show n < 2147483648 by omega)]
      by_cases c2 : nd s (p f) (fl p f) = n
      · rw [if_pos c2, if_pos ⟨c1, c2⟩, r_whole hS hB hf (by omega) (fun j hj => by rw [Nat.add_zero]; exact nd_is s (fl p f) (p f) j (by omega)), Nat.add_zero]
        rfl
      · rw [if_neg c2, if_neg (fun h => c2 h.2)]
        rfl
    · rw [if_neg c1, if_neg (fun h => c1 h.1)]
      rfl
end RF
