/-! ===== PURE: rows of bits ===== -/
/-- n bits from p on, the first the highest -/
def rd (b : Nat → Bool) (p : Nat) : Nat → Int32
  | 0 => 0
  | n + 1 => (rd b p n <<< (1 &&& 31)) ||| (if b (p + n) = true then 1 else 0)
theorem bv1 {j : Nat} : (1#32).getLsbD j = decide (j = 0) := by
  rw [BitVec.getLsbD_one]
  simp
theorem rd_bit (b : Nat → Bool) (p : Nat) : ∀ (n j : Nat), n ≤ 32 → j < 32 → (rd b p n).toBitVec.getLsbD j = (decide (j < n) && b (p + (n - 1 - j))) := by
  intro n
  induction n with
  | zero =>
    intro j hn hj
    show (0#32).getLsbD j = _
    simp
  | succ n ih =>
    intro j hn hj
    show ((rd b p n).toBitVec <<< 1 ||| (if b (p + n) = true then (1 : Int32) else 0).toBitVec).getLsbD j = _
    rw [BitVec.getLsbD_or, BitVec.getLsbD_shiftLeft]
    have e : (if b (p + n) = true then (1 : Int32) else 0).toBitVec.getLsbD j = (b (p + n) && decide (j = 0)) := by
      cases b (p + n)
      · show (0#32).getLsbD j = _
        simp
      · show (1#32).getLsbD j = _
        rw [bv1]
        simp
    rw [e]
    by_cases h0 : j = 0
    · subst h0
      simp
    · rw [ih (j - 1) (by omega) (by omega)]
      simp only [h0, hj, decide_true, decide_false, Bool.and_false, Bool.or_false, Bool.true_and, show ¬ j < 1 by omega, Bool.not_false]
      have e2 : p + (n - 1 - (j - 1)) = p + (n + 1 - 1 - j) := by omega
      rw [e2]
      by_cases h1 : j < n + 1
      · simp [h1, show j - 1 < n by omega]
      · simp [h1, show ¬ j - 1 < n by omega]
theorem rd_eq {b c : Nat → Bool} {p q : Nat} : ∀ (n : Nat), (∀ i, i < n → b (p + i) = c (q + i)) → rd b p n = rd c q n := by
  intro n
  induction n with
  | zero => intro h; rfl
  | succ n ih =>
    intro h
    unfold rd
    rw [ih (fun i hi => h i (by omega)), h n (by omega)]
theorem sm64 : ∀ s, s < 64 → ((BitVec.ofNat 64 s).smod 64#64).toNat = s := by decide +kernel
theorem um64 : ∀ s, s < 64 → (UInt64.ofNat s % 64).toBitVec.toNat = s := by decide +kernel
theorem shl64 (x : Int64) {s : Nat} (hs : s < 64) : (x <<< Int64.ofNat s).toBitVec = x.toBitVec <<< s := by
  show x.toBitVec <<< ((BitVec.ofNat 64 s).smod 64#64) = _
  rw [BitVec.shiftLeft_eq', sm64 s hs]
theorem shr64 (x : UInt64) {s : Nat} (hs : s < 64) : (x >>> UInt64.ofNat s).toBitVec = x.toBitVec >>> s := by
  show x.toBitVec >>> (UInt64.ofNat s % 64).toBitVec = _
  rw [BitVec.ushiftRight_eq', um64 s hs]
theorem amt : ∀ s, s < 64 → (Int32.ofNat s).toInt64 &&& 63 = Int64.ofNat s := by decide +kernel
theorem amu : ∀ s, s < 64 → ((Int32.ofNat s).toInt64.toUInt64 &&& Int64.toUInt64 63) = UInt64.ofNat s := by decide +kernel
theorem low32 : ∀ j, j < 64 → (4294967295#64).getLsbD j = decide (j < 32) := by decide +kernel
theorem mask : ∀ n, n ≤ 32 → ∀ j, j < 64 → (((1 : Int64) <<< Int64.ofNat n) - 1).toBitVec.getLsbD j = decide (j < n) := by decide +kernel
theorem nar32 (x : Int64) {j : Nat} (hj : j < 32) : x.toInt32.toBitVec.getLsbD j = x.toBitVec.getLsbD j := by
  show (x.toBitVec.signExtend 32).getLsbD j = _
  rw [BitVec.getLsbD_signExtend]
  simp [hj, show j < 64 by omega]
theorem wid64 (x : Int32) {j : Nat} (hj : j < 32) : x.toInt64.toBitVec.getLsbD j = x.toBitVec.getLsbD j := by
  show (x.toBitVec.signExtend 64).getLsbD j = _
  rw [BitVec.getLsbD_signExtend]
  simp [hj, show j < 64 by omega]
def rdc (w0 w1 : Int32) (s k : Nat) : Int32 := ((((w0.toInt64 <<< Int64.ofNat 32) ||| (w1.toInt64 &&& 4294967295)) <<< Int64.ofNat s).toUInt64 >>> UInt64.ofNat (64 - k)).toInt64.toInt32
theorem pair_bit (w0 w1 : Int32) {q : Nat} (hq : q < 64) : ((w0.toInt64 <<< Int64.ofNat 32) ||| (w1.toInt64 &&& 4294967295)).toBitVec.getLsbD q = if q < 32 then w1.toBitVec.getLsbD q else w0.toBitVec.getLsbD (q - 32) := by
  show ((w0.toInt64 <<< Int64.ofNat 32).toBitVec ||| (w1.toInt64.toBitVec &&& 4294967295#64)).getLsbD q = _
  rw [BitVec.getLsbD_or, BitVec.getLsbD_and, shl64 _ (by decide), BitVec.getLsbD_shiftLeft, low32 q hq]
  by_cases h : q < 32
  · rw [if_pos h, wid64 _ h]
    simp [h]
  · rw [if_neg h, wid64 _ (by omega)]
    simp [h, hq]
theorem rdc_bit (w0 w1 : Int32) {s k j : Nat} (hs : s < 32) (hk : 1 ≤ k) (hk2 : k ≤ 32) (hj : j < 32) : (rdc w0 w1 s k).toBitVec.getLsbD j = (decide (j < k) && (if s + (k - 1 - j) < 32 then w0.toBitVec.getLsbD (31 - (s + (k - 1 - j))) else w1.toBitVec.getLsbD (63 - (s + (k - 1 - j))))) := by
  unfold rdc
  rw [nar32 _ hj]
  show (((((w0.toInt64 <<< Int64.ofNat 32) ||| (w1.toInt64 &&& 4294967295)) <<< Int64.ofNat s).toUInt64 >>> UInt64.ofNat (64 - k)).toBitVec).getLsbD j = _
  rw [shr64 _ (by omega), BitVec.getLsbD_ushiftRight]
  show ((((w0.toInt64 <<< Int64.ofNat 32) ||| (w1.toInt64 &&& 4294967295)) <<< Int64.ofNat s).toBitVec).getLsbD (64 - k + j) = _
  rw [shl64 _ (by omega), BitVec.getLsbD_shiftLeft]
  by_cases h : j < k
  · rw [pair_bit _ _ (by omega)]
    simp only [h, decide_true, Bool.true_and, show 64 - k + j < 64 by omega, show ¬ 64 - k + j < s by omega, decide_false, Bool.not_false]
    by_cases h2 : s + (k - 1 - j) < 32
    · rw [if_pos h2, if_neg (by omega)]
      congr 1
      omega
    · rw [if_neg h2, if_pos (by omega)]
      congr 1
      omega
  · simp [h, show ¬ 64 - k + j < 64 by omega]
theorem rdc_rd (w : Nat → Int32) {p k : Nat} (hk : 1 ≤ k) (hk2 : k ≤ 32) : rdc (w (p / 32)) (w (p / 32 + 1)) (p % 32) k = rd (wb w) p k := by
  apply Int32.toBitVec_inj.mp
  apply BitVec.eq_of_getLsbD_eq
  intro j hj
  rw [rdc_bit _ _ (by omega) hk hk2 hj, rd_bit _ _ k j hk2 hj]
  by_cases h : j < k
  · simp only [h, decide_true, Bool.true_and]
    unfold wb
    by_cases h2 : p % 32 + (k - 1 - j) < 32
    · rw [if_pos h2, show (p + (k - 1 - j)) / 32 = p / 32 by omega, show (p + (k - 1 - j)) % 32 = p % 32 + (k - 1 - j) by omega]
    · rw [if_neg h2, show (p + (k - 1 - j)) / 32 = p / 32 + 1 by omega, show (p + (k - 1 - j)) % 32 = p % 32 + (k - 1 - j) - 32 by omega]
      congr 1
      omega
  · simp [h]
theorem nu_shr5 {p : Nat} (h : p < 2147483648) : Int32.ofNat p >>> (5 &&& 31) = Int32.ofNat (p / 32) := by
  apply Int32.toInt_inj.mp
  rw [nu_int (by omega)]
  show ((Int32.ofNat p).toBitVec.sshiftRight 5).toInt = _
  rw [BitVec.toInt_sshiftRight]
  show (Int32.ofNat p).toInt >>> 5 = _
  rw [nu_int h, Int.shiftRight_eq_div_pow]
  omega
theorem nu_and31 {p : Nat} (h : p < 2147483648) : Int32.ofNat p &&& 31 = Int32.ofNat (p % 32) := by
  apply Int32.toBitVec_inj.mp
  show BitVec.ofNat 32 p &&& BitVec.ofNat 32 31 = BitVec.ofNat 32 (p % 32)
  apply BitVec.eq_of_toNat_eq
  rw [BitVec.toNat_and, BitVec.toNat_ofNat, BitVec.toNat_ofNat, BitVec.toNat_ofNat, Nat.mod_eq_of_lt (by omega : p < 2 ^ 32), Nat.mod_eq_of_lt (by decide : 31 < 2 ^ 32), Nat.mod_eq_of_lt (by omega : p % 32 < 2 ^ 32)]
  exact Nat.and_two_pow_sub_one_eq_mod p 5
section BI
variable {T : gh_T} {V : gh_V} {B : md_B}
theorem read_s {r d W p k : Nat} (hr : T.2.2.1 1 r = some d) (hl : T.2.2.2.1 d = W) (hW : W < 2000) (hk : 1 ≤ k) (hk2 : k ≤ 32) (hp : p / 32 + 1 < W) : f_X0_read T V r (Int32.ofNat p) (Int32.ofNat k) = some (rd (wb (V.2 d)) p k, V) := by
  have e64 : (64 : Int32) - Int32.ofNat k = Int32.ofNat (64 - k) := nu_sub (n := 64) (m := k) (by omega)
  have eW : Int32.ofNat W - 1 = Int32.ofNat (W - 1) := nu_sub (n := W) (m := 1) (by omega)
  have e32 : (32 : Int32).toInt64 &&& 63 = Int64.ofNat 32 := by decide
  unfold f_X0_read
  rw [if_neg (mt (nl_gt 1 1 rfl (by decide) (by omega)).mp (by omega)), if_neg (mt (nl_lt 32 32 rfl (by decide) (by omega)).mp (by omega)), nu_shr5 (by omega), if_neg (nu_neg (by omega)), hr, Option.bind_some, hl, eW, if_pos ((nu_lt (by omega) (by omega)).mpr (by omega)), Option.bind_some, hl, nu_inb (by omega) (by omega), sv_g_t rfl, Option.bind_some, hl, nu_s, nu_inb (by omega) hp, sv_g_t rfl, nu_nat (by omega), nu_nat (by omega), nu_and31 (by omega), amt (p % 32) (by omega), e64, amu (64 - k) (by omega), e32]
  have := rdc_rd (V.2 d) (p := p) hk hk2
  unfold rdc at this
  rw [this]
theorem or_bit {x y : Int32} {j : Nat} : (x ||| y).toBitVec.getLsbD j = (x.toBitVec.getLsbD j || y.toBitVec.getLsbD j) := by
  show (x.toBitVec ||| y.toBitVec).getLsbD j = _
  rw [BitVec.getLsbD_or]
def mvd (x : Int32) (n s : Nat) : Int64 := (x.toInt64 &&& (((1 : Int64) <<< Int64.ofNat n) - 1)) <<< Int64.ofNat (64 - n - s)
theorem mvd_bit (x : Int32) {n s q : Nat} (hn : 1 ≤ n) (hn2 : n ≤ 32) (hs : s < 32) (hq : q < 64) : (mvd x n s).toBitVec.getLsbD q = (decide (64 - n - s ≤ q ∧ q < 64 - s) && x.toBitVec.getLsbD (q - (64 - n - s))) := by
  unfold mvd
  rw [shl64 _ (by omega), BitVec.getLsbD_shiftLeft]
  show (decide (q < 64) && !decide (q < 64 - n - s) && (x.toInt64.toBitVec &&& (((1 : Int64) <<< Int64.ofNat n) - 1).toBitVec).getLsbD (q - (64 - n - s))) = _
  rw [BitVec.getLsbD_and, mask n hn2 _ (by omega)]
  by_cases h : 64 - n - s ≤ q ∧ q < 64 - s
  · rw [wid64 _ (by omega)]
    simp [h, hq, show q - (64 - n - s) < n by omega]
  · by_cases h2 : q < 64 - n - s
    · simp [h2, show ¬ 64 - n - s ≤ q by omega]
    · rw [decide_eq_false h, decide_eq_false (show ¬ q - (64 - n - s) < n by omega)]
      simp
theorem append_s {r d W len n R : Nat} (x : Int32) (hr : T.2.2.1 1 r = some d) (hl : T.2.2.2.1 d = W) (hW : W < 2000) (hn : 1 ≤ n) (hn2 : n ≤ 32) (hlen : V.1 2 r = Int32.ofNat len) (hR : V.1 0 r = Int32.ofNat R) (hR2 : R < 100000) (hfit : len + n ≤ R) (hw : len / 32 + 1 < W) :
    ∃ V', f_X0_append T V r x (Int32.ofNat n) = some V' ∧ ch [(2, r)] [d] V V' ∧ V'.1 2 r = Int32.ofNat (len + n) ∧ ∀ i, wb (V'.2 d) i = (wb (V.2 d) i || (decide (len ≤ i ∧ i < len + n) && x.toBitVec.getLsbD (n - 1 - (i - len)))) := by
  have e64 : (64 : Int32) - Int32.ofNat n = Int32.ofNat (64 - n) := nu_sub (n := 64) (m := n) (by omega)
  have e64s : Int32.ofNat (64 - n) - Int32.ofNat (len % 32) = Int32.ofNat (64 - n - len % 32) := nu_sub (by omega)
  have e32 : (32 : Int32).toInt64.toUInt64 &&& Int64.toUInt64 63 = UInt64.ofNat 32 := by decide
  unfold f_X0_append
  rw [if_neg (mt (nl_gt 1 1 rfl (by decide) (by omega)).mp (by omega)), if_neg (mt (nl_lt 32 32 rfl (by decide) (by omega)).mp (by omega)), hlen, if_neg (nu_neg (by omega)), hR, nu_sub (by omega), if_pos ((nu_le (by omega) (by omega)).mpr (by omega)), hr, Option.bind_some, hl, nu_shr5 (by omega), nu_inb (by omega) (by omega), sv_g_t rfl, sv_g_t rfl, Option.bind_some, hl, nu_s, nu_inb (by omega) hw, sv_g_t rfl, sv_g_t rfl, nu_nat (by omega), nu_nat (by omega), nu_and31 (by omega), e64, e64s, amt n (by omega), amt (64 - n - len % 32) (by omega), e32]
  have hm : (x.toInt64 &&& (((1 : Int64) <<< Int64.ofNat n) - 1)) <<< Int64.ofNat (64 - n - len % 32) = mvd x n (len % 32) := rfl
  rw [hm, pa_1, pa_1, hlen, nu_add]
  refine ⟨_, rfl, ((ch.rf.pa (by simp)).pa (by simp)).pf (by simp), pf_1, fun i => ?_⟩
  rw [pf_2, pa_2, pa_2, nu_nat (by omega), nu_nat (by omega)]
  unfold wb
  have hb : 31 - i % 32 < 32 := by omega
  by_cases h1 : i / 32 = len / 32 + 1
  · rw [h1]
    simp only [upd, if_pos trivial, show ¬ len / 32 + 1 = len / 32 by omega, if_false]
    rw [or_bit, nar32 _ hb, mvd_bit _ hn hn2 (by omega) (by omega)]
    by_cases hin : len ≤ i ∧ i < len + n
    · rw [decide_eq_true hin, decide_eq_true (show 64 - n - len % 32 ≤ 31 - i % 32 ∧ 31 - i % 32 < 64 - len % 32 by omega), show 31 - i % 32 - (64 - n - len % 32) = n - 1 - (i - len) by omega]
    · rw [decide_eq_false hin, decide_eq_false (show ¬ (64 - n - len % 32 ≤ 31 - i % 32 ∧ 31 - i % 32 < 64 - len % 32) by omega)]
      simp
  · by_cases h0 : i / 32 = len / 32
    · rw [h0]
      simp only [upd, if_pos trivial, show ¬ len / 32 = len / 32 + 1 by omega, if_false]
      rw [or_bit, nar32 _ hb]
      show (_ || ((mvd x n (len % 32)).toUInt64 >>> UInt64.ofNat 32).toBitVec.getLsbD (31 - i % 32)) = _
      rw [shr64 _ (by decide), BitVec.getLsbD_ushiftRight]
      show (_ || (mvd x n (len % 32)).toBitVec.getLsbD (32 + (31 - i % 32))) = _
      rw [mvd_bit _ hn hn2 (by omega) (by omega)]
      by_cases hin : len ≤ i ∧ i < len + n
      · rw [decide_eq_true hin, decide_eq_true (show 64 - n - len % 32 ≤ 32 + (31 - i % 32) ∧ 32 + (31 - i % 32) < 64 - len % 32 by omega), show 32 + (31 - i % 32) - (64 - n - len % 32) = n - 1 - (i - len) by omega]
      · rw [decide_eq_false hin, decide_eq_false (show ¬ (64 - n - len % 32 ≤ 32 + (31 - i % 32) ∧ 32 + (31 - i % 32) < 64 - len % 32) by omega)]
        simp
    · simp only [upd, h1, h0, if_false]
      have : ¬ (len ≤ i ∧ i < len + n) := by omega
      simp [this]
end BI
