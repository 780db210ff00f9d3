/-! ===== PURE: numbers ===== -/
theorem nu_int {n : Nat} (h : n < 2147483648) : (Int32.ofNat n).toInt = (n : Int) := Int32.toInt_ofNat_of_lt h
theorem nu_lt {n m : Nat} (hn : n < 2147483648) (hm : m < 2147483648) : (Int32.ofNat n < Int32.ofNat m) ↔ n < m := by
  rw [Int32.lt_iff_toInt_lt, nu_int hn, nu_int hm]
  omega
theorem nu_le {n m : Nat} (hn : n < 2147483648) (hm : m < 2147483648) : (Int32.ofNat n ≤ Int32.ofNat m) ↔ n ≤ m := by
  rw [Int32.le_iff_toInt_le, nu_int hn, nu_int hm]
  omega
theorem nu_eq {n m : Nat} (hn : n < 2147483648) (hm : m < 2147483648) : (Int32.ofNat n = Int32.ofNat m) ↔ n = m := by
  rw [← Int32.toInt_inj, nu_int hn, nu_int hm]
  omega
theorem nu_nat {n : Nat} (h : n < 2147483648) : (Int32.ofNat n).toNatClampNeg = n := Int32.toNatClampNeg_ofNat_of_lt h
theorem nu_neg {n : Nat} (h : n < 2147483648) : ¬ Int32.ofNat n < 0 := by
  rw [Int32.lt_iff_toInt_lt, nu_int h]
  show ¬ (n : Int) < 0
  omega
theorem nu_inb {n L : Nat} (h : n < 2147483648) (hL : n < L) : sv_inb (Int32.ofNat n) L = true := by
  have h1 := nu_neg h
  have h2 := nu_nat h
  simp [sv_inb, h1, h2, hL]
theorem nu_add (n m : Nat) : Int32.ofNat n + Int32.ofNat m = Int32.ofNat (n + m) := (Int32.ofNat_add n m).symm
theorem nu_mul (n m : Nat) : Int32.ofNat n * Int32.ofNat m = Int32.ofNat (n * m) := (Int32.ofNat_mul n m).symm
theorem nu_sub {n m : Nat} (h : m ≤ n) : Int32.ofNat n - Int32.ofNat m = Int32.ofNat (n - m) := by
  have h1 : Int32.ofNat n = Int32.ofNat (n - m) + Int32.ofNat m := by rw [nu_add]; congr 1; omega
  rw [h1, Int32.add_sub_cancel]
theorem nu_of {x : Int32} (h : ¬ x < 0) : ∃ n : Nat, n < 2147483648 ∧ x = Int32.ofNat n := by
  refine ⟨x.toNatClampNeg, x.toNatClampNeg_lt, ?_⟩
  exact (Int32.ofNat_toNatClampNeg x (by rw [Int32.le_iff_toInt_le]; rw [Int32.lt_iff_toInt_lt] at h; show (0 : Int) ≤ _; have : (0 : Int32).toInt = 0 := rfl; omega)).symm
/-- of a number that isn't negative and not above m -/
theorem nu_in {x : Int32} {m : Nat} (h0 : ¬ x < 0) (hm : m < 2147483648) (h1 : ¬ Int32.ofNat m < x) : ∃ n : Nat, n ≤ m ∧ x = Int32.ofNat n := by
  obtain ⟨n, hn, rfl⟩ := nu_of h0
  rw [nu_lt hm hn] at h1
  exact ⟨n, by omega, rfl⟩
/-- a byte -/
def pb (x : Int32) : Int32 := vp_nar .byte x.toInt8.toInt32
theorem pb_eq (x : Int32) : pb x = x.toInt8.toInt32 := by
  show x.toInt8.toInt32.toInt8.toInt32 = _
  simp
theorem pb_and (x : Int32) : pb x &&& 255 = x &&& 255 := by
  rw [pb_eq]
  apply Int32.toBitVec_inj.mp
  apply BitVec.eq_of_getLsbD_eq
  intro i hi
  have h255 : (255 : Int32).toBitVec = 255#32 := rfl
  simp only [Int32.toBitVec_and, h255, BitVec.getLsbD_and]
  have h1 : BitVec.getLsbD 255#32 i = decide (i < 8) := by
    have : ∀ i, i < 32 → BitVec.getLsbD 255#32 i = decide (i < 8) := by decide
    exact this i hi
  rw [h1]
  by_cases h8 : i < 8
  · have h32 : i < 32 := hi
    rw [Int8.toBitVec_toInt32, Int32.toBitVec_toInt8, BitVec.getLsbD_signExtend, BitVec.getLsbD_signExtend, if_pos h8, if_pos h32]
    simp only [hi, h8, decide_true, Bool.true_and]
  · simp [h8]
theorem pb_small {n : Nat} (h : n < 128) : pb (Int32.ofNat n) = Int32.ofNat n := by
  have : ∀ n, n < 128 → pb (Int32.ofNat n) = Int32.ofNat n := by decide +kernel
  exact this n h
theorem and255_small {n : Nat} (h : n < 256) : Int32.ofNat n &&& 255 = Int32.ofNat n := by
  have : ∀ n, n < 256 → Int32.ofNat n &&& 255 = Int32.ofNat n := by decide +kernel
  exact this n h
theorem and255_lt (x : Int32) : ∃ n : Nat, n < 256 ∧ x &&& 255 = Int32.ofNat n := by
  refine ⟨(x &&& 255).toBitVec.toNat, ?_, ?_⟩
  · have : (x &&& 255).toBitVec = x.toBitVec &&& 255#32 := rfl
    rw [this, BitVec.toNat_and]
    exact Nat.lt_of_le_of_lt Nat.and_le_right (by decide)
  · apply Int32.toBitVec_inj.mp
    show _ = BitVec.ofNat 32 _
    rw [BitVec.ofNat_toNat, BitVec.setWidth_eq]
/-! updates -/
theorem pf_1 {V : gh_V} {k a : Nat} {v : Int32} : (gh_pf V k a v).1 k a = v := by simp [gh_pf]
theorem pf_n {V : gh_V} {k a j b : Nat} {v : Int32} (h : ¬ (j = k ∧ b = a)) : (gh_pf V k a v).1 j b = V.1 j b := by simp [gh_pf, h]
theorem pf_2 {V : gh_V} {k a : Nat} {v : Int32} : (gh_pf V k a v).2 = V.2 := rfl
theorem pa_1 {V : gh_V} {a : Nat} {i v : Int32} : (gh_pa V a i v).1 = V.1 := rfl
theorem pa_2 {V : gh_V} {a : Nat} {i v : Int32} : (gh_pa V a i v).2 a = upd (V.2 a) i.toNatClampNeg v := by simp [gh_pa]
theorem pa_n {V : gh_V} {a b : Nat} {i v : Int32} (h : b ≠ a) : (gh_pa V a i v).2 b = V.2 b := by simp [gh_pa, h]
/-- what may differ: fields F (slot, address), arrays D -/
def ch (F : List (Nat × Nat)) (D : List Nat) (V V' : gh_V) : Prop := (∀ k a, (k, a) ∉ F → V'.1 k a = V.1 k a) ∧ ∀ d, d ∉ D → V'.2 d = V.2 d
theorem ch.rf {V : gh_V} {F : List (Nat × Nat)} {D : List Nat} : ch F D V V := ⟨fun _ _ _ => rfl, fun _ _ => rfl⟩
theorem ch.trans {V V1 V2 : gh_V} {F : List (Nat × Nat)} {D : List Nat} (h1 : ch F D V V1) (h2 : ch F D V1 V2) : ch F D V V2 := ⟨fun k a h => (h2.1 k a h).trans (h1.1 k a h), fun d h => (h2.2 d h).trans (h1.2 d h)⟩
theorem ch.mono {V V1 : gh_V} {F F' : List (Nat × Nat)} {D D' : List Nat} (h : ch F D V V1) (hF : ∀ x ∈ F, x ∈ F') (hD : ∀ x ∈ D, x ∈ D') : ch F' D' V V1 := ⟨fun k a hk => h.1 k a (fun c => hk (hF _ c)), fun d hd => h.2 d (fun c => hd (hD _ c))⟩
theorem ch.pf {V V1 : gh_V} {F : List (Nat × Nat)} {D : List Nat} {k a : Nat} {v : Int32} (h : ch F D V V1) (hm : (k, a) ∈ F) : ch F D V (gh_pf V1 k a v) := ⟨fun j b hj => by
  rw [pf_n (fun c => hj (by rw [c.1, c.2]; exact hm))]
  exact h.1 j b hj, h.2⟩
theorem ch.pa {V V1 : gh_V} {F : List (Nat × Nat)} {D : List Nat} {a : Nat} {i v : Int32} (h : ch F D V V1) (hm : a ∈ D) : ch F D V (gh_pa V1 a i v) := ⟨h.1, fun d hd => by
  rw [pa_n (fun c => hd (by rw [c]; exact hm))]
  exact h.2 d hd⟩
def cb (F D : List Nat) (B B' : md_B) : Prop := (∀ k, k ∉ F → B'.1 k = B.1 k) ∧ ∀ k, k ∉ D → B'.2 k = B.2 k
theorem cb.rf {B : md_B} {F D : List Nat} : cb F D B B := ⟨fun _ _ => rfl, fun _ _ => rfl⟩
theorem cb.trans {B B1 B2 : md_B} {F D : List Nat} (h1 : cb F D B B1) (h2 : cb F D B1 B2) : cb F D B B2 := ⟨fun k h => (h2.1 k h).trans (h1.1 k h), fun d h => (h2.2 d h).trans (h1.2 d h)⟩
theorem cb.mono {B B1 : md_B} {F F' D D' : List Nat} (h : cb F D B B1) (hF : ∀ x ∈ F, x ∈ F') (hD : ∀ x ∈ D, x ∈ D') : cb F' D' B B1 := ⟨fun k hk => h.1 k (fun c => hk (hF _ c)), fun d hd => h.2 d (fun c => hd (hD _ c))⟩
theorem bf_1 {B : md_B} {k : Nat} {v : Int32} : (md_pf B k v).1 k = v := by simp [md_pf, upd]
theorem bf_n {B : md_B} {k j : Nat} {v : Int32} (h : j ≠ k) : (md_pf B k v).1 j = B.1 j := by simp [md_pf, upd, h]
theorem bf_2 {B : md_B} {k : Nat} {v : Int32} : (md_pf B k v).2 = B.2 := rfl
theorem ba_1 {B : md_B} {k : Nat} {i v : Int32} : (md_pa B k i v).1 = B.1 := rfl
theorem ba_2 {B : md_B} {k : Nat} {i v : Int32} : (md_pa B k i v).2 k = upd (B.2 k) i.toNatClampNeg v := by simp [md_pa]
theorem ba_n {B : md_B} {k j : Nat} {i v : Int32} (h : j ≠ k) : (md_pa B k i v).2 j = B.2 j := by simp [md_pa, h]
theorem cb.pf {B B1 : md_B} {F D : List Nat} {k : Nat} {v : Int32} (h : cb F D B B1) (hm : k ∈ F) : cb F D B (md_pf B1 k v) := ⟨fun j hj => by
  rw [bf_n (fun c => hj (by rw [c]; exact hm))]
  exact h.1 j hj, h.2⟩
theorem cb.pa {B B1 : md_B} {F D : List Nat} {k : Nat} {i v : Int32} (h : cb F D B B1) (hm : k ∈ D) : cb F D B (md_pa B1 k i v) := ⟨h.1, fun j hj => by
  rw [ba_n (fun c => hj (by rw [c]; exact hm))]
  exact h.2 j hj⟩
