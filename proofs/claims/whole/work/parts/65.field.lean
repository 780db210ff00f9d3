/-! ===== PURE: fields, what they say ===== -/
abbrev isd (c : Nat) : Prop := 48 ≤ c ∧ c ≤ 57
/-- leading digits -/
def nd (s : Nat → Nat) : Nat → Nat → Nat
  | _, 0 => 0
  | a, l + 1 => if isd (s a) then nd s (a + 1) l + 1 else 0
theorem nd_le (s : Nat → Nat) : ∀ (l a : Nat), nd s a l ≤ l := by
  intro l
  induction l with
  | zero => intro a; exact Nat.le_refl _
  | succ l ih =>
    intro a
    unfold nd
    split
    · have := ih (a + 1)
      omega
    · omega
theorem nd_is (s : Nat → Nat) : ∀ (l a i : Nat), i < nd s a l → isd (s (a + i)) := by
  intro l
  induction l with
  | zero => intro a i h; exact absurd h (Nat.not_lt_zero _)
  | succ l ih =>
    intro a i h
    unfold nd at h
    split at h
    · rename_i hd
      cases i with
      | zero => exact hd
      | succ i =>
        have := ih (a + 1) i (by omega)
        rwa [show a + 1 + i = a + (i + 1) by omega] at this
    · omega
theorem nd_no (s : Nat → Nat) : ∀ (l a : Nat), nd s a l < l → ¬ isd (s (a + nd s a l)) := by
  intro l
  induction l with
  | zero => intro a h; omega
  | succ l ih =>
    intro a h
    unfold nd at h ⊢
    split
    · rename_i hd
      rw [if_pos hd] at h
      have := ih (a + 1) (by omega)
      rwa [show a + 1 + nd s (a + 1) l = a + (nd s (a + 1) l + 1) by omega] at this
    · rename_i hd
      exact hd
/-- the n digits from a on, as a number -/
def wh (s : Nat → Nat) (a : Nat) : Nat → Nat
  | 0 => 0
  | n + 1 => wh s a n * 10 + (s (a + n) - 48)
theorem wh_lt (s : Nat → Nat) (a : Nat) : ∀ n, (∀ i, i < n → isd (s (a + i))) → wh s a n < 10 ^ n := by
  intro n
  induction n with
  | zero => intro _; exact Nat.one_pos
  | succ n ih =>
    intro h
    have h1 := ih (fun i hi => h i (by omega))
    have h2 := h n (by omega)
    unfold isd at h2
    unfold wh
    rw [Nat.pow_succ]
    omega
/-- k digits more, r of them are there -/
def vk (s : Nat → Nat) (q r v : Nat) : Nat → Nat
  | 0 => v
  | k + 1 => vk s q r v k * 10 + (if k < r then s (q + k) - 48 else 0)
theorem vk_add (s : Nat → Nat) (q r v : Nat) : ∀ k, vk s q r v k = v * 10 ^ k + vk s q r 0 k := by
  intro k
  induction k with
  | zero => simp [vk]
  | succ k ih =>
    unfold vk
    rw [ih, Nat.pow_succ, Nat.add_mul, Nat.mul_assoc, Nat.add_assoc]
theorem vk_succ (s : Nat → Nat) (q r v k : Nat) : vk s q r v (k + 1) = vk s q r v k * 10 + (if k < r then s (q + k) - 48 else 0) := rfl
theorem vk_lt (s : Nat → Nat) (q r : Nat) (h : ∀ i, i < r → isd (s (q + i))) : ∀ k, vk s q r 0 k < 10 ^ k := by
  intro k
  induction k with
  | zero => exact Nat.one_pos
  | succ k ih =>
    unfold vk
    rw [Nat.pow_succ]
    split
    · rename_i hk
      have := h k hk
      unfold isd at this
      omega
    · omega
theorem vk_off (s : Nat → Nat) (q r r' v : Nat) : ∀ k, k ≤ r → k ≤ r' → vk s q r v k = vk s q r' v k := by
  intro k
  induction k with
  | zero => intro _ _; rfl
  | succ k ih =>
    intro h1 h2
    unfold vk
    rw [ih (by omega) (by omega), if_pos (by omega), if_pos (by omega)]
/-- a point and digits behind it: how many -/
def bh (s : Nat → Nat) (a l most : Nat) : Option Nat := if l = 0 then some 0 else if s a = 46 ∧ 1 ≤ l - 1 ∧ l - 1 ≤ most ∧ nd s (a + 1) (l - 1) = l - 1 then some (l - 1) else none
theorem bh_is {s : Nat → Nat} {a l most r : Nat} (h : bh s a l most = some r) : ∀ i, i < r → isd (s (a + 1 + i)) := by
  unfold bh at h
  split at h
  · cases h
    intro i hi
    omega
  · split at h
    · rename_i hc
      cases h
      intro i hi
      exact nd_is s (l - 1) (a + 1) i (by rw [hc.2.2.2]; exact hi)
    · cases h
def sD (s : Nat → Nat) (a l least most behind kept : Nat) : Option Nat := if nd s a l < least ∨ most < nd s a l then none else (bh s (a + nd s a l) (l - nd s a l) behind).map (fun r => vk s (a + nd s a l + 1) r (wh s a (nd s a l)) kept)
theorem sD_lt {s : Nat → Nat} {a l least most behind kept v : Nat} (h : sD s a l least most behind kept = some v) : v < 10 ^ (most + kept) := by
  unfold sD at h
  split at h
  · cases h
  · rename_i hc
    cases hb : bh s (a + nd s a l) (l - nd s a l) behind with
    | none => rw [hb] at h; cases h
    | some r =>
      rw [hb] at h
      cases h
      show vk s (a + nd s a l + 1) r (wh s a (nd s a l)) kept < _
      rw [vk_add]
      have h1 := wh_lt s a (nd s a l) (fun i hi => nd_is s l a i hi)
      have h2 := vk_lt s (a + nd s a l + 1) r (bh_is hb) kept
      have h3 : 10 ^ (nd s a l) ≤ 10 ^ most := Nat.pow_le_pow_right (by decide) (by omega)
      have h4 : wh s a (nd s a l) + 1 ≤ 10 ^ most := by omega
      have h5 := Nat.mul_le_mul_right (10 ^ kept) h4
      rw [Nat.add_mul, Nat.one_mul] at h5
      rw [Nat.pow_add]
      omega
/-- the fields of a sentence of m signs: nf of them, p says where they begin -/
def FS (m : Nat) (s : Nat → Nat) (nf : Nat) (p : Nat → Nat) : Prop := m ≤ 78 ∧ 1 ≤ nf ∧ nf ≤ 79 ∧ (∀ i, i < m → 32 ≤ s i ∧ s i ≤ 126) ∧ p 0 = 0 ∧ (∀ f, f < nf → p f < p (f + 1) ∧ p (f + 1) ≤ m + 1) ∧ p nf = m + 1 ∧ ∀ f, f + 1 < nf → s (p (f + 1) - 1) = 44
def FC (a0 m : Nat) (s : Nat → Nat) (nf : Nat) (p : Nat → Nat) (V : gh_V) : Prop := V.1 2 (a0 + 8) = Int32.ofNat nf ∧ (∀ i, i < m → V.2 (a0 + 9) i = Int32.ofNat (s i)) ∧ ∀ f, f ≤ nf → V.2 (a0 + 10) f = Int32.ofNat (p f)
def FB (m : Nat) (s : Nat → Nat) (nf : Nat) (p : Nat → Nat) (B : md_B) : Prop := B.1 13 = Int32.ofNat nf ∧ (∀ i, i < m → B.2 6 (i + 1) = Int32.ofNat (s i)) ∧ ∀ f, f < nf → B.2 11 f = Int32.ofNat (p f + 1) ∧ B.2 12 f = Int32.ofNat (p (f + 1))
def fl (p : Nat → Nat) (f : Nat) : Nat := p (f + 1) - 1 - p f
def cr (A : Nat) (V : gh_V) : Option Int32 → Int32 × gh_V
  | none => (-2147483648, gh_pf V 3 A 0)
  | some y => (y, V)
def br (B : md_B) : Option Int32 → Int32 × md_B
  | none => (-2147483648, md_pf B 14 0)
  | some y => (y, B)
theorem nf_two {V : gh_V} {A : Nat} : gh_pf (gh_pf V 3 A 0) 3 A 0 = gh_pf V 3 A 0 := by
  unfold gh_pf
  ext1
  · funext j b
    simp only
    split <;> rfl
  · rfl
theorem bf_two {B : md_B} : md_pf (md_pf B 14 0) 14 0 = md_pf B 14 0 := by
  unfold md_pf upd
  ext1
  · funext j
    simp only
    split <;> rfl
  · rfl
theorem none_ne {n : Nat} (h : n < 2147483648) : ¬ Int32.ofNat n = -2147483648 := by
  intro hc
  exact nu_neg h (by rw [hc]; decide)
section FD
variable {a0 m nf : Nat} {s p : Nat → Nat} {T : gh_T} {V : gh_V} {B : md_B}
theorem FC.wr (h : FC a0 m s nf p V) : FC a0 m s nf p (gh_pf V 3 (a0 + 8) 0) := ⟨by rw [pf_n (by simp)]; exact h.1, h.2.1, h.2.2⟩
theorem FC.ch {V' : gh_V} (h : FC a0 m s nf p V) (hV : ch [(3, a0 + 8)] [a0 + 13] V V') : FC a0 m s nf p V' := ⟨by rw [hV.1 _ _ (by simp)]; exact h.1, by rw [hV.2 _ (by simp)]; exact h.2.1, by rw [hV.2 _ (by simp)]; exact h.2.2⟩
theorem FB.wr (h : FB m s nf p B) : FB m s nf p (md_pf B 14 0) := ⟨by rw [bf_n (by simp)]; exact h.1, h.2.1, h.2.2⟩
theorem FB.cb {F D : List Nat} {B' : md_B} (h : FB m s nf p B) (hB : cb F D B B') (h1 : 13 ∉ F) (h2 : 6 ∉ D ∧ 11 ∉ D ∧ 12 ∉ D) : FB m s nf p B' := ⟨by rw [hB.1 _ h1]; exact h.1, by rw [hB.2 _ h2.1]; exact h.2.1, by rw [hB.2 _ h2.2.1, hB.2 _ h2.2.2]; exact h.2.2⟩
theorem FS.b (h : FS m s nf p) {f : Nat} (hf : f < nf) : p f < p (f + 1) ∧ p (f + 1) ≤ m + 1 ∧ m ≤ 78 ∧ nf ≤ 79 ∧ p f + fl p f = p (f + 1) - 1 ∧ p f + fl p f ≤ m := by
  have := h.2.2.2.2.2.1 f hf
  have h1 := h.1
  have h2 := h.2.2.1
  unfold fl
  omega
theorem c_from (hs : sh a0 T) (hS : FS m s nf p) (hC : FC a0 m s nf p V) {f : Nat} (hf : f < nf) : f_X1_from T V (a0 + 8) (Int32.ofNat f) = some (Int32.ofNat (p f), V) := by
  have hb := hS.b hf
  unfold f_X1_from
  rw [if_neg (nu_neg (by omega)), hC.1, if_neg (mt (nu_le (by omega) (by omega)).mp (by omega)), hs.r1_8, Option.bind_some, hs.l10, nu_inb (by omega) (by omega), sv_g_t rfl, nu_nat (by omega), hC.2.2 f (by omega)]
theorem c_to (hs : sh a0 T) (hS : FS m s nf p) (hC : FC a0 m s nf p V) {f : Nat} (hf : f < nf) : f_X1_to T V (a0 + 8) (Int32.ofNat f) = some (Int32.ofNat (p f + fl p f), V) := by
  have hb := hS.b hf
  unfold f_X1_to
  rw [if_neg (nu_neg (by omega)), hC.1, if_neg (mt (nu_le (by omega) (by omega)).mp (by omega)), hs.r1_8, Option.bind_some, hs.l10, nu_s, nu_inb (by omega) (by omega), sv_g_t rfl, nu_nat (by omega), hC.2.2 (f + 1) (by omega), show (1 : Int32) = Int32.ofNat 1 from rfl, nu_sub (by omega), hb.2.2.2.2.1]
theorem c_from0 (hS : FS m s nf p) (hC : FC a0 m s nf p V) {f : Nat} (hf : nf ≤ f) (hf2 : f < 100) : f_X1_from T V (a0 + 8) (Int32.ofNat f) = some (0, V) ∧ f_X1_to T V (a0 + 8) (Int32.ofNat f) = some (0, V) := by
  have h2 := hS.2.2.1
  unfold f_X1_from f_X1_to
  rw [if_neg (nu_neg (by omega)), hC.1, if_pos ((nu_le (by omega) (by omega)).mpr hf), if_neg (nu_neg (by omega)), if_pos ((nu_le (by omega) (by omega)).mpr hf)]
  exact ⟨rfl, rfl⟩
theorem c_emp (hs : sh a0 T) (hS : FS m s nf p) (hC : FC a0 m s nf p V) {f : Nat} (hf : f < nf) : f_X1_isEmpty T V (a0 + 8) (Int32.ofNat f) = some (if fl p f = 0 then 1 else 0, V) := by
  have hb := hS.b hf
  unfold f_X1_isEmpty
  rw [c_from hs hS hC hf, Option.bind_some, c_to hs hS hC hf, Option.bind_some]
  by_cases h : fl p f = 0
  · rw [if_pos h, if_neg (mt (nu_lt (by omega) (by omega)).mp (by omega))]
  · rw [if_neg h, if_pos ((nu_lt (by omega) (by omega)).mpr (by omega))]
theorem c_emp0 (hS : FS m s nf p) (hC : FC a0 m s nf p V) {f : Nat} (hf : nf ≤ f) (hf2 : f < 100) : f_X1_isEmpty T V (a0 + 8) (Int32.ofNat f) = some (1, V) := by
  have h := c_from0 (T := T) hS hC hf hf2
  unfold f_X1_isEmpty
  rw [h.1, Option.bind_some, h.2, Option.bind_some]
  exact if_neg (by decide : ¬ (0 : Int32) < 0)
theorem c_at' (hs : sh a0 T) {i : Nat} (hi : i < 100) : ∃ y, f_X1_at T V (a0 + 8) (Int32.ofNat i) = some (y, V) := by
  unfold f_X1_at
  rw [if_neg (nu_neg (by omega)), hs.r0_8, Option.bind_some, hs.l9]
  by_cases h : 78 ≤ i
  · exact ⟨_, if_pos ((nu_le (by omega) (by omega)).mpr h)⟩
  · rw [if_neg (mt (nu_le (by omega) (by omega)).mp h), Option.bind_some, hs.l9, nu_inb (by omega) (by omega), sv_g_t rfl]
    exact ⟨_, rfl⟩
theorem c_at (hs : sh a0 T) (hS : FS m s nf p) (hC : FC a0 m s nf p V) {i : Nat} (hi : i < m) : f_X1_at T V (a0 + 8) (Int32.ofNat i) = some (Int32.ofNat (s i), V) := by
  have h1 := hS.1
  unfold f_X1_at
  rw [if_neg (nu_neg (by omega)), hs.r0_8, Option.bind_some, hs.l9, if_neg (mt (nu_le (by omega) (by omega)).mp (by omega)), Option.bind_some, hs.l9, nu_inb (by omega) (by omega), sv_g_t rfl, nu_nat (by omega), hC.2.1 i hi]
theorem c_dat' (hs : sh a0 T) {i : Nat} (hi : i < 100) : ∃ y, f_X1_digitAt T V (a0 + 8) (Int32.ofNat i) = some (y, V) := by
  unfold f_X1_digitAt f_X1_digitAt_39 f_X1_digitAt_40
  rw [if_neg (nu_neg (by omega)), hs.r0_8, Option.bind_some, hs.l9]
  by_cases h : 78 ≤ i
  · exact ⟨_, if_pos ((nu_le (by omega) (by omega)).mpr h)⟩
  · rw [if_neg (mt (nu_le (by omega) (by omega)).mp h), Option.bind_some, hs.l9, nu_inb (by omega) (by omega), sv_g_t rfl]
    split
    · exact ⟨_, rfl⟩
    · rw [Option.bind_some, hs.l9, nu_inb (by omega) (by omega), sv_g_t rfl]
      split
      · exact ⟨_, rfl⟩
      · rw [if_neg (by decide), Option.bind_some, hs.l9, nu_inb (by omega) (by omega), sv_g_t rfl]
        exact ⟨_, rfl⟩
theorem c_dat (hs : sh a0 T) (hS : FS m s nf p) (hC : FC a0 m s nf p V) {i : Nat} (hi : i < m) : f_X1_digitAt T V (a0 + 8) (Int32.ofNat i) = some (if isd (s i) then Int32.ofNat (s i - 48) else -1, V) := by
  have h1 := hS.1
  have h2 := hS.2.2.2.1 i hi
  unfold f_X1_digitAt f_X1_digitAt_39 f_X1_digitAt_40
  rw [if_neg (nu_neg (by omega)), hs.r0_8, Option.bind_some, hs.l9, if_neg (mt (nu_le (by omega) (by omega)).mp (by omega)), Option.bind_some, hs.l9, nu_inb (by omega) (by omega), sv_g_t rfl, nu_nat (by omega), hC.2.1 i hi]
  by_cases c1 : s i < 48
  · rw [if_pos ((nl_gt 48 48 rfl (by decide) (by omega)).mpr c1), if_neg (show ¬ isd (s i) by unfold isd; omega), if_pos rfl]
  · rw [if_neg (mt (nl_gt 48 48 rfl (by decide) (by omega)).mp c1), Option.bind_some, hs.l9, nu_inb (by omega) (by omega), sv_g_t rfl, hC.2.1 i hi]
    by_cases c2 : 57 < s i
    · rw [if_pos ((nl_lt 57 57 rfl (by decide) (by omega)).mpr c2), if_neg (show ¬ isd (s i) by unfold isd; omega), if_pos rfl]
    · rw [if_neg (mt (nl_lt 57 57 rfl (by decide) (by omega)).mp c2), if_pos (show isd (s i) by unfold isd; omega), if_neg (by decide), Option.bind_some, hs.l9, nu_inb (by omega) (by omega), sv_g_t rfl, hC.2.1 i hi, show (48 : Int32) = Int32.ofNat 48 from rfl, nu_sub (by omega)]
/-- noughts behind -/
theorem dg_167 {A L : Nat} (hL : L < 100) : ∀ (k j n v : Nat), j + k = L → k < n → f_X1_digits_167 T A n V (Int32.ofNat v) (Int32.ofNat L) (Int32.ofNat j) = some (Int32.ofNat (v * 10 ^ k), V) := by
  intro k
  induction k with
  | zero =>
    intro j n v hj hn
    cases n with
    | zero => omega
    | succ n =>
      unfold f_X1_digits_167
      rw [if_pos ((nu_le (by omega) (by omega)).mpr (by omega)), Nat.pow_zero, Nat.mul_one]
  | succ k ih =>
    intro j n v hj hn
    cases n with
    | zero => omega
    | succ n =>
      unfold f_X1_digits_167
      rw [if_neg (mt (nu_le (by omega) (by omega)).mp (by omega)), nu_s, show (10 : Int32) = Int32.ofNat 10 from rfl, nu_mul, ih (j + 1) n (v * 10) (by omega) (by omega), Nat.pow_succ, Nat.mul_assoc, Nat.mul_comm 10]
theorem vk_more (s : Nat → Nat) (q r v K : Nat) : ∀ k, r ≤ K → vk s q r v (K + k) = vk s q r v K * 10 ^ k := by
  intro k
  induction k with
  | zero => intro _; rw [Nat.pow_zero, Nat.mul_one, Nat.add_zero]
  | succ k ih =>
    intro h
    rw [show K + (k + 1) = (K + k) + 1 by omega, vk_succ]
    rw [ih h, if_neg (by omega), Nat.add_zero, Nat.pow_succ, Nat.mul_assoc]
theorem dg_164 {A r K v q : Nat} (hK : K < 100) : f_X1_digits_164 T A V (Int32.ofNat (vk s q r v (min r K))) (Int32.ofNat (K - min r K)) = some (Int32.ofNat (vk s q r v K), V) := by
  unfold f_X1_digits_164
  have h := dg_167 (T := T) (V := V) (A := A) (L := K - min r K) (by omega) (K - min r K) 0 sv_fu (vk s q r v (min r K)) (by omega) (fu_lt (by omega))
  rw [show (0 : Int32) = Int32.ofNat 0 from rfl, h]
  congr 2
  by_cases hr : r ≤ K
  · have := vk_more s q r v r (K - r) (Nat.le_refl _)
    rw [Nat.min_eq_left hr, ← this, show r + (K - r) = K by omega]
  · rw [Nat.min_eq_right (by omega), Nat.sub_self, Nat.pow_zero, Nat.mul_one]
theorem dg_116 (hs : sh a0 T) (hS : FS m s nf p) (hC : FC a0 m s nf p V) {q r K v : Nat} (hq : q + r ≤ m) (hK : K < 100) : ∀ (k t n : Nat), t + k = r → k < n → f_X1_digits_116 T (a0 + 8) n V (Int32.ofNat (q + r)) (Int32.ofNat (vk s q r v (min t K))) (Int32.ofNat (K - min t K)) (Int32.ofNat (q + t)) = some (cr (a0 + 8) V (if nd s (q + t) k = k then some (Int32.ofNat (vk s q r v K)) else none)) := by
  have h1 := hS.1
  intro k
  induction k with
  | zero =>
    intro t n ht hn
    cases n with
    | zero => omega
    | succ n =>
      have : t = r := by omega
      subst this
      unfold f_X1_digits_116
      rw [if_pos ((nu_le (by omega) (by omega)).mpr (by omega)), dg_164 hK]
      rfl
  | succ k ih =>
    intro t n ht hn
    cases n with
    | zero => omega
    | succ n =>
      have h2 := hS.2.2.2.1 (q + t) (by omega)
      unfold f_X1_digits_116 f_X1_digits_158
      rw [if_neg (mt (nu_le (by omega) (by omega)).mp (by omega)), c_dat hs hS hC (by omega), Option.bind_some]
      unfold nd
      by_cases hd : isd (s (q + t))
      · have hd' := hd
        unfold isd at hd'
        have ih' := ih (t + 1) n (by omega) (by omega)
        rw [show q + (t + 1) = q + t + 1 by omega] at ih'
        rw [if_pos hd, if_pos hd, if_pos (by rw [i32_le]; exact nu_neg (by omega)), nu_s]
        have hiff : (nd s (q + t + 1) k + 1 = k + 1) ↔ nd s (q + t + 1) k = k := by omega
        simp only [hiff]
        rw [← ih']
        by_cases hk : t < K
        · rw [if_neg (mt (nl_ge 0 0 rfl (by decide) (by omega)).mp (by omega))]
          have e1 : min t K = t := by omega
          have e2 : min (t + 1) K = t + 1 := by omega
          rw [e1, e2, show (10 : Int32) = Int32.ofNat 10 from rfl, nu_mul, nu_add]
          have e3 : Int32.ofNat (K - t) + (-1) = Int32.ofNat (K - (t + 1)) := by
            rw [← Int32.sub_eq_add_neg, show (1 : Int32) = Int32.ofNat 1 from rfl, nu_sub (by omega)]
            congr 1
          have e4 : vk s q r v (t + 1) = vk s q r v t * 10 + (s (q + t) - 48) := by
            conv => lhs; unfold vk
            rw [if_pos (by omega)]
          rw [e3, e4]
        · rw [if_pos (by rw [nl_ge 0 0 rfl (by decide) (by omega)]; omega)]
          have e1 : min t K = K := by omega
          have e2 : min (t + 1) K = K := by omega
          rw [e1, e2]
      · rw [if_neg hd, if_neg hd, if_neg (show ¬ 0 = k + 1 by omega)]
        rfl
theorem dg_6 (hs : sh a0 T) (hS : FS m s nf p) (hC : FC a0 m s nf p V) {a l most : Nat} {x3 x5 x6 : Int32} (ha : a + l ≤ m) (hmost : most < 100) : ∀ (k j n : Nat), j + k = min (nd s a l) most → k < n → f_X1_digits_6 T (a0 + 8) n V (Int32.ofNat a) (Int32.ofNat (a + l)) x3 (Int32.ofNat most) x5 x6 (Int32.ofNat (a + j)) (Int32.ofNat (wh s a j)) = f_X1_digits_50 T (a0 + 8) V (Int32.ofNat a) (Int32.ofNat (a + l)) x3 x5 x6 (Int32.ofNat (a + min (nd s a l) most)) (Int32.ofNat (wh s a (min (nd s a l) most))) := by
  have h1 := hS.1
  have hle := nd_le s l a
  intro k
  induction k with
  | zero =>
    intro j n hj hn
    cases n with
    | zero => omega
    | succ n =>
      have hj' : j = min (nd s a l) most := by omega
      unfold f_X1_digits_6
      rw [← hj']
      by_cases c1 : l ≤ j
      · rw [if_pos ((nu_le (by omega) (by omega)).mpr (by omega))]
      · rw [if_neg (mt (nu_le (by omega) (by omega)).mp (by omega)), nu_sub (by omega), show a + j - a = j by omega]
        by_cases c2 : most ≤ j
        · rw [if_pos ((nu_le (by omega) (by omega)).mpr c2)]
        · have hn' : j = nd s a l := by omega
          have hno := nd_no s l a (by omega)
          rw [← hn'] at hno
          rw [if_neg (mt (nu_le (by omega) (by omega)).mp c2), c_dat hs hS hC (by omega), Option.bind_some, if_neg hno]
          exact if_pos (by decide : (-1 : Int32) < 0)
  | succ k ih =>
    intro j n hj hn
    cases n with
    | zero => omega
    | succ n =>
      have hd := nd_is s l a j (by omega)
      have hd' := hd
      unfold isd at hd'
      unfold f_X1_digits_6
      have e4 : wh s a j * 10 + (s (a + j) - 48) = wh s a (j + 1) := rfl
      rw [if_neg (mt (nu_le (by omega) (by omega)).mp (by omega)), nu_sub (by omega), show a + j - a = j by omega, if_neg (mt (nu_le (by omega) (by omega)).mp (by omega)), c_dat hs hS hC (by omega), Option.bind_some, if_pos hd, if_neg (nu_neg (by omega))]
      simp only
      rw [c_dat hs hS hC (by omega), Option.bind_some, if_pos hd, nu_s, show (10 : Int32) = Int32.ofNat 10 from rfl, nu_mul, nu_add, e4]
      exact ih (j + 1) n (by omega) (by omega)
theorem c_digits (hs : sh a0 T) (hS : FS m s nf p) (hC : FC a0 m s nf p V) {a l least most behind kept : Nat} (ha : a + l ≤ m) (hlm : least ≤ most) (hmost : most < 100) (hbe : behind < 100) (hke : kept < 100) : f_X1_digits T V (a0 + 8) (Int32.ofNat a) (Int32.ofNat (a + l)) (Int32.ofNat least) (Int32.ofNat most) (Int32.ofNat behind) (Int32.ofNat kept) = some (cr (a0 + 8) V ((sD s a l least most behind kept).map Int32.ofNat)) := by
  have h1 := hS.1
  have hle := nd_le s l a
  have h6 := dg_6 hs hS hC (x3 := Int32.ofNat least) (x5 := Int32.ofNat behind) (x6 := Int32.ofNat kept) ha hmost (min (nd s a l) most) 0 sv_fu (by omega) (fu_lt (by omega))
  unfold f_X1_digits
  have h6' : f_X1_digits_6 T (a0 + 8) sv_fu V (Int32.ofNat a) (Int32.ofNat (a + l)) (Int32.ofNat least) (Int32.ofNat most) (Int32.ofNat behind) (Int32.ofNat kept) (Int32.ofNat a) 0 = _ := h6
  rw [h6']
  unfold f_X1_digits_50 f_X1_digits_107 f_X1_wrong sD
  rw [nu_sub (by omega), show a + min (nd s a l) most - a = min (nd s a l) most by omega]
  by_cases c1 : nd s a l < least
  · rw [if_neg (mt (nu_le (by omega) (by omega)).mp (by omega)), if_pos (Or.inl c1)]
    rfl
  · rw [if_pos ((nu_le (by omega) (by omega)).mpr (by omega))]
    by_cases c2 : most < nd s a l
    · have hd := nd_is s l a most c2
      unfold isd at hd
      have hmin : min (nd s a l) most = most := by omega
      rw [hmin, if_pos (Or.inr c2), if_neg (mt (nu_le (by omega) (by omega)).mp (by omega)), c_at hs hS hC (by omega), Option.bind_some, if_neg (mt (nl_eq 46 46 rfl (by decide) (by omega)).mp (by omega))]
      rfl
    · have hmin : min (nd s a l) most = nd s a l := by omega
      rw [hmin, if_neg (show ¬ (nd s a l < least ∨ most < nd s a l) by omega)]
      unfold bh
      by_cases c3 : l - nd s a l = 0
      · rw [if_pos c3, if_pos ((nu_le (by omega) (by omega)).mpr (by omega))]
        have := dg_164 (T := T) (V := V) (A := a0 + 8) (s := s) (r := 0) (K := kept) (v := wh s a (nd s a l)) (q := a + nd s a l + 1) hke
        rw [Nat.zero_min, Nat.sub_zero] at this
        exact this
      · rw [if_neg c3, if_neg (mt (nu_le (by omega) (by omega)).mp (by omega)), c_at hs hS hC (by omega), Option.bind_some]
        have h2 := hS.2.2.2.1 (a + nd s a l) (by omega)
        have er : Int32.ofNat (a + l) - (Int32.ofNat (a + nd s a l) + 1) = Int32.ofNat (l - nd s a l - 1) := by
          rw [nu_s, nu_sub (by omega)]
          congr 1
          omega
        simp only
        rw [er]
        by_cases c4 : s (a + nd s a l) = 46
        · rw [if_pos ((nl_eq 46 46 rfl (by decide) (by omega)).mpr c4)]
          by_cases c5 : 1 ≤ l - nd s a l - 1
          · rw [if_neg (mt (nl_gt 1 1 rfl (by decide) (by omega)).mp (by omega))]
            by_cases c6 : l - nd s a l - 1 ≤ behind
            · rw [if_pos ((nu_le (by omega) (by omega)).mpr c6), nu_s]
              have := dg_116 hs hS hC (q := a + nd s a l + 1) (r := l - nd s a l - 1) (K := kept) (v := wh s a (nd s a l)) (by omega) hke (l - nd s a l - 1) 0 sv_fu (by omega) (fu_lt (by omega))
              rw [Nat.zero_min, Nat.sub_zero, Nat.add_zero, show a + nd s a l + 1 + (l - nd s a l - 1) = a + l by omega] at this
              rw [show vk s (a + nd s a l + 1) (l - nd s a l - 1) (wh s a (nd s a l)) 0 = wh s a (nd s a l) from rfl] at this
              rw [this]
              by_cases c7 : nd s (a + nd s a l + 1) (l - nd s a l - 1) = l - nd s a l - 1
              · rw [if_pos c7, if_pos ⟨c4, c5, c6, c7⟩]
                rfl
              · rw [if_neg c7, if_neg (fun h => c7 h.2.2.2)]
                rfl
            · rw [if_neg (mt (nu_le (by omega) (by omega)).mp c6), if_neg (fun h => c6 h.2.2.1)]
              rfl
          · rw [if_pos (by rw [nl_gt 1 1 rfl (by decide) (by omega)]; omega), if_neg (fun h => c5 h.2.1)]
            rfl
        · rw [if_neg (mt (nl_eq 46 46 rfl (by decide) (by omega)).mp c4), if_neg (fun h => c4 h.1)]
          rfl
end FD
