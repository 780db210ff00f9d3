/-! ===== PURE: bits ===== -/
def gb (g : Nat → Int32) (i : Nat) : Bool := decide (g i ≠ 0)
theorem rB.gbe {n : Nat} {w g : Nat → Int32} {off N : Nat} (h : rB n w g off N) {i : Nat} (hi : i < n) : wb w i = gb g (off + i) := by
  have h1 := h.1 i hi
  unfold gb
  rw [h1]
  cases wb w i <;> decide
theorem rread_l {B : md_B} {p k : Nat} (hp : p + k ≤ 3240) : ∀ (m j n : Nat), j + m = k → m < n → f_X9_read_5 n B (Int32.ofNat p) (Int32.ofNat k) (rd (gb (B.2 25)) p j) (Int32.ofNat (p + j)) = some (rd (gb (B.2 25)) p k, B) := by
  intro m
  induction m with
  | zero =>
    intro j n hj hn
    cases n with
    | zero => omega
    | succ n =>
      have : j = k := by omega
      subst this
      unfold f_X9_read_5
      rw [nu_add, if_pos ((nu_le (by omega) (by omega)).mpr (Nat.le_refl _))]
  | succ m ih =>
    intro j n hj hn
    cases n with
    | zero => omega
    | succ n =>
      unfold f_X9_read_5 f_X9_read_31
      rw [nu_add, if_neg (mt (nu_le (by omega) (by omega)).mp (by omega)), nu_inb (by omega) (by omega), sv_g_t rfl, nu_nat (by omega), nu_s]
      have := ih (j + 1) n (by omega) (by omega)
      have e : rd (gb (B.2 25)) p (j + 1) = (rd (gb (B.2 25)) p j <<< (1 &&& 31)) ||| (if gb (B.2 25) (p + j) = true then 1 else 0) := rfl
      rw [e] at this
      by_cases h0 : B.2 25 (p + j) = 0
      · rw [if_pos h0]
        rw [if_neg (by simp [gb, h0])] at this
        exact this
      · rw [if_neg h0]
        rw [if_pos (by simp [gb, h0])] at this
        exact this
theorem rread_s {B : md_B} {p k : Nat} (hp : p + k ≤ 3240) : f_X9_read B (Int32.ofNat p) (Int32.ofNat k) = some (rd (gb (B.2 25)) p k, B) := rread_l hp k 0 sv_fu (by omega) (fu_lt (by omega))
theorem nu_les {p L k : Nat} (hp : p < 2147483648) (hL : L < 2147483648) (hk : k < 2147483648) : Int32.ofNat p ≤ Int32.ofNat L - Int32.ofNat k ↔ p + k ≤ L := by
  rw [Int32.le_iff_toInt_le, nu_int hp, Int32.toInt_sub, nu_int hL, nu_int hk, Int.bmod_eq_of_le] <;> omega
theorem lc_sum {p k L : Nat} (hp : p < 2147483648) (hk : k < 2147483648) (hL : L < 2147483648) : lg_cmp ((Int32.ofNat p).toInt64 + (Int32.ofNat k).toInt64) (Int32.ofNat L).toInt64 ≤ 0 ↔ p + k ≤ L := by
  rw [i32_le, lc_p, Int64.lt_iff_toInt_lt, Int64.toInt_add, Int32.toInt_toInt64, Int32.toInt_toInt64, Int32.toInt_toInt64, nu_int hp, nu_int hk, nu_int hL, Int.bmod_eq_of_le] <;> omega
section BS
variable {a0 : Nat} {T : gh_T} {V : gh_V} {B : md_B}
theorem s_bits (h : Rel a0 T V B) (x1 x2 : Int32) : ∃ q r u, f_X8_bits T V a0 x1 x2 = some q ∧ f_X9_bits B x1 x2 = some r ∧ f_X9_thrown r.2 = some u ∧ u.1 = q.1 ∧ (q.1 = 0 → q.2.1 = r.1) ∧ Rel a0 T q.2.2 u.2 ∧ q.1 ≠ 2 := by
  have h0 := h.q0
  have h1 : Rel a0 T V (md_pf (md_pf B 0 0) 0 1) := h.q1
  have hs := h.1
  have hM : rM (V.1 2 (a0 + 18)) (V.2 (a0 + 19)) ((md_pf B 0 0).1 27) ((md_pf B 0 0).1 26) ((md_pf B 0 0).2 25) := h0.2.2.2.2.2.2.2.1
  have bad : ∃ q r u, f_X8_bits_28 T a0 V = some q ∧ f_X9_bits_42 (md_pf B 0 0) = some r ∧ f_X9_thrown r.2 = some u ∧ u.1 = q.1 ∧ (q.1 = 0 → q.2.1 = r.1) ∧ Rel a0 T q.2.2 u.2 ∧ q.1 ≠ 2 :=
    ⟨_, (0, md_pf (md_pf B 0 0) 0 1), _, rfl, rfl, rfl, by simp [md_pf, upd], fun c => by simp at c, h1, by simp⟩
  unfold f_X8_bits f_X9_bits
  rcases hM with ⟨m1, m2⟩ | ⟨m1, k, k1, k2, k3, k4, k5⟩
  · rw [if_pos m1]
    by_cases c1 : x2 < 1
    · rw [if_pos c1]; exact bad
    · rw [if_neg c1]
      by_cases c2 : 32 < x2
      · rw [if_pos c2]; exact bad
      · rw [if_neg c2]
        by_cases c3 : x1 < 0
        · rw [if_pos c3]; exact bad
        · have c0 : ¬ x2 < 0 := fun c => c1 (by
            rw [Int32.lt_iff_toInt_lt] at c ⊢
            have e1 : (0 : Int32).toInt = 0 := rfl
            have e2 : (1 : Int32).toInt = 1 := rfl
            omega)
          obtain ⟨p, hp, rfl⟩ := nu_of c3
          obtain ⟨n, hn, rfl⟩ := nu_of c0
          have n1 := mt (nl_gt 1 1 rfl (by decide) hn).mpr c1
          rw [if_neg c3, hs.r7_0, Option.bind_some, (show V.1 2 (a0 + 18) = Int32.ofNat 0 from m2), if_neg (mt (nu_les (L := 0) hp (by decide) hn).mp (by omega))]
          exact bad
  · rw [if_neg (show ¬ (md_pf B 0 0).1 27 = 0 by rw [m1]; decide)]
    by_cases c1 : x2 < 1
    · rw [if_pos c1, in_n (lo := 1) (hi := 32) (l := 1) (h := 32) rfl rfl (Or.inl c1), Option.bind_some, if_pos rfl]; exact bad
    · rw [if_neg c1]
      by_cases c2 : 32 < x2
      · rw [if_pos c2, in_n (lo := 1) (hi := 32) (l := 1) (h := 32) rfl rfl (Or.inr c2), Option.bind_some, if_pos rfl]; exact bad
      · rw [if_neg c2, in_y (lo := 1) (hi := 32) (l := 1) (h := 32) rfl rfl c1 c2, Option.bind_some, if_neg (one_ne (B := md_pf B 0 0))]
        by_cases c3 : x1 < 0
        · rw [if_pos c3, if_pos c3]; exact bad
        · have c0 : ¬ x2 < 0 := fun c => c1 (by
            rw [Int32.lt_iff_toInt_lt] at c ⊢
            have e1 : (0 : Int32).toInt = 0 := rfl
            have e2 : (1 : Int32).toInt = 1 := rfl
            omega)
          obtain ⟨p, hp, rfl⟩ := nu_of c3
          obtain ⟨n, hn, rfl⟩ := nu_of c0
          have n1 := mt (nl_gt 1 1 rfl (by decide) hn).mpr c1
          have n2 := mt (nl_lt 32 32 rfl (by decide) hn).mpr c2
          rw [if_neg c3, if_neg c3, hs.r7_0, Option.bind_some, k3, Option.bind_some]
          simp only
          rw [k4]
          by_cases c5 : p + n ≤ k
          · rw [if_pos ((nu_les hp (by omega) hn).mpr c5), if_pos ((lc_sum hp hn (by omega)).mpr c5), read_s hs.r1_18 hs.l19 (by decide) (by omega) (by omega) (by omega), rread_s (by omega)]
            refine ⟨_, _, _, rfl, rfl, rfl, by simp [md_pf, upd], fun _ => ?_, h0, by simp⟩
            exact rd_eq n (fun i hi => by rw [k5.gbe (by omega), Nat.zero_add])
          · rw [if_neg (mt (nu_les hp (by omega) hn).mp c5), if_neg (mt (lc_sum hp hn (by omega)).mp c5)]
            exact bad
end BS
