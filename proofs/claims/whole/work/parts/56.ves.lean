/-! ===== PURE: vessel, letter ===== -/
theorem nu_p1 {N n : Nat} (hN : N < 2147483648) (hn : n < 2147483648) : Int32.ofNat N - 1 < Int32.ofNat n ↔ N ≤ n := by
  rw [Int32.lt_iff_toInt_lt, nu_int hn, Int32.toInt_sub, nu_int hN]
  show ((N : Int) - 1).bmod (2 ^ 32) < _ ↔ _
  rw [Int.bmod_eq_of_le] <;> omega
theorem rV.len {V : gh_V} {v i : Nat} {B : md_B} (h : rV V v B i) (k : Nat) (hk : k < 3) : ∃ m : Nat, m ≤ 20 ∧ V.2 (v + 2) k = Int32.ofNat m ∧ B.2 31 (3 * i + k) = Int32.ofNat m ∧ ∀ j, j < m → V.2 (v + 3) (20 * k + j) = B.2 30 (60 * i + 20 * k + j) ∧ ∃ c : Nat, 32 ≤ c ∧ c ≤ 95 ∧ V.2 (v + 3) (20 * k + j) = Int32.ofNat c := by
  obtain ⟨m, m1, m2⟩ := h.2 k hk
  exact ⟨m, by split at m1 <;> omega, m2⟩
theorem gh_isb_of {T : gh_T} {a c : Nat} (h : gh_is T a c) : gh_isb T a c = true := by
  simp only [gh_isb, Bool.and_eq_true, decide_eq_true_eq]
  exact h
theorem one_ne {α : Type} {B : α} : ¬ ((1 : Int32), B).1 = 0 := by simp
section VE
variable {a0 : Nat} {T : gh_T} {V : gh_V} {B : md_B}
theorem at_s (hs : sh a0 T) (h : rF a0 T V B) (x : Int32) : ((x < 0 ∨ B.1 28 - 1 < x) ∧ f_X2_at T V (a0 + 20) x = some (none, V)) ∨ ∃ i v : Nat, i < 40 ∧ x = Int32.ofNat i ∧ ¬ B.1 28 - 1 < x ∧ f_X2_at T V (a0 + 20) x = some (some v, V) ∧ T.2.2.2.2 (a0 + 21) i = some v ∧ rV V v B i := by
  obtain ⟨N, n1, n2, n3, n4⟩ := h
  unfold f_X2_at f_X2_at_27
  rw [n2, n3]
  by_cases c0 : x < 0
  · exact Or.inl ⟨Or.inl c0, if_pos c0⟩
  · obtain ⟨i, hi, rfl⟩ := nu_of c0
    rw [if_neg c0, nu_p1 (by omega) hi]
    by_cases c1 : N ≤ i
    · exact Or.inl ⟨Or.inr c1, by rw [if_pos ((nu_le (by omega) hi).mpr c1)]⟩
    · obtain ⟨v, hv, hr⟩ := n4 i (by omega)
      refine Or.inr ⟨i, v, by omega, rfl, c1, ?_, hv, hr⟩
      rw [if_neg (mt (nu_le (by omega) hi).mp c1), if_neg (mt (nl_le 40 40 rfl (by decide) hi).mp (by omega)), hs.r0_20, Option.bind_some, hs.l21, nu_inb hi (by omega), sv_g_t rfl, nu_nat hi, hv]
      rfl
theorem s_letter (h : Rel a0 T V B) (x1 x2 x3 : Int32) : ∃ q r, f_X8_letter T V a0 x1 x2 x3 = some q ∧ f_X9_letter B x1 x2 x3 = some r ∧ q.1 = r.1 ∧ Rel a0 T q.2 r.2 := by
  have h0 := h.q0
  have hs := h.1
  have hF := h0.2.2.2.2.2.2.2.2.1
  unfold f_X8_letter f_X9_letter
  rw [hs.r8_0, Option.bind_some]
  rcases at_s hs hF x1 with ⟨c, e⟩ | ⟨i, v, hi, rfl, c, e, hv, hr⟩
  · rw [e, Option.bind_some, in0_n c, Option.bind_some]
    exact ⟨_, _, rfl, if_pos rfl, rfl, h0⟩
  · have hv9 := hs.2.2.2.1 i v hv
    rw [e, Option.bind_some, in0_y (nu_neg (by omega)) c, Option.bind_some, if_neg (by simp)]
    simp only [gh_isb_of hv9.2.1, sv_g_t]
    unfold f_X7_signOf
    by_cases c2 : x2 < 0
    · rw [if_pos c2, Option.bind_some, in_n (lo := 0) (hi := 2) (l := 0) (h := 2) rfl rfl (Or.inl c2), Option.bind_some]
      exact ⟨_, _, rfl, if_pos rfl, rfl, h0⟩
    · rw [if_neg c2]
      by_cases c3 : 3 ≤ x2
      · rw [if_pos c3, Option.bind_some, in_n (lo := 0) (hi := 2) (l := 0) (h := 2) rfl rfl (Or.inr (by
          obtain ⟨k, hk, rfl⟩ := nu_of c2
          have := (nl_le 3 3 rfl (by decide) hk).mp c3
          exact (nl_lt 2 2 rfl (by decide) hk).mpr (by omega))), Option.bind_some]
        exact ⟨_, _, rfl, if_pos rfl, rfl, h0⟩
      · obtain ⟨k, hk, rfl⟩ := nu_of c2
        have ck : k < 3 := by
          have := mt (nl_le 3 3 rfl (by decide) hk).mpr c3
          omega
        obtain ⟨m, m1, m2, m3, m4⟩ := hr.len k ck
        have e3 : 3 * Int32.ofNat i + Int32.ofNat k = Int32.ofNat (3 * i + k) := by
          rw [show (3 : Int32) = Int32.ofNat 3 from rfl, nu_mul, nu_add]
        rw [if_neg c3, in_y (lo := 0) (hi := 2) (l := 0) (h := 2) rfl rfl c2 (mt (nl_lt 2 2 rfl (by decide) hk).mp (by omega)), Option.bind_some, if_neg (one_ne (B := md_pf B 0 0)), e3, nu_inb (n := 3 * i + k) (by omega) (by omega), sv_g_t rfl, nu_nat (n := 3 * i + k) (by omega)]
        simp only
        rw [m3]
        by_cases c4 : x3 < 0
        · rw [if_pos c4, in0_n (Or.inl c4)]
          exact ⟨_, _, rfl, rfl, rfl, h0⟩
        · obtain ⟨j, hj, rfl⟩ := nu_of c4
          rw [if_neg c4, hv9.2.2.2.2.2.2.1, Option.bind_some, hv9.2.2.2.2.2.2.2.2.2.1, nu_inb hk ck, sv_g_t rfl, nu_nat hk, m2]
          by_cases c5 : m ≤ j
          · rw [if_pos ((nu_le (by omega) hj).mpr c5), in0_n (Or.inr ((nu_p1 (by omega) hj).mpr c5))]
            exact ⟨_, _, rfl, rfl, rfl, h0⟩
          · have e20 : Int32.ofNat k * 20 + Int32.ofNat j = Int32.ofNat (20 * k + j) := by
              rw [show (20 : Int32) = Int32.ofNat 20 from rfl, nu_mul, nu_add, Nat.mul_comm]
            have e60 : 60 * Int32.ofNat i + 20 * Int32.ofNat k + Int32.ofNat j = Int32.ofNat (60 * i + 20 * k + j) := by
              rw [show (20 : Int32) = Int32.ofNat 20 from rfl, show (60 : Int32) = Int32.ofNat 60 from rfl, nu_mul, nu_mul, nu_add, nu_add]
            rw [if_neg (mt (nu_le (by omega) hj).mp c5), if_pos ((nl_gt 20 20 rfl (by decide) hj).mpr (by omega)), hv9.2.2.2.2.2.2.2.1, Option.bind_some, hv9.2.2.2.2.2.2.2.2.2.2, e20, nu_inb (by omega) (by omega), sv_g_t rfl, nu_nat (by omega), in0_y c4 (mt (nu_p1 (by omega) hj).mp c5), Option.bind_some, Option.bind_some, if_neg (by simp), e60, nu_inb (by omega) (by omega), sv_g_t rfl, nu_nat (by omega)]
            exact ⟨_, _, rfl, rfl, (m4 j (by omega)).1, h0⟩
theorem s_vessel (h : Rel a0 T V B) (x1 x2 : Int32) : ∃ q r u, f_X8_vessel T V a0 x1 x2 = some q ∧ f_X9_vessel B x1 x2 = some r ∧ f_X9_thrown r.2 = some u ∧ u.1 = q.1 ∧ (q.1 = 0 → q.2.1 = r.1) ∧ Rel a0 T q.2.2 u.2 ∧ q.1 ≠ 2 := by
  have h0 := h.q0
  have h1 : Rel a0 T V (md_pf (md_pf B 0 0) 0 1) := h.q1
  have hs := h.1
  have hF := h0.2.2.2.2.2.2.2.2.1
  have bad : ∃ q r u, (some (1, 0, V) : Option (Int32 × Int32 × gh_V)) = some q ∧ f_X9_vessel_47 (md_pf B 0 0) = some r ∧ f_X9_thrown r.2 = some u ∧ u.1 = q.1 ∧ (q.1 = 0 → q.2.1 = r.1) ∧ Rel a0 T q.2.2 u.2 ∧ q.1 ≠ 2 :=
    ⟨_, (0, md_pf (md_pf B 0 0) 0 1), _, rfl, rfl, rfl, by simp [md_pf, upd], fun c => by simp at c, h1, by simp⟩
  unfold f_X8_vessel f_X9_vessel
  rw [hs.r8_0, Option.bind_some]
  rcases at_s hs hF x1 with ⟨c, e⟩ | ⟨i, v, hi, rfl, c, e, hv, hr⟩
  · rw [e, Option.bind_some, in0_n c, Option.bind_some, if_pos rfl]
    exact bad
  · have hv9 := hs.2.2.2.1 i v hv
    rw [e, Option.bind_some, in0_y (nu_neg (by omega)) c, Option.bind_some, if_neg (by simp)]
    simp only [gh_isb_of hv9.2.1, sv_g_t]
    have late : (x2 < 0 ∨ 23 < x2) → ∃ q r u, f_X8_vessel_40 T a0 V x2 v = some q ∧ ((f_X9_in (md_pf B 0 0) x2.toInt64 30 32).bind fun q41 => if q41.1 = 0 then f_X9_vessel_47 q41.2 else f_X9_vessel_53 q41.2 (Int32.ofNat i) x2) = some r ∧ f_X9_thrown r.2 = some u ∧ u.1 = q.1 ∧ (q.1 = 0 → q.2.1 = r.1) ∧ Rel a0 T q.2.2 u.2 ∧ q.1 ≠ 2 := by
      intro hx
      unfold f_X8_vessel_40 f_X8_vessel_52
      by_cases c3 : x2 < 30
      · rw [if_pos c3, in_n (lo := 30) (hi := 32) (l := 30) (h := 32) rfl rfl (Or.inl c3), Option.bind_some, if_pos rfl]
        exact bad
      · rw [if_neg c3]
        have c0 : ¬ x2 < 0 := fun c => c3 (by
          rw [Int32.lt_iff_toInt_lt] at c ⊢
          have e1 : (0 : Int32).toInt = 0 := rfl
          have e2 : (30 : Int32).toInt = 30 := rfl
          omega)
        obtain ⟨k, hk, rfl⟩ := nu_of c0
        have k30 : 30 ≤ k := by
          have := mt (nl_gt 30 30 rfl (by decide) hk).mpr c3
          omega
        by_cases c4 : Int32.ofNat k ≤ 32
        · have k32 := (nl_ge 32 32 rfl (by decide) hk).mp c4
          have e30 : Int32.ofNat k - 30 = Int32.ofNat (k - 30) := nu_sub k30
          have e3 : 3 * Int32.ofNat i + Int32.ofNat k - 30 = Int32.ofNat (3 * i + (k - 30)) := by
            rw [show (3 : Int32) = Int32.ofNat 3 from rfl, show (30 : Int32) = Int32.ofNat 30 from rfl, nu_mul, nu_add, nu_sub (by omega)]
            congr 1
            omega
          obtain ⟨m, m1, m2, m3, m4⟩ := hr.len (k - 30) (by omega)
          unfold f_X9_vessel_53
          rw [if_pos c4, hv9.2.2.2.2.2.2.1, Option.bind_some, hv9.2.2.2.2.2.2.2.2.2.1, e30, nu_inb (by omega) (by omega), sv_g_t rfl, nu_nat (by omega), in_y (lo := 30) (hi := 32) (l := 30) (h := 32) rfl rfl c3 (mt (nl_lt 32 32 rfl (by decide) hk).mp (by omega)), Option.bind_some, if_neg (by simp), if_pos ((nl_le 24 24 rfl (by decide) hk).mpr (by omega)), e3, nu_inb (by omega) (by omega), sv_g_t rfl, nu_nat (by omega)]
          exact ⟨_, _, _, rfl, rfl, rfl, by simp [md_pf, upd], fun _ => by show V.2 (v + 2) (k - 30) = (md_pf B 0 0).2 31 _; rw [m2, m3], h0, by simp⟩
        · rw [if_neg c4, in_n (lo := 30) (hi := 32) (l := 30) (h := 32) rfl rfl (Or.inr (by
            have := mt (nl_ge 32 32 rfl (by decide) hk).mpr c4
            exact (nl_lt 32 32 rfl (by decide) hk).mpr (by omega))), Option.bind_some, if_pos rfl]
          exact bad
    by_cases c2 : x2 < 0
    · rw [if_pos c2, in_n (lo := 0) (hi := 23) (l := 0) (h := 23) rfl rfl (Or.inl c2), Option.bind_some, if_pos rfl]
      exact late (Or.inl c2)
    · rw [if_neg c2]
      obtain ⟨k, hk, rfl⟩ := nu_of c2
      by_cases c3 : 24 ≤ Int32.ofNat k
      · have k24 := (nl_le 24 24 rfl (by decide) hk).mp c3
        have c4 : 23 < Int32.ofNat k := (nl_lt 23 23 rfl (by decide) hk).mpr (by omega)
        rw [if_pos c3, in_n (lo := 0) (hi := 23) (l := 0) (h := 23) rfl rfl (Or.inr c4), Option.bind_some, if_pos rfl]
        exact late (Or.inr c4)
      · have k24 := mt (nl_le 24 24 rfl (by decide) hk).mpr c3
        have e24 : 24 * Int32.ofNat i + Int32.ofNat k = Int32.ofNat (24 * i + k) := by
          rw [show (24 : Int32) = Int32.ofNat 24 from rfl, nu_mul, nu_add]
        unfold f_X9_vessel_53
        rw [if_neg c3, hv9.2.2.2.2.2.1, Option.bind_some, hv9.2.2.2.2.2.2.2.2.1, nu_inb hk (by omega), sv_g_t rfl, nu_nat hk, in_y (lo := 0) (hi := 23) (l := 0) (h := 23) rfl rfl c2 (mt (nl_lt 23 23 rfl (by decide) hk).mp (by omega)), Option.bind_some, if_neg (by simp)]
        simp only
        rw [if_neg c3, e24, nu_inb (by omega) (by omega), sv_g_t rfl, nu_nat (by omega)]
        exact ⟨_, _, _, rfl, rfl, rfl, by simp [md_pf, upd], fun _ => hr.1 k (by omega), h0, by simp⟩
end VE
