/-! ===== PURE: again, clear, the start ===== -/
section CL
variable {a0 : Nat} {T : gh_T} {V : gh_V} {B : md_B}
theorem again_l {N : Nat} : ∀ (m j t n n' : Nat) (V : gh_V) (B : md_B), Rel a0 T V B → V.1 1 (a0 + 4) = Int32.ofNat N → V.1 1 (a0 + 2) = Int32.ofNat t → j + m = N → N ≤ 115 → t + m ≤ 2000 → m < n → m < n' → ∃ q r, f_X8_again_22 T a0 n V (Int32.ofNat j) = some q ∧ f_X9_again_25 n' B (Int32.ofNat j) = some r ∧ q.1 = r.1 ∧ Rel a0 T q.2 r.2 := by
  intro m
  induction m with
  | zero =>
    intro j t n n' V B h hN ht hj hN2 htm hn hn'
    cases n with
    | zero => omega
    | succ n =>
      cases n' with
      | zero => omega
      | succ n' =>
        have h0 := h
        obtain ⟨hs, ⟨k, k1, k2, k3, k4⟩, ⟨p, p1, p2, p3, p4⟩, -⟩ := h
        have hpN : p = N := (nu_eq (by omega) (by omega)).mp (p2.symm.trans hN)
        subst hpN
        unfold f_X8_again_22 f_X9_again_25
        rw [hs.r2_0, Option.bind_some, hN, p3, if_pos (by rw [nu_le (by omega) (by omega)]; omega), if_pos (by rw [nu_le (by omega) (by omega)]; omega), hs.r1_0]
        exact ⟨_, _, rfl, rfl, by show V.1 1 (a0 + 2) = B.1 2; rw [k2, k3], h0⟩
  | succ m ih =>
    intro j t n n' V B h hN ht hj hN2 htm hn hn'
    cases n with
    | zero => omega
    | succ n =>
      cases n' with
      | zero => omega
      | succ n' =>
        have h0 := h
        obtain ⟨hs, ⟨k, k1, k2, k3, k4⟩, hp, -⟩ := h
        obtain ⟨v, hv, hv2⟩ := rR.at hs.r0_4 hs.l5 (by decide) hp (Int32.ofNat j)
        obtain ⟨p, p1, p2, p3, p4⟩ := hp
        have hpN : p = N := (nu_eq (by omega) (by omega)).mp (p2.symm.trans hN)
        subst hpN
        have hkt : k = t := (nu_eq (by omega) (by omega)).mp (k2.symm.trans ht)
        subst hkt
        have hv3 : v = B.2 3 j ∧ ∃ c : Nat, c < 256 ∧ v = Int32.ofNat c := by
          rcases hv2 p p3 p1 with ⟨c, -⟩ | ⟨n2, e, e0, e2, e3⟩
          · rcases c with c | c
            · exact absurd c (nu_neg (by omega))
            · rw [p3, nu_le (by omega) (by omega)] at c
              omega
          · have : j = n2 := (nu_eq (by omega) (by omega)).mp e
            subst this
            exact ⟨e2, e3⟩
        obtain ⟨V1, d1, c1, s1, v1⟩ := sr_one v hs.r0_2 hs.l3 (by decide) k2 (by omega)
        have eB : (md_pa B 1 (B.1 2) (B.2 3 j)).1 2 + 1 = Int32.ofNat (k + 1) := by rw [ba_1, k3, nu_s]
        unfold f_X8_again_22 f_X9_again_25
        rw [hs.r2_0, Option.bind_some, hN, p3, if_neg (by rw [nu_le (by omega) (by omega)]; omega), if_neg (by rw [nu_le (by omega) (by omega)]; omega), hs.r1_0, Option.bind_some, Option.bind_some, hv, Option.bind_some, d1, Option.bind_some, nu_inb (by omega) (by omega), sv_g_t rfl, nu_nat (by omega), eB, k3, nu_inb (by omega) (by omega), sv_g_t rfl, nu_s]
        refine ih (j + 1) (k + 1) n n' V1 _ ?_ (by rw [c1.1 _ _ (by simp)]; exact hN) s1 (by omega) hN2 (by omega) (by omega) (by omega)
        refine h0.tape c1 ((cb.rf.pa (by simp)).pf (by simp)) ⟨k + 1, by omega, s1, bf_1, fun i hi => ?_⟩
        rw [v1, bf_2, ba_2, nu_nat (by omega)]
        unfold upd
        by_cases hik : i = k
        · rw [if_pos hik, if_pos hik]
          obtain ⟨e1, c, e2, e3⟩ := hv3
          rw [pb_and, ← e1, e3, and255_small e2]
        · rw [if_neg hik, if_neg hik]
          exact k4 i (by omega)
theorem s_again (h : Rel a0 T V B) : ∃ q r, f_X8_again T V a0 = some q ∧ f_X9_again B = some r ∧ q.1 = r.1 ∧ Rel a0 T q.2 r.2 := by
  have h0 := h
  obtain ⟨hs, ⟨k, k1, k2, k3, -⟩, ⟨p, p1, p2, p3, -⟩, -⟩ := h
  unfold f_X8_again f_X9_again f_X6_hasRoom
  rw [hs.r1_0, Option.bind_some, hs.r2_0, Option.bind_some, hs.r0_2, Option.bind_some, hs.l3, k2, p2, nu_add, bf_n (by decide), bf_n (by decide), k3, p3, nu_add]
  by_cases c : k + p ≤ 2000
  · rw [if_neg (by rw [nu_lt (by omega) (by omega)]; omega), Option.bind_some, if_neg (by simp), if_pos ((nl_ge 2000 2000 rfl (by decide) (by omega)).mpr c)]
    exact again_l p 0 k sv_fu sv_fu V (md_pf B 0 0) h0.q0 p2 k2 (by omega) p1 (by omega) (fu_lt (by omega)) (fu_lt (by omega))
  · rw [if_pos (by rw [nu_lt (by omega) (by omega)]; omega), Option.bind_some, if_pos rfl, if_neg (mt (nl_ge 2000 2000 rfl (by decide) (by omega)).mp c)]
    exact ⟨_, _, rfl, rfl, rfl, h0.q0⟩
theorem fg_65 : ∀ (m k n : Nat) (B : md_B), k + m = 11 → m < n → ∃ B', f_X9_forget_65 n B (Int32.ofNat k) = some B' ∧ cb [] [22, 23] B B' ∧ (∀ i, k ≤ i → i < 11 → B'.2 22 i = 0) ∧ ∀ i, i < k → B'.2 22 i = B.2 22 i := by
  intro m
  induction m with
  | zero =>
    intro k n B hk hn
    cases n with
    | zero => omega
    | succ n =>
      unfold f_X9_forget_65
      rw [if_pos ((nl_le 11 11 rfl (by decide) (by omega)).mpr (by omega))]
      exact ⟨B, rfl, cb.rf, fun i h1 h2 => by omega, fun _ _ => rfl⟩
  | succ m ih =>
    intro k n B hk hn
    cases n with
    | zero => omega
    | succ n =>
      unfold f_X9_forget_65
      rw [if_neg (mt (nl_le 11 11 rfl (by decide) (by omega)).mp (by omega)), nu_inb (by omega) (by omega), sv_g_t rfl, sv_g_t rfl, nu_s]
      obtain ⟨B', e1, e2, e3, e4⟩ := ih (k + 1) n (md_pa (md_pa B 22 (Int32.ofNat k) 0) 23 (Int32.ofNat k) 0) (by omega) (by omega)
      refine ⟨B', e1, ((cb.rf.pa (by simp)).pa (by simp)).trans e2, fun i h1 h2 => ?_, fun i h1 => ?_⟩
      · by_cases hi : k + 1 ≤ i
        · exact e3 i hi h2
        · have : i = k := by omega
          subst this
          rw [e4 i (by omega), ba_n (by decide), ba_2, nu_nat (by omega)]
          simp [upd]
      · rw [e4 i (by omega), ba_n (by decide), ba_2, nu_nat (by omega)]
        simp [upd, show i ≠ k by omega]
theorem fg_43 : ∀ (m k n : Nat) (B : md_B), k + m = 18 → m < n → ∃ B', f_X9_forget_43 n B (Int32.ofNat k) = some B' ∧ cb [] [16, 22, 23] B B' ∧ (∀ i, k ≤ i → i < 18 → B'.2 16 i = -2147483648) ∧ (∀ i, i < k → B'.2 16 i = B.2 16 i) ∧ ∀ i, i < 11 → B'.2 22 i = 0 := by
  intro m
  induction m with
  | zero =>
    intro k n B hk hn
    cases n with
    | zero => omega
    | succ n =>
      unfold f_X9_forget_43
      rw [if_pos ((nl_le 18 18 rfl (by decide) (by omega)).mpr (by omega))]
      obtain ⟨B', e1, e2, e3, e4⟩ := fg_65 11 0 sv_fu B rfl (fu_lt (by decide))
      exact ⟨B', e1, e2.mono (by simp) (by simp), fun i h1 h2 => by omega, fun i _ => by rw [e2.2 16 (by decide)], fun i hi => e3 i (by omega) hi⟩
  | succ m ih =>
    intro k n B hk hn
    cases n with
    | zero => omega
    | succ n =>
      unfold f_X9_forget_43
      rw [if_neg (mt (nl_le 18 18 rfl (by decide) (by omega)).mp (by omega)), nu_inb (by omega) (by omega), sv_g_t rfl, nu_s]
      obtain ⟨B', e1, e2, e3, e4, e5⟩ := ih (k + 1) n (md_pa B 16 (Int32.ofNat k) (-2147483648)) (by omega) (by omega)
      refine ⟨B', e1, (cb.rf.pa (by simp)).trans e2, fun i h1 h2 => ?_, fun i h1 => ?_, e5⟩
      · by_cases hi : k + 1 ≤ i
        · exact e3 i hi h2
        · have : i = k := by omega
          subst this
          rw [e4 i (by omega), ba_2, nu_nat (by omega)]
          simp [upd]
      · rw [e4 i (by omega), ba_2, nu_nat (by omega)]
        simp [upd, show i ≠ k by omega]
theorem fg_22 : ∀ (m k n : Nat) (B : md_B), k + m = 9 → m < n → ∃ B', f_X9_forget_22 n B (Int32.ofNat k) = some B' ∧ cb [] [10, 16, 22, 23] B B' ∧ (∀ i, k ≤ i → i < 9 → B'.2 10 i = 0) ∧ (∀ i, i < k → B'.2 10 i = B.2 10 i) ∧ (∀ i, i < 18 → B'.2 16 i = -2147483648) ∧ ∀ i, i < 11 → B'.2 22 i = 0 := by
  intro m
  induction m with
  | zero =>
    intro k n B hk hn
    cases n with
    | zero => omega
    | succ n =>
      unfold f_X9_forget_22
      rw [if_pos ((nl_le 9 9 rfl (by decide) (by omega)).mpr (by omega))]
      obtain ⟨B', e1, e2, e3, e4, e5⟩ := fg_43 18 0 sv_fu B rfl (fu_lt (by decide))
      exact ⟨B', e1, e2.mono (by simp) (by simp), fun i h1 h2 => by omega, fun i _ => by rw [e2.2 10 (by decide)], fun i hi => e3 i (by omega) hi, e5⟩
  | succ m ih =>
    intro k n B hk hn
    cases n with
    | zero => omega
    | succ n =>
      unfold f_X9_forget_22
      rw [if_neg (mt (nl_le 9 9 rfl (by decide) (by omega)).mp (by omega)), nu_inb (by omega) (by omega), sv_g_t rfl, nu_s]
      obtain ⟨B', e1, e2, e3, e4, e5, e6⟩ := ih (k + 1) n (md_pa B 10 (Int32.ofNat k) 0) (by omega) (by omega)
      refine ⟨B', e1, (cb.rf.pa (by simp)).trans e2, fun i h1 h2 => ?_, fun i h1 => ?_, e5, e6⟩
      · by_cases hi : k + 1 ≤ i
        · exact e3 i hi h2
        · have : i = k := by omega
          subst this
          rw [e4 i (by omega), ba_2, nu_nat (by omega)]
          simp [upd]
      · rw [e4 i (by omega), ba_2, nu_nat (by omega)]
        simp [upd, show i ≠ k by omega]
theorem fg_s (B : md_B) : ∃ B', f_X9_forget B = some B' ∧ cb [5, 7, 28, 27] [10, 16, 22, 23] B B' ∧ B'.1 5 = 0 ∧ B'.1 28 = 0 ∧ B'.1 27 = 0 ∧ (∀ i, i < 9 → B'.2 10 i = 0) ∧ (∀ i, i < 18 → B'.2 16 i = -2147483648) ∧ ∀ i, i < 11 → B'.2 22 i = 0 := by
  obtain ⟨B', e1, e2, e3, e4, e5, e6⟩ := fg_22 9 0 sv_fu (md_pf (md_pf (md_pf (md_pf B 5 0) 7 0) 28 0) 27 0) rfl (fu_lt (by decide))
  refine ⟨B', e1, ((((cb.rf.pf (by simp)).pf (by simp)).pf (by simp)).pf (by simp)).trans (e2.mono (by simp) (by simp)), ?_, ?_, ?_, fun i hi => e3 i (by omega) hi, e5, e6⟩
  · rw [e2.1 _ (by simp), bf_n (by decide), bf_n (by decide), bf_n (by decide), bf_1]
  · rw [e2.1 _ (by simp), bf_n (by decide), bf_1]
  · rw [e2.1 _ (by simp), bf_1]
theorem s_clear (h : Rel a0 T V B) : ∃ q r, f_X8_clear T V a0 = some q ∧ f_X9_clear B = some r ∧ Rel a0 T q r := by
  obtain ⟨hs, h1, h2, h3, h4, h5, h6, h7, h8, h9, h10⟩ := h
  obtain ⟨B', b1, b2, b3, b4, b5, b6, b7, b8⟩ := fg_s (md_pf B 0 0)
  have b2 : cb [0, 5, 7, 28, 27] [10, 16, 22, 23] B B' := (cb.rf.pf (by simp)).trans (b2.mono (by simp) (by simp))
  obtain ⟨V1, d1, e1, g1, v1⟩ := fill_s (V := V) 0 hs.l1 (by decide)
  obtain ⟨V2, d2, e2, g2, v2⟩ := fill_s (V := gh_pf V1 1 (a0 + 6) 0) (-2147483648) hs.l12 (by decide)
  obtain ⟨V3, d3, e3, g3, v3⟩ := fill_s (V := V2) 0 hs.l17 (by decide)
  obtain ⟨V4, d4, e4, g4, v4⟩ := fill_s (V := V3) 0 hs.l19 (by decide)
  have cl : ∀ {V V' : gh_V} {d : Nat}, V'.1 = V.1 → (∀ e, e ≠ d → V'.2 e = V.2 e) → d ∈ [a0 + 1, a0 + 12, a0 + 17, a0 + 19] → ch [(1, a0 + 6), (2, a0 + 18), (1, a0 + 20)] [a0 + 1, a0 + 12, a0 + 17, a0 + 19] V V' := fun q1 q2 q3 => ⟨fun k a _ => by rw [q1], fun e he => q2 e (fun c => he (by rw [c]; exact q3))⟩
  have hV : ch [(1, a0 + 6), (2, a0 + 18), (1, a0 + 20)] [a0 + 1, a0 + 12, a0 + 17, a0 + 19] V (gh_pf (gh_pf V4 2 (a0 + 18) 0) 1 (a0 + 20) 0) :=
    ((((((cl e1 g1 (by simp)).pf (by simp)).trans (cl e2 g2 (by simp))).trans (cl e3 g3 (by simp))).trans (cl e4 g4 (by simp))).pf (by simp)).pf (by simp)
  refine ⟨gh_pf (gh_pf V4 2 (a0 + 18) 0) 1 (a0 + 20) 0, B', ?_, ?_, hs, ?_, ?_, ?_, ?_, ?_, ?_, ?_, ?_, ?_, ?_⟩
  · unfold f_X8_clear f_X5_forget f_X4_forget f_X3_forget f_X0_empty
    rw [hs.r0_0, Option.bind_some, d1, Option.bind_some, hs.r3_0, Option.bind_some, Option.bind_some, hs.r5_0, Option.bind_some, hs.r0_11, Option.bind_some, d2, Option.bind_some, Option.bind_some, hs.r6_0, Option.bind_some, hs.r2_14, Option.bind_some, d3, Option.bind_some, Option.bind_some, hs.r7_0, Option.bind_some, hs.r1_18, Option.bind_some, d4, Option.bind_some, Option.bind_some, hs.r8_0]
    rfl
  · unfold f_X9_clear
    rw [b1]
    rfl
  · rw [hV.1 _ _ (by simp), hV.2 _ (by simp), b2.1 _ (by decide), b2.2 _ (by decide)]; exact h1
  · rw [hV.1 _ _ (by simp), hV.2 _ (by simp), b2.1 _ (by decide), b2.2 _ (by decide)]; exact h2
  · intro i hi
    rw [b6 i hi, pf_2, pf_2, g4 _ (by simp), g3 _ (by simp), g2 _ (by simp), pf_2]
    exact v1 i hi
  · refine ⟨?_, Or.inl ?_⟩
    · rw [b3, pf_n (by simp), pf_n (by simp), e4, e3, e2, pf_1]
    · rw [pf_n (by simp), pf_n (by simp), e4, e3, e2, pf_1]
  · intro i hi
    rw [b7 i hi, pf_2, pf_2, g4 _ (by simp), g3 _ (by simp)]
    exact v2 i hi
  · refine ⟨fun i r hr => ?_, fun i hi => ?_⟩
    · have hk := (hs.2.2.1.1 i r hr).1
      rw [hV.1 _ _ (by simp)]
      exact h6.1 i r hr
    · rw [b8 i hi]
      refine ⟨?_, ?_, Or.inl rfl⟩
      · rw [pf_2, pf_2, g4 _ (by simp)]
        exact v3 i hi
      · rw [hV.2 _ (by simp), b2.2 _ (by decide)]
        exact (h6.2 i hi).2.1
  · exact Or.inl ⟨b5, by rw [pf_n (by simp), pf_1]⟩
  · exact ⟨0, by omega, pf_1, b4, fun i hi => by omega⟩
  · rw [hV.1 _ _ (by simp)]; exact h9
  · rw [b2.1 _ (by decide)]; exact h10
end CL
