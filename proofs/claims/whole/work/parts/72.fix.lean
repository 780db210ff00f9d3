/-! ===== PURE: gga, rmc, vtg ===== -/
theorem num1 {s p : Nat → Nat} {f : Nat} : S_num s p f 1 = if fl p f = 0 then some (-2147483648) else if fl p f = 1 ∧ isd (s (p f)) then some (Int32.ofNat (s (p f) - 48)) else none := by
  unfold S_num
  by_cases c : fl p f = 0
  · rw [if_pos c, if_pos c]
  · rw [if_neg c, if_neg c, sD_num]
    by_cases c1 : fl p f = 1
    · have e : nd s (p f) (fl p f) = if isd (s (p f)) then 1 else 0 := by
        rw [c1]
        unfold nd nd
        rfl
      by_cases c2 : isd (s (p f))
      · rw [if_pos c2] at e
        rw [if_pos ⟨c1, e⟩, if_pos ⟨c1, c2⟩]
        show some (Int32.ofNat (0 * 10 + (s (p f + 0) - 48))) = _
        rw [Nat.zero_mul, Nat.zero_add, Nat.add_zero]
      · rw [if_neg c2] at e
        rw [if_neg (by rw [e]; omega), if_neg (fun h => c2 h.2)]
        rfl
    · rw [if_neg (fun h => c1 h.1), if_neg (fun h => c1 h.1)]
      rfl
section GA
variable {a0 m nf : Nat} {s p : Nat → Nat} {T : gh_T} {V0 V : gh_V} {B0 B : md_B} {b : Bool} {K : List Nat}
theorem st_q (h : GR a0 m nf s p V0 B0 b K V B) : ∃ y V1 x B1 B2, cr (a0 + 8) V (S_dig s p 6 0 8) = (y, V1) ∧ br B (S_num s p 6 1) = (x, B1) ∧ GR a0 m nf s p V0 B0 (b && (S_dig s p 6 0 8).isSome) (3 :: K) (gh_pa V1 (a0 + 13) 3 y) B2 ∧ ((x = -2147483648 ∨ ¬ x = -2147483648 ∧ ¬ x ≤ 8) ∧ B2 = md_pf (md_pa B1 15 3 x) 14 0 ∨ ¬ x = -2147483648 ∧ x ≤ 8 ∧ B2 = md_pa B1 15 3 x) := by
  have bad : ∀ x B1, S_dig s p 6 0 8 = none → br B (S_num s p 6 1) = (x, B1) → cb [14] [15] B B1 → (x = -2147483648 ∨ ¬ x = -2147483648 ∧ ¬ x ≤ 8) → ∃ y V1 x B1 B2, cr (a0 + 8) V (S_dig s p 6 0 8) = (y, V1) ∧ br B (S_num s p 6 1) = (x, B1) ∧ GR a0 m nf s p V0 B0 (b && (S_dig s p 6 0 8).isSome) (3 :: K) (gh_pa V1 (a0 + 13) 3 y) B2 ∧ ((x = -2147483648 ∨ ¬ x = -2147483648 ∧ ¬ x ≤ 8) ∧ B2 = md_pf (md_pa B1 15 3 x) 14 0 ∨ ¬ x = -2147483648 ∧ x ≤ 8 ∧ B2 = md_pa B1 15 3 x) := by
    intro x B1 hd hn hB1 hx
    obtain ⟨h1, h2, h3, h4, h5, h6, h7⟩ := h
    rw [hd]
    have hV : ch [(3, a0 + 8)] [a0 + 13] V (gh_pa (gh_pf V 3 (a0 + 8) 0) (a0 + 13) 3 (-2147483648)) := (ch.rf.pf (by simp)).pa (by simp)
    have hB : cb [14] [15] B (md_pf (md_pa B1 15 3 x) 14 0) := (hB1.pa (by simp)).pf (by simp)
    refine ⟨_, _, x, B1, md_pf (md_pa B1 15 3 x) 14 0, rfl, hn, ⟨h1.trans hV, h2.trans hB, h3.ch hV, h4.cb hB (by simp) (by simp), ?_, ?_, fun c => ?_⟩, Or.inl ⟨hx, rfl⟩⟩
    · rw [pa_1, pf_1, Option.isSome_none, Bool.and_false]
      rfl
    · rw [bf_1, Option.isSome_none, Bool.and_false]
      rfl
    · simp at c
  rw [num1] at bad ⊢
  by_cases c : fl p 6 = 0
  · rw [if_pos c] at bad ⊢
    exact bad (-2147483648) B (by unfold S_dig; rw [if_neg (by omega)]) rfl cb.rf (Or.inl rfl)
  · rw [if_neg c] at bad ⊢
    by_cases c1 : fl p 6 = 1 ∧ isd (s (p 6))
    · have c2 := c1.2
      unfold isd at c2
      rw [if_pos c1] at bad ⊢
      have hno : ¬ Int32.ofNat (s (p 6) - 48) = -2147483648 := none_ne (by omega)
      by_cases c8 : s (p 6) - 48 ≤ 8
      · have e : S_dig s p 6 0 8 = some (Int32.ofNat (s (p 6) - 48)) := by
          unfold S_dig
          rw [if_pos ⟨c1.1, c1.2, Nat.zero_le _, mt (nl_lt 8 8 rfl (by decide) (by omega)).mp (by omega)⟩]
        rw [e]
        obtain ⟨y, V1, x, B1, d1, d2, d3⟩ := st h (some (Int32.ofNat (s (p 6) - 48))) 3 (by decide)
        cases d2
        exact ⟨y, V1, _, _, _, d1, rfl, d3, Or.inr ⟨hno, (nl_ge 8 8 rfl (by decide) (by omega)).mpr c8, rfl⟩⟩
      · exact bad _ B (by unfold S_dig; rw [if_neg (fun h => h.2.2.2 ((nl_lt 8 8 rfl (by decide) (by omega)).mpr (by omega)))]) rfl cb.rf (Or.inr ⟨hno, mt (nl_ge 8 8 rfl (by decide) (by omega)).mp c8⟩)
    · rw [if_neg c1] at bad ⊢
      exact bad _ _ (by unfold S_dig; rw [if_neg (fun h => c1 ⟨h.1, h.2.1⟩)]) rfl (cb.rf.pf (by simp)) (Or.inl rfl)
theorem r_sat (hS : FS m s nf p) (hB : FB m s nf p B) (hf : 7 < nf) : f_X9_gga_84 B = f_X9_gga_149 (br B (S_who s p 7 1 2)).2 (br B (S_who s p 7 1 2)).1 4 := by
  have hb := hS.b hf
  have hsz : f_X9_size B 7 = some (Int32.ofNat (fl p 7), B) := r_size hS hB hf
  have hle := nd_le s (fl p 7) (p 7)
  unfold f_X9_gga_84 f_X9_gga_129 f_X9_bad S_who
  rw [hsz, Option.bind_some]
  by_cases c : fl p 7 = 0
  · rw [if_pos ((fl0 (by omega)).mpr c), if_pos c]
    rfl
  · rw [if_neg (mt (fl0 (by omega)).mp c), if_neg c]
    dsimp only
    rw [hsz, Option.bind_some]
    unfold sD bh
    by_cases c2 : 2 < fl p 7
    · rw [if_pos ((nl_lt 2 2 rfl (by decide) (by omega)).mpr c2)]
      by_cases c3 : nd s (p 7) (fl p 7) < 1 ∨ 2 < nd s (p 7) (fl p 7)
      · rw [if_pos c3]
        rfl
      · rw [if_neg c3, if_neg (show ¬ fl p 7 - nd s (p 7) (fl p 7) = 0 by omega), if_neg (show ¬ (s (p 7 + nd s (p 7) (fl p 7)) = 46 ∧ 1 ≤ fl p 7 - nd s (p 7) (fl p 7) - 1 ∧ fl p 7 - nd s (p 7) (fl p 7) - 1 ≤ 0 ∧ nd s (p 7 + nd s (p 7) (fl p 7) + 1) (fl p 7 - nd s (p 7) (fl p 7) - 1) = fl p 7 - nd s (p 7) (fl p 7) - 1) by omega)]
        rfl
    · have hdg : f_X9_digits B 7 0 = some (Int32.ofNat (nd s (p 7) (fl p 7)), B) := r_digits hS hB hf (i := 0) (by omega)
      rw [if_neg (mt (nl_lt 2 2 rfl (by decide) (by omega)).mp c2)]
      dsimp only
      rw [hdg, Option.bind_some]
      dsimp only
      rw [hsz, Option.bind_some]
      simp only [nu_eq (show nd s (p 7) (fl p 7) < 2147483648 by omega) (show fl p 7 < 2147483648 by omega)]
      by_cases c3 : nd s (p 7) (fl p 7) = fl p 7
      · have hwh : f_X9_whole B 7 0 (Int32.ofNat (fl p 7)) = some (Int32.ofNat (wh s (p 7) (fl p 7)), B) := r_whole hS hB hf (i := 0) (n := fl p 7) (by omega) (fun j hj => nd_is s (fl p 7) (p 7) j (by omega))
        rw [if_pos c3, hsz, Option.bind_some]
        dsimp only
        rw [hwh, Option.bind_some, if_neg (show ¬ (nd s (p 7) (fl p 7) < 1 ∨ 2 < nd s (p 7) (fl p 7)) by omega), if_pos (show fl p 7 - nd s (p 7) (fl p 7) = 0 by omega), c3]
        rfl
      · rw [if_neg c3]
        by_cases c4 : nd s (p 7) (fl p 7) < 1 ∨ 2 < nd s (p 7) (fl p 7)
        · rw [if_pos c4]
          rfl
        · rw [if_neg c4, if_neg (show ¬ fl p 7 - nd s (p 7) (fl p 7) = 0 by omega), if_neg (show ¬ (s (p 7 + nd s (p 7) (fl p 7)) = 46 ∧ 1 ≤ fl p 7 - nd s (p 7) (fl p 7) - 1 ∧ fl p 7 - nd s (p 7) (fl p 7) - 1 ≤ 0 ∧ nd s (p 7 + nd s (p 7) (fl p 7) + 1) (fl p 7 - nd s (p 7) (fl p 7) - 1) = fl p 7 - nd s (p 7) (fl p 7) - 1) by omega)]
          rfl

theorem one_nz {f : Nat} {l : List Nat} (hS : FS m s nf p) (hf : f < nf) (hc : ¬ fl p f = 0) : (S_one s p f l).bind (fun y => if y = -2147483648 then none else some y) = S_one s p f l := by
  have hb := hS.b hf
  have h2 := hS.2.2.2.1 (p f) (by omega)
  unfold S_one
  rw [if_neg hc]
  by_cases c1 : fl p f = 1 ∧ s (p f) ∈ l
  · rw [if_pos c1]
    exact if_neg (none_ne (by omega))
  · rw [if_neg c1]
    rfl
theorem cu_ch {k : Int32} {S : Option Int32} {y : Int32} {V1 : gh_V} (h : cr (a0 + 8) V S = (y, V1)) : ch [(3, a0 + 8)] [a0 + 13] V (gh_pa V1 (a0 + 13) k y) := by
  cases S with
  | none =>
    cases h
    exact (ch.rf.pf (by simp)).pa (by simp)
  | some z =>
    cases h
    exact ch.rf.pa (by simp)
theorem bp_2 {B : md_B} {k : Nat} {x v : Int32} : (md_pa B k x v).2 k x.toNatClampNeg = v := by rw [ba_2]; simp [upd]

set_option maxHeartbeats 2000000 in
theorem tk_gga (hs : sh a0 T) (hS : FS m s nf p) (hC : FC a0 m s nf p V) (hB : FB m s nf p B) (hg : V.1 3 (a0 + 8) = 1) : TKr a0 V B 0 (f_X4_takeGga T V (a0 + 11) (a0 + 8)) := by
  have hb79 := hS.2.2.1
  have hB13 : (md_pf B 14 1).1 13 = Int32.ofNat nf := by rw [bf_n (by decide)]; exact hB.1
  by_cases h15 : nf = 15
  · subst h15
    obtain ⟨B0, hB0⟩ : ∃ B0, B0 = md_pf B 14 1 := ⟨_, rfl⟩
    obtain ⟨nf, hnf⟩ : ∃ nf, nf = 15 := ⟨_, rfl⟩
    rw [← hnf] at hS hC hB hB13 hb79
    have hB14 : B0.1 14 = 1 := by rw [hB0, bf_1]
    have hcb : cb [14] [] B B0 := by rw [hB0]; exact cb.rf.pf (by simp)
    have hB := hB.cb hcb (by simp) (by simp)
    have h0 : GR a0 m nf s p V B0 true [] V B0 := ⟨ch.rf, cb.rf, hC, hB, hg, hB14, fun _ k hk => by simp at hk⟩
    have e1 : f_X1_time T (V) (a0 + 8) 1 = some (cr (a0 + 8) (V) (S_time s p 1)) := c_time hs hS h0.2.2.1 (f := 1) (by omega)
    have r1 : f_X9_time (B0) 1 = some (br (B0) (S_time s p 1)) := r_time hS h0.2.2.2.1 (f := 1) (by omega)
    obtain ⟨y1, V1, x1, B1, u1, v1, h1⟩ := st h0 (S_time s p 1) 0 (by decide)
    have h1 : GR a0 m nf s p V B0 _ _ (gh_pa V1 (a0 + 13) 0 y1) (md_pa B1 15 0 x1) := h1
    rw [u1] at e1
    rw [v1] at r1
    have e2 : f_X1_latitude T (gh_pa V1 (a0 + 13) 0 y1) (a0 + 8) 2 = some (cr (a0 + 8) (gh_pa V1 (a0 + 13) 0 y1) ((S_ang s p 2 4 54000000).bind (S_side s p (2 + 1) 78 83))) := c_latitude hs hS h1.2.2.1 (f := 2) (by omega)
    have r2 : f_X9_place (md_pa B1 15 0 x1) 2 4 90 [78, 83] = some (br (md_pa B1 15 0 x1) ((S_ang s p 2 4 54000000).bind (S_side s p (2 + 1) 78 83))) := r_place hS h1.2.2.2.1 (f := 2) (D := 4) (most := 90) (ab := 78) (be := 83) (by omega) (Or.inl rfl) (by decide) (by decide) (by decide) (by decide)
    obtain ⟨y2, V2, x2, B2, u2, v2, h2⟩ := st h1 ((S_ang s p 2 4 54000000).bind (S_side s p (2 + 1) 78 83)) 1 (by decide)
    have h2 : GR a0 m nf s p V B0 _ _ (gh_pa V2 (a0 + 13) 1 y2) (md_pa B2 15 1 x2) := h2
    rw [u2] at e2
    rw [v2] at r2
    have e3 : f_X1_longitude T (gh_pa V2 (a0 + 13) 1 y2) (a0 + 8) 4 = some (cr (a0 + 8) (gh_pa V2 (a0 + 13) 1 y2) ((S_ang s p 4 5 108000000).bind (S_side s p (4 + 1) 69 87))) := c_longitude hs hS h2.2.2.1 (f := 4) (by omega)
    have r3 : f_X9_place (md_pa B2 15 1 x2) 4 5 180 [69, 87] = some (br (md_pa B2 15 1 x2) ((S_ang s p 4 5 108000000).bind (S_side s p (4 + 1) 69 87))) := r_place hS h2.2.2.2.1 (f := 4) (D := 5) (most := 180) (ab := 69) (be := 87) (by omega) (Or.inr rfl) (by decide) (by decide) (by decide) (by decide)
    obtain ⟨y3, V3, x3, B3, u3, v3, h3⟩ := st h2 ((S_ang s p 4 5 108000000).bind (S_side s p (4 + 1) 69 87)) 2 (by decide)
    have h3 : GR a0 m nf s p V B0 _ _ (gh_pa V3 (a0 + 13) 2 y3) (md_pa B3 15 2 x3) := h3
    rw [u3] at e3
    rw [v3] at r3
    have e4 : f_X1_digit T (gh_pa V3 (a0 + 13) 2 y3) (a0 + 8) 6 0 8 = some (cr (a0 + 8) (gh_pa V3 (a0 + 13) 2 y3) (S_dig s p 6 0 8)) := c_digit hs hS h3.2.2.1 (f := 6) (by omega) (least := 0) (by decide) 8
    have r4 : f_X9_number (md_pa B3 15 2 x3) 6 1 = some (br (md_pa B3 15 2 x3) (S_num s p 6 1)) := r_number hS h3.2.2.2.1 (f := 6) (by omega) (n := 1) (by decide)
    obtain ⟨y4, V4, x4, B4, C4, u4, v4, h4, k4⟩ := st_q h3
    rw [u4] at e4
    rw [v4] at r4
    have e5 : f_X1_whole T (gh_pa V4 (a0 + 13) 3 y4) (a0 + 8) 7 1 2 = some (cr (a0 + 8) (gh_pa V4 (a0 + 13) 3 y4) (S_who s p 7 1 2)) := c_whole hs hS h4.2.2.1 (f := 7) (by omega) (least := 1) (most := 2) (by decide) (by decide)
    have r5 : f_X9_gga_84 (C4) = f_X9_gga_149 (br (C4) (S_who s p 7 1 2)).2 (br (C4) (S_who s p 7 1 2)).1 4 := r_sat hS h4.2.2.2.1 (by omega)
    obtain ⟨y5, V5, x5, B5, u5, v5, h5⟩ := st h4 (S_who s p 7 1 2) 4 (by decide)
    have h5 : GR a0 m nf s p V B0 _ _ (gh_pa V5 (a0 + 13) 4 y5) (md_pa B5 15 4 x5) := h5
    rw [u5] at e5
    rw [v5] at r5
    have e6 : f_X1_decimal T (gh_pa V5 (a0 + 13) 4 y5) (a0 + 8) 8 2 2 = some (cr (a0 + 8) (gh_pa V5 (a0 + 13) 4 y5) (S_dec s p 8 2 2)) := c_decimal hs hS h5.2.2.1 (f := 8) (by omega) (d := 2) (w := 2) (by decide) (by decide) (by decide)
    have r6 : f_X9_decimal (md_pa B5 15 4 x5) 8 2 2 0 = some (br (md_pa B5 15 4 x5) (S_dec s p 8 2 2)) := r_decimal hS h5.2.2.2.1 (f := 8) (by omega) (d := 2) (w := 2) (by decide) (by decide)
    obtain ⟨y6, V6, x6, B6, u6, v6, h6⟩ := st h5 (S_dec s p 8 2 2) 5 (by decide)
    have h6 : GR a0 m nf s p V B0 _ _ (gh_pa V6 (a0 + 13) 5 y6) (md_pa B6 15 5 x6) := h6
    rw [u6] at e6
    rw [v6] at r6
    have e7 : f_X1_signed T (gh_pa V6 (a0 + 13) 5 y6) (a0 + 8) 9 1 5 = some (cr (a0 + 8) (gh_pa V6 (a0 + 13) 5 y6) (S_sgn s p 9 1 5)) := c_signed hs hS h6.2.2.1 (f := 9) (by omega) (d := 1) (w := 5) (by decide) (by decide) (by decide)
    have r7_0 : f_X9_decimal (md_pa B6 15 5 x6) 9 1 5 1 = some (br (md_pa B6 15 5 x6) (S_sgn s p 9 1 5)) := r_signed hS h6.2.2.2.1 (f := 9) (by omega) (d := 1) (w := 5) (by decide) (by decide)
    have r7_m : f_X9_measured (br (md_pa B6 15 5 x6) (S_sgn s p 9 1 5)).2 (br (md_pa B6 15 5 x6) (S_sgn s p 9 1 5)).1 10 [77] = some (br (md_pa B6 15 5 x6) ((S_sgn s p 9 1 5).bind (S_meas s p 10 77))) := r_measured hS h6.2.2.2.1 (f := 10) (u := 77) (by omega) (by decide) _
    obtain ⟨y7, V7, x7, B7, u7, v7, h7⟩ := st_u h6 (S_sgn s p 9 1 5) (S_meas s p 10 77) (U_unit s p 10 77) (meas_u (by decide) (sgn_u (f := 9) (by decide))) 6 (by decide)
    rw [u7] at e7
    rw [v7] at r7_m
    have t7 : f_X1_checkUnit T (gh_pa V7 (a0 + 13) 6 y7) (a0 + 8) 10 77 = some (if U_unit s p 10 77 then gh_pa V7 (a0 + 13) 6 y7 else gh_pf (gh_pa V7 (a0 + 13) 6 y7) 3 (a0 + 8) 0) := c_unit hs hS (FC.ch (h6.2.2.1) (cu_ch u7)) (f := 10) (u := 77) (by omega) (by decide) (by decide)
    obtain ⟨W7, hW7⟩ : ∃ W, W = (if U_unit s p 10 77 then gh_pa V7 (a0 + 13) 6 y7 else gh_pf (gh_pa V7 (a0 + 13) 6 y7) 3 (a0 + 8) 0) := ⟨_, rfl⟩
    have h7 : GR a0 m nf s p V B0 _ _ (if U_unit s p 10 77 then gh_pa V7 (a0 + 13) 6 y7 else gh_pf (gh_pa V7 (a0 + 13) 6 y7) 3 (a0 + 8) 0) (md_pa B7 15 6 x7) := h7
    rw [← hW7] at h7
    rw [← hW7] at t7
    have e8 : f_X1_signed T (W7) (a0 + 8) 11 1 4 = some (cr (a0 + 8) (W7) (S_sgn s p 11 1 4)) := c_signed hs hS h7.2.2.1 (f := 11) (by omega) (d := 1) (w := 4) (by decide) (by decide) (by decide)
    have r8_0 : f_X9_decimal (md_pa B7 15 6 x7) 11 1 4 1 = some (br (md_pa B7 15 6 x7) (S_sgn s p 11 1 4)) := r_signed hS h7.2.2.2.1 (f := 11) (by omega) (d := 1) (w := 4) (by decide) (by decide)
    have r8_m : f_X9_measured (br (md_pa B7 15 6 x7) (S_sgn s p 11 1 4)).2 (br (md_pa B7 15 6 x7) (S_sgn s p 11 1 4)).1 12 [77] = some (br (md_pa B7 15 6 x7) ((S_sgn s p 11 1 4).bind (S_meas s p 12 77))) := r_measured hS h7.2.2.2.1 (f := 12) (u := 77) (by omega) (by decide) _
    obtain ⟨y8, V8, x8, B8, u8, v8, h8⟩ := st_u h7 (S_sgn s p 11 1 4) (S_meas s p 12 77) (U_unit s p 12 77) (meas_u (by decide) (sgn_u (f := 11) (by decide))) 7 (by decide)
    rw [u8] at e8
    rw [v8] at r8_m
    have t8 : f_X1_checkUnit T (gh_pa V8 (a0 + 13) 7 y8) (a0 + 8) 12 77 = some (if U_unit s p 12 77 then gh_pa V8 (a0 + 13) 7 y8 else gh_pf (gh_pa V8 (a0 + 13) 7 y8) 3 (a0 + 8) 0) := c_unit hs hS (FC.ch (h7.2.2.1) (cu_ch u8)) (f := 12) (u := 77) (by omega) (by decide) (by decide)
    obtain ⟨W8, hW8⟩ : ∃ W, W = (if U_unit s p 12 77 then gh_pa V8 (a0 + 13) 7 y8 else gh_pf (gh_pa V8 (a0 + 13) 7 y8) 3 (a0 + 8) 0) := ⟨_, rfl⟩
    have h8 : GR a0 m nf s p V B0 _ _ (if U_unit s p 12 77 then gh_pa V8 (a0 + 13) 7 y8 else gh_pf (gh_pa V8 (a0 + 13) 7 y8) 3 (a0 + 8) 0) (md_pa B8 15 7 x8) := h8
    rw [← hW8] at h8
    rw [← hW8] at t8
    have e9 : f_X1_decimal T (W8) (a0 + 8) 13 1 4 = some (cr (a0 + 8) (W8) (S_dec s p 13 1 4)) := c_decimal hs hS h8.2.2.1 (f := 13) (by omega) (d := 1) (w := 4) (by decide) (by decide) (by decide)
    have r9 : f_X9_decimal (md_pa B8 15 7 x8) 13 1 4 0 = some (br (md_pa B8 15 7 x8) (S_dec s p 13 1 4)) := r_decimal hS h8.2.2.2.1 (f := 13) (by omega) (d := 1) (w := 4) (by decide) (by decide)
    obtain ⟨y9, V9, x9, B9, u9, v9, h9⟩ := st h8 (S_dec s p 13 1 4) 8 (by decide)
    have h9 : GR a0 m nf s p V B0 _ _ (gh_pa V9 (a0 + 13) 8 y9) (md_pa B9 15 8 x9) := h9
    rw [u9] at e9
    rw [v9] at r9
    have e10 : f_X1_whole T (gh_pa V9 (a0 + 13) 8 y9) (a0 + 8) 14 4 4 = some (cr (a0 + 8) (gh_pa V9 (a0 + 13) 8 y9) (S_who s p 14 4 4)) := c_whole hs hS h9.2.2.1 (f := 14) (by omega) (least := 4) (most := 4) (by decide) (by decide)
    have r10 : f_X9_number (md_pa B9 15 8 x9) 14 4 = some (br (md_pa B9 15 8 x9) (S_who s p 14 4 4)) := r_number hS h9.2.2.2.1 (f := 14) (by omega) (n := 4) (by decide)
    obtain ⟨y10, V10, x10, B10, u10, v10, h10⟩ := st h9 (S_who s p 14 4 4) 9 (by decide)
    have h10 : GR a0 m nf s p V B0 _ _ (gh_pa V10 (a0 + 13) 9 y10) (md_pa B10 15 9 x10) := h10
    rw [u10] at e10
    rw [v10] at r10
    have n0 : sv_inb (0 : Int32) 18 = true := by decide
    have n1 : sv_inb (1 : Int32) 18 = true := by decide
    have n2 : sv_inb (2 : Int32) 18 = true := by decide
    have n3 : sv_inb (3 : Int32) 18 = true := by decide
    have n4 : sv_inb (4 : Int32) 18 = true := by decide
    have n5 : sv_inb (5 : Int32) 18 = true := by decide
    have n6 : sv_inb (6 : Int32) 18 = true := by decide
    have n7 : sv_inb (7 : Int32) 18 = true := by decide
    have n8 : sv_inb (8 : Int32) 18 = true := by decide
    have n9 : sv_inb (9 : Int32) 18 = true := by decide
    have gt : ∀ {α : Type} (y : Option α), sv_g true y = y := fun y => sv_g_t rfl
    have hcl : f_X4_takeGga T V (a0 + 11) (a0 + 8) = (f_X4_settle T (gh_pa V10 (a0 + 13) 9 y10) (a0 + 11) ((gh_pa V10 (a0 + 13) 9 y10).1 3 (a0 + 8)) 0).bind (fun q171 => sv_g (decide (vp_nar .boolean q171.1 = q171.1)) (some (q171.1, q171.2))) := by
      unfold f_X4_takeGga
      rw [if_pos (by rw [hC.1, hnf]; rfl)]
      simp only [hs.r1_11, Option.bind_some, hs.l13, n0, n1, n2, n3, n4, n5, n6, n7, n8, n9, gt, e1, e2, e3, e4, e5, e6, e7, t7, e8, t8, e9, e10]
    have hrf : f_X9_gga_84 C4 = some (md_pa B10 15 9 x10) := by
      rw [r5]
      unfold f_X9_gga_149
      simp only [Option.bind_some, n4, gt, r6, r7_0, r7_m, r8_0, r8_m, r9, r10]
    have hrq : f_X9_gga B0 = some (md_pa B10 15 9 x10) := by
      unfold f_X9_gga f_X9_gga_79
      simp only [r1, r2, r3, r4, Option.bind_some, bp_2]
      rcases k4 with ⟨kx, kc⟩ | ⟨k1, k2, kc⟩
      · rw [← kc]
        rcases kx with kx | ⟨k1, k2⟩
        · rw [if_pos kx]
          exact hrf
        · rw [if_neg k1, if_neg k2]
          exact hrf
      · rw [if_neg k1, if_pos k2, ← kc]
        exact hrf
    have hfit : f_X9_fits B 0 = f_X9_fits_119 (md_pa B10 15 9 x10) := by
      unfold f_X9_fits
      rw [if_pos rfl, if_pos (by rw [hB13, hnf]; rfl), ← hB0, hrq, Option.bind_some]
    rw [hcl]
    refine tk_end hs h10 hcb hfit [0, 1, 2, 3, 4, 5, 6, 7, 8, 9] (n1 := _) (n2 := _) rfl (by decide) (by decide) (by decide) (fun B2 => ?_) rfl
    obtain ⟨B3, g1, g2, g3⟩ := keep_s (B := B2) (lo := 0) (hi := 9) (by decide) (by decide)
    refine ⟨B3, ?_, g2, fun e he => ?_, fun e he hne => ?_⟩
    · have g1 : f_X9_keep B2 0 9 = some B3 := g1
      unfold f_X9_taken
      rw [if_pos rfl, g1]
      rfl
    · rw [g3, if_pos]
      simp at he
      omega
    · rw [g3, if_neg]
      simp at hne
      omega
  · have hno : f_X4_takeGga T V (a0 + 11) (a0 + 8) = some (0, V) := by
      unfold f_X4_takeGga
      rw [hC.1, if_neg (mt (nl_eq 15 15 rfl (by decide) (by omega)).mp h15)]
    rw [hno]
    refine tk_no ?_
    unfold f_X9_fits
    rw [if_pos rfl, hB13, if_neg (mt (nl_eq 15 15 rfl (by decide) (by omega)).mp h15)]
set_option maxHeartbeats 2000000 in
theorem tk_vtg (hs : sh a0 T) (hS : FS m s nf p) (hC : FC a0 m s nf p V) (hB : FB m s nf p B) (hg : V.1 3 (a0 + 8) = 1) : TKr a0 V B 2 (f_X4_takeVtg T V (a0 + 11) (a0 + 8)) := by
  have hb79 := hS.2.2.1
  have hB13 : (md_pf B 14 1).1 13 = Int32.ofNat nf := by rw [bf_n (by decide)]; exact hB.1
  by_cases h15 : nf = 9 ∨ nf = 10
  · obtain ⟨B0, hB0⟩ : ∃ B0, B0 = md_pf B 14 1 := ⟨_, rfl⟩
    have hB14 : B0.1 14 = 1 := by rw [hB0, bf_1]
    have hcb : cb [14] [] B B0 := by rw [hB0]; exact cb.rf.pf (by simp)
    have hB := hB.cb hcb (by simp) (by simp)
    have h0 : GR a0 m nf s p V B0 true [] V B0 := ⟨ch.rf, cb.rf, hC, hB, hg, hB14, fun _ k hk => by simp at hk⟩
    have e1 : f_X1_course T (V) (a0 + 8) 1 = some (cr (a0 + 8) (V) (S_cou s p 1)) := c_course hs hS h0.2.2.1 (f := 1) (by omega)
    have r1_0 : f_X9_decimal (B0) 1 2 3 0 = some (br (B0) (S_dec s p 1 2 3)) := r_decimal hS h0.2.2.2.1 (f := 1) (by omega) (d := 2) (w := 3) (by decide) (by decide)
    have r1_1 : f_X9_below (br (B0) (S_dec s p 1 2 3)).2 (br (B0) (S_dec s p 1 2 3)).1 35999 = some (br (B0) ((S_dec s p 1 2 3).bind (fun y => if Int32.ofNat 35999 < y then none else some y))) := r_below _ 35999 (by decide)
    rw [show ((S_dec s p 1 2 3).bind (fun y => if Int32.ofNat 35999 < y then none else some y)) = S_cou s p 1 from cou_b 1] at r1_1
    have r1_m : f_X9_measured (br (B0) (S_cou s p 1)).2 (br (B0) (S_cou s p 1)).1 2 [84] = some (br (B0) ((S_cou s p 1).bind (S_meas s p 2 84))) := r_measured hS h0.2.2.2.1 (f := 2) (u := 84) (by omega) (by decide) _
    obtain ⟨y1, V1, x1, B1, u1, v1, h1⟩ := st_u h0 (S_cou s p 1) (S_meas s p 2 84) (U_unit s p 2 84) (meas_u (by decide) (cou_u (f := 1))) 12 (by decide)
    rw [u1] at e1
    rw [v1] at r1_m
    have t1 : f_X1_checkUnit T (gh_pa V1 (a0 + 13) 12 y1) (a0 + 8) 2 84 = some (if U_unit s p 2 84 then gh_pa V1 (a0 + 13) 12 y1 else gh_pf (gh_pa V1 (a0 + 13) 12 y1) 3 (a0 + 8) 0) := c_unit hs hS (FC.ch (h0.2.2.1) (cu_ch u1)) (f := 2) (u := 84) (by omega) (by decide) (by decide)
    obtain ⟨W1, hW1⟩ : ∃ W, W = (if U_unit s p 2 84 then gh_pa V1 (a0 + 13) 12 y1 else gh_pf (gh_pa V1 (a0 + 13) 12 y1) 3 (a0 + 8) 0) := ⟨_, rfl⟩
    have h1 : GR a0 m nf s p V B0 _ _ (if U_unit s p 2 84 then gh_pa V1 (a0 + 13) 12 y1 else gh_pf (gh_pa V1 (a0 + 13) 12 y1) 3 (a0 + 8) 0) (md_pa B1 15 12 x1) := h1
    rw [← hW1] at h1
    rw [← hW1] at t1
    have e2 : f_X1_course T (W1) (a0 + 8) 3 = some (cr (a0 + 8) (W1) (S_cou s p 3)) := c_course hs hS h1.2.2.1 (f := 3) (by omega)
    have r2_0 : f_X9_decimal (md_pa B1 15 12 x1) 3 2 3 0 = some (br (md_pa B1 15 12 x1) (S_dec s p 3 2 3)) := r_decimal hS h1.2.2.2.1 (f := 3) (by omega) (d := 2) (w := 3) (by decide) (by decide)
    have r2_1 : f_X9_below (br (md_pa B1 15 12 x1) (S_dec s p 3 2 3)).2 (br (md_pa B1 15 12 x1) (S_dec s p 3 2 3)).1 35999 = some (br (md_pa B1 15 12 x1) ((S_dec s p 3 2 3).bind (fun y => if Int32.ofNat 35999 < y then none else some y))) := r_below _ 35999 (by decide)
    rw [show ((S_dec s p 3 2 3).bind (fun y => if Int32.ofNat 35999 < y then none else some y)) = S_cou s p 3 from cou_b 3] at r2_1
    have r2_m : f_X9_measured (br (md_pa B1 15 12 x1) (S_cou s p 3)).2 (br (md_pa B1 15 12 x1) (S_cou s p 3)).1 4 [77] = some (br (md_pa B1 15 12 x1) ((S_cou s p 3).bind (S_meas s p 4 77))) := r_measured hS h1.2.2.2.1 (f := 4) (u := 77) (by omega) (by decide) _
    obtain ⟨y2, V2, x2, B2, u2, v2, h2⟩ := st_u h1 (S_cou s p 3) (S_meas s p 4 77) (U_unit s p 4 77) (meas_u (by decide) (cou_u (f := 3))) 15 (by decide)
    rw [u2] at e2
    rw [v2] at r2_m
    have t2 : f_X1_checkUnit T (gh_pa V2 (a0 + 13) 15 y2) (a0 + 8) 4 77 = some (if U_unit s p 4 77 then gh_pa V2 (a0 + 13) 15 y2 else gh_pf (gh_pa V2 (a0 + 13) 15 y2) 3 (a0 + 8) 0) := c_unit hs hS (FC.ch (h1.2.2.1) (cu_ch u2)) (f := 4) (u := 77) (by omega) (by decide) (by decide)
    obtain ⟨W2, hW2⟩ : ∃ W, W = (if U_unit s p 4 77 then gh_pa V2 (a0 + 13) 15 y2 else gh_pf (gh_pa V2 (a0 + 13) 15 y2) 3 (a0 + 8) 0) := ⟨_, rfl⟩
    have h2 : GR a0 m nf s p V B0 _ _ (if U_unit s p 4 77 then gh_pa V2 (a0 + 13) 15 y2 else gh_pf (gh_pa V2 (a0 + 13) 15 y2) 3 (a0 + 8) 0) (md_pa B2 15 15 x2) := h2
    rw [← hW2] at h2
    rw [← hW2] at t2
    have e3 : f_X1_decimal T (W2) (a0 + 8) 5 2 4 = some (cr (a0 + 8) (W2) (S_dec s p 5 2 4)) := c_decimal hs hS h2.2.2.1 (f := 5) (by omega) (d := 2) (w := 4) (by decide) (by decide) (by decide)
    have r3_0 : f_X9_decimal (md_pa B2 15 15 x2) 5 2 4 0 = some (br (md_pa B2 15 15 x2) (S_dec s p 5 2 4)) := r_decimal hS h2.2.2.2.1 (f := 5) (by omega) (d := 2) (w := 4) (by decide) (by decide)
    have r3_m : f_X9_measured (br (md_pa B2 15 15 x2) (S_dec s p 5 2 4)).2 (br (md_pa B2 15 15 x2) (S_dec s p 5 2 4)).1 6 [78] = some (br (md_pa B2 15 15 x2) ((S_dec s p 5 2 4).bind (S_meas s p 6 78))) := r_measured hS h2.2.2.2.1 (f := 6) (u := 78) (by omega) (by decide) _
    obtain ⟨y3, V3, x3, B3, u3, v3, h3⟩ := st_u h2 (S_dec s p 5 2 4) (S_meas s p 6 78) (U_unit s p 6 78) (meas_u (by decide) (dec_u (f := 5) (by decide))) 11 (by decide)
    rw [u3] at e3
    rw [v3] at r3_m
    have t3 : f_X1_checkUnit T (gh_pa V3 (a0 + 13) 11 y3) (a0 + 8) 6 78 = some (if U_unit s p 6 78 then gh_pa V3 (a0 + 13) 11 y3 else gh_pf (gh_pa V3 (a0 + 13) 11 y3) 3 (a0 + 8) 0) := c_unit hs hS (FC.ch (h2.2.2.1) (cu_ch u3)) (f := 6) (u := 78) (by omega) (by decide) (by decide)
    obtain ⟨W3, hW3⟩ : ∃ W, W = (if U_unit s p 6 78 then gh_pa V3 (a0 + 13) 11 y3 else gh_pf (gh_pa V3 (a0 + 13) 11 y3) 3 (a0 + 8) 0) := ⟨_, rfl⟩
    have h3 : GR a0 m nf s p V B0 _ _ (if U_unit s p 6 78 then gh_pa V3 (a0 + 13) 11 y3 else gh_pf (gh_pa V3 (a0 + 13) 11 y3) 3 (a0 + 8) 0) (md_pa B3 15 11 x3) := h3
    rw [← hW3] at h3
    rw [← hW3] at t3
    have e4 : f_X1_decimal T (W3) (a0 + 8) 7 2 4 = some (cr (a0 + 8) (W3) (S_dec s p 7 2 4)) := c_decimal hs hS h3.2.2.1 (f := 7) (by omega) (d := 2) (w := 4) (by decide) (by decide) (by decide)
    have r4_0 : f_X9_decimal (md_pa B3 15 11 x3) 7 2 4 0 = some (br (md_pa B3 15 11 x3) (S_dec s p 7 2 4)) := r_decimal hS h3.2.2.2.1 (f := 7) (by omega) (d := 2) (w := 4) (by decide) (by decide)
    have r4_m : f_X9_measured (br (md_pa B3 15 11 x3) (S_dec s p 7 2 4)).2 (br (md_pa B3 15 11 x3) (S_dec s p 7 2 4)).1 8 [75] = some (br (md_pa B3 15 11 x3) ((S_dec s p 7 2 4).bind (S_meas s p 8 75))) := r_measured hS h3.2.2.2.1 (f := 8) (u := 75) (by omega) (by decide) _
    obtain ⟨y4, V4, x4, B4, u4, v4, h4⟩ := st_u h3 (S_dec s p 7 2 4) (S_meas s p 8 75) (U_unit s p 8 75) (meas_u (by decide) (dec_u (f := 7) (by decide))) 16 (by decide)
    rw [u4] at e4
    rw [v4] at r4_m
    have t4 : f_X1_checkUnit T (gh_pa V4 (a0 + 13) 16 y4) (a0 + 8) 8 75 = some (if U_unit s p 8 75 then gh_pa V4 (a0 + 13) 16 y4 else gh_pf (gh_pa V4 (a0 + 13) 16 y4) 3 (a0 + 8) 0) := c_unit hs hS (FC.ch (h3.2.2.1) (cu_ch u4)) (f := 8) (u := 75) (by omega) (by decide) (by decide)
    obtain ⟨W4, hW4⟩ : ∃ W, W = (if U_unit s p 8 75 then gh_pa V4 (a0 + 13) 16 y4 else gh_pf (gh_pa V4 (a0 + 13) 16 y4) 3 (a0 + 8) 0) := ⟨_, rfl⟩
    have h4 : GR a0 m nf s p V B0 _ _ (if U_unit s p 8 75 then gh_pa V4 (a0 + 13) 16 y4 else gh_pf (gh_pa V4 (a0 + 13) 16 y4) 3 (a0 + 8) 0) (md_pa B4 15 16 x4) := h4
    rw [← hW4] at h4
    rw [← hW4] at t4
    have e5 : f_X1_oneOf T (W4) (a0 + 8) 9 [65, 68, 69, 77, 78, 83] = some (cr (a0 + 8) (W4) (if nf = 10 then S_one s p 9 [65, 68, 69, 77, 78, 83] else some (-2147483648))) := by
      by_cases hc : nf = 10
      · rw [if_pos hc]; exact c_oneOf hs hS h4.2.2.1 (f := 9) (by omega) [65, 68, 69, 77, 78, 83] (by decide) (by decide)
      · rw [if_neg hc]; exact c_oneOf0 hS h4.2.2.1 (f := 9) (by omega) (by decide) _
    have r5 : (if (md_pa B4 15 16 x4).1 13 = 10 then (f_X9_one (md_pa B4 15 16 x4) 9 [65, 68, 69, 77, 78, 83]).bind (fun q123 => f_X9_vtg_131 q123.2 q123.1 17) else f_X9_vtg_131 (md_pa B4 15 16 x4) (-2147483648) 17) = f_X9_vtg_131 (br (md_pa B4 15 16 x4) (if nf = 10 then S_one s p 9 [65, 68, 69, 77, 78, 83] else some (-2147483648))).2 (br (md_pa B4 15 16 x4) (if nf = 10 then S_one s p 9 [65, 68, 69, 77, 78, 83] else some (-2147483648))).1 17 := by
      rw [h4.2.2.2.1.1]
      by_cases hc : nf = 10
      · have ho : f_X9_one (md_pa B4 15 16 x4) 9 [65, 68, 69, 77, 78, 83] = some (br (md_pa B4 15 16 x4) (S_one s p 9 [65, 68, 69, 77, 78, 83])) := r_one hS h4.2.2.2.1 (f := 9) (by omega) [65, 68, 69, 77, 78, 83] (by decide) (by decide)
        rw [if_pos hc, if_pos (by rw [hc]; rfl), ho, Option.bind_some]
      · rw [if_neg hc, if_neg (mt (nl_eq 10 10 rfl (by decide) (by omega)).mp hc)]; rfl
    obtain ⟨y5, V5, x5, B5, u5, v5, h5⟩ := st h4 (if nf = 10 then S_one s p 9 [65, 68, 69, 77, 78, 83] else some (-2147483648)) 17 (by decide)
    have h5 : GR a0 m nf s p V B0 _ _ (gh_pa V5 (a0 + 13) 17 y5) (md_pa B5 15 17 x5) := h5
    rw [u5] at e5
    rw [v5] at r5
    have n11 : sv_inb (11 : Int32) 18 = true := by decide
    have n12 : sv_inb (12 : Int32) 18 = true := by decide
    have n15 : sv_inb (15 : Int32) 18 = true := by decide
    have n16 : sv_inb (16 : Int32) 18 = true := by decide
    have n17 : sv_inb (17 : Int32) 18 = true := by decide
    have gt : ∀ {α : Type} (y : Option α), sv_g true y = y := fun y => sv_g_t rfl
    have hcl : f_X4_takeVtg_20 T (a0 + 11) (a0 + 8) V = (f_X4_settle T (gh_pa V5 (a0 + 13) 17 y5) (a0 + 11) ((gh_pa V5 (a0 + 13) 17 y5).1 3 (a0 + 8)) 2).bind (fun q126 => sv_g (decide (vp_nar .boolean q126.1 = q126.1)) (some (q126.1, q126.2))) := by
      unfold f_X4_takeVtg_20
      simp only [hs.r1_11, Option.bind_some, hs.l13, n11, n12, n15, n16, n17, gt, e1, t1, e2, t2, e3, t3, e4, t4, e5]
    have hcl2 : f_X4_takeVtg T V (a0 + 11) (a0 + 8) = f_X4_takeVtg_20 T (a0 + 11) (a0 + 8) V := by
      unfold f_X4_takeVtg
      rw [hC.1]
      rcases h15 with h | h
      · rw [if_pos (by rw [h]; rfl)]
      · rw [if_neg (by rw [h]; decide), if_pos (by rw [h]; rfl)]
    have hrf : f_X9_vtg B0 = some (md_pa B5 15 17 x5) := by
      unfold f_X9_vtg
      simp only [r1_0, r1_1, r1_m, r2_0, r2_1, r2_m, r3_0, r3_m, r4_0, r4_m, Option.bind_some]
      rw [r5]
      unfold f_X9_vtg_131
      exact sv_g_t n17
    have hfit : f_X9_fits B 2 = f_X9_fits_119 (md_pa B5 15 17 x5) := by
      unfold f_X9_fits f_X9_fits_97
      rw [if_neg (by decide), if_neg (by decide), if_pos rfl, hB13, ← hB0, hrf, Option.bind_some]
      rcases h15 with h | h
      · rw [if_pos (by rw [h]; rfl)]
      · rw [if_neg (by rw [h]; decide), if_pos (by rw [h]; rfl)]
    rw [hcl2, hcl]
    refine tk_end hs h5 hcb hfit [11, 12, 15, 16, 17] (n1 := _) (n2 := _) rfl (by decide) (by decide) (by decide) (fun B2 => ?_) rfl
    obtain ⟨B3, g1, g2, g3⟩ := keep_s (B := B2) (lo := 11) (hi := 12) (by decide) (by decide)
    obtain ⟨B4, f1, f2, f3⟩ := keep_s (B := B3) (lo := 15) (hi := 17) (by decide) (by decide)
    refine ⟨B4, ?_, g2.trans f2, fun e he => ?_, fun e he hne => ?_⟩
    · have g1 : f_X9_keep B2 11 12 = some B3 := g1
      have f1 : f_X9_keep B3 15 17 = some B4 := f1
      unfold f_X9_taken
      rw [if_neg (by decide), if_neg (by decide), if_pos rfl, g1, Option.bind_some, f1]
      rfl
    · simp at he
      rw [f3, g3, g2.2 15 (by simp)]
      by_cases c : 15 ≤ e ∧ e ≤ 17
      · rw [if_pos c]
      · rw [if_neg c, if_pos (by omega)]
    · simp at hne
      rw [f3, g3, if_neg (by omega), if_neg (by omega)]
  · have hno : f_X4_takeVtg T V (a0 + 11) (a0 + 8) = some (0, V) := by
      unfold f_X4_takeVtg
      rw [hC.1, if_neg (mt (nl_eq 9 9 rfl (by decide) (by omega)).mp (by omega)), if_neg (mt (nl_eq 10 10 rfl (by decide) (by omega)).mp (by omega))]
    rw [hno]
    refine tk_no ?_
    unfold f_X9_fits
    rw [if_neg (by decide), if_neg (by decide), if_pos rfl, hB13, if_neg (mt (nl_eq 9 9 rfl (by decide) (by omega)).mp (by omega)), if_neg (mt (nl_eq 10 10 rfl (by decide) (by omega)).mp (by omega))]
set_option maxHeartbeats 2000000 in
theorem tk_rmc (hs : sh a0 T) (hS : FS m s nf p) (hC : FC a0 m s nf p V) (hB : FB m s nf p B) (hg : V.1 3 (a0 + 8) = 1) : TKr a0 V B 1 (f_X4_takeRmc T V (a0 + 11) (a0 + 8)) := by
  have hb79 := hS.2.2.1
  have hB13 : (md_pf B 14 1).1 13 = Int32.ofNat nf := by rw [bf_n (by decide)]; exact hB.1
  by_cases h15 : nf = 12 ∨ nf = 13
  · obtain ⟨B0, hB0⟩ : ∃ B0, B0 = md_pf B 14 1 := ⟨_, rfl⟩
    have hB14 : B0.1 14 = 1 := by rw [hB0, bf_1]
    have hcb : cb [14] [] B B0 := by rw [hB0]; exact cb.rf.pf (by simp)
    have hB := hB.cb hcb (by simp) (by simp)
    have h0 : GR a0 m nf s p V B0 true [] V B0 := ⟨ch.rf, cb.rf, hC, hB, hg, hB14, fun _ k hk => by simp at hk⟩
    have e1 : f_X1_time T (V) (a0 + 8) 1 = some (cr (a0 + 8) (V) (S_time s p 1)) := c_time hs hS h0.2.2.1 (f := 1) (by omega)
    have r1 : f_X9_time (B0) 1 = some (br (B0) (S_time s p 1)) := r_time hS h0.2.2.2.1 (f := 1) (by omega)
    obtain ⟨y1, V1, x1, B1, u1, v1, h1⟩ := st h0 (S_time s p 1) 0 (by decide)
    have h1 : GR a0 m nf s p V B0 _ _ (gh_pa V1 (a0 + 13) 0 y1) (md_pa B1 15 0 x1) := h1
    rw [u1] at e1
    rw [v1] at r1
    have e2 : ¬ fl p 2 = 0 → f_X1_oneOf T (gh_pa V1 (a0 + 13) 0 y1) (a0 + 8) 2 [65, 86] = some (cr (a0 + 8) (gh_pa V1 (a0 + 13) 0 y1) ((S_one s p 2 [65, 86]).bind (fun y => if y = -2147483648 then none else some y))) := by
      intro hc
      rw [one_nz hS (by omega) hc]
      exact c_oneOf hs hS h1.2.2.1 (f := 2) (by omega) [65, 86] (by decide) (by decide)
    have r2 : ((f_X9_one (md_pa B1 15 0 x1) 2 [65, 86]).bind (fun q15 => if q15.1 = -2147483648 then f_X9_rmc_30 (md_pf q15.2 14 0) q15.1 else f_X9_rmc_30 q15.2 q15.1)) = f_X9_rmc_30 (br (md_pa B1 15 0 x1) ((S_one s p 2 [65, 86]).bind (fun y => if y = -2147483648 then none else some y))).2 (br (md_pa B1 15 0 x1) ((S_one s p 2 [65, 86]).bind (fun y => if y = -2147483648 then none else some y))).1 := by
      have ho : f_X9_one (md_pa B1 15 0 x1) 2 [65, 86] = some (br (md_pa B1 15 0 x1) (S_one s p 2 [65, 86])) := r_one hS h1.2.2.2.1 (f := 2) (by omega) [65, 86] (by decide) (by decide)
      rw [ho, Option.bind_some]
      cases S_one s p 2 [65, 86] with
      | none => exact (if_pos rfl).trans (by rw [show (br (md_pa B1 15 0 x1) none).2 = md_pf (md_pa B1 15 0 x1) 14 0 from rfl, bf_two]; rfl)
      | some y =>
        show (if y = -2147483648 then f_X9_rmc_30 (md_pf (md_pa B1 15 0 x1) 14 0) y else f_X9_rmc_30 (md_pa B1 15 0 x1) y) = f_X9_rmc_30 (br (md_pa B1 15 0 x1) (if y = -2147483648 then none else some y)).2 (br (md_pa B1 15 0 x1) (if y = -2147483648 then none else some y)).1
        by_cases hc : y = -2147483648
        · rw [if_pos hc, if_pos hc, hc]; rfl
        · rw [if_neg hc, if_neg hc]; rfl
    obtain ⟨y2, V2, x2, B2, u2, v2, w2, h2⟩ := st_0 h1 ((S_one s p 2 [65, 86]).bind (fun y => if y = -2147483648 then none else some y))
    rw [u2] at e2
    rw [v2] at r2
    have hx : (if y2 = 65 then (1 : Int32) else 0) = (if x2 = 65 then (1 : Int32) else 0) ∨ ((S_one s p 2 [65, 86]).bind (fun y => if y = -2147483648 then none else some y)) = none := by
      cases hc : ((S_one s p 2 [65, 86]).bind (fun y => if y = -2147483648 then none else some y)) with
      | none => exact Or.inr rfl
      | some z => rw [hc] at w2; rw [(w2 rfl).1]; exact Or.inl rfl
    have h2a := st_a h2 10 (by decide) (if y2 = 65 then 1 else 0) (if x2 = 65 then 1 else 0) (fun hb => hx.resolve_right (fun hn => by rw [hn] at hb; simp at hb))
    obtain ⟨Wa, hWa⟩ : ∃ W, W = gh_pa V2 (a0 + 13) 10 (if y2 = 65 then 1 else 0) := ⟨_, rfl⟩
    obtain ⟨Ca, hCa⟩ : ∃ C, C = md_pa B2 15 10 (if x2 = 65 then 1 else 0) := ⟨_, rfl⟩
    have hA : GR a0 m nf s p V B0 _ _ (gh_pa V2 (a0 + 13) 10 (if y2 = 65 then 1 else 0)) (md_pa B2 15 10 (if x2 = 65 then 1 else 0)) := h2a
    rw [← hWa, ← hCa] at hA
    have e3 : f_X1_latitude T (Wa) (a0 + 8) 3 = some (cr (a0 + 8) (Wa) ((S_ang s p 3 4 54000000).bind (S_side s p (3 + 1) 78 83))) := c_latitude hs hS hA.2.2.1 (f := 3) (by omega)
    have r3 : f_X9_place (Ca) 3 4 90 [78, 83] = some (br (Ca) ((S_ang s p 3 4 54000000).bind (S_side s p (3 + 1) 78 83))) := r_place hS hA.2.2.2.1 (f := 3) (D := 4) (most := 90) (ab := 78) (be := 83) (by omega) (Or.inl rfl) (by decide) (by decide) (by decide) (by decide)
    obtain ⟨y3, V3, x3, B3, u3, v3, h3⟩ := st hA ((S_ang s p 3 4 54000000).bind (S_side s p (3 + 1) 78 83)) 1 (by decide)
    have h3 : GR a0 m nf s p V B0 _ _ (gh_pa V3 (a0 + 13) 1 y3) (md_pa B3 15 1 x3) := h3
    rw [u3] at e3
    rw [v3] at r3
    have e4 : f_X1_longitude T (gh_pa V3 (a0 + 13) 1 y3) (a0 + 8) 5 = some (cr (a0 + 8) (gh_pa V3 (a0 + 13) 1 y3) ((S_ang s p 5 5 108000000).bind (S_side s p (5 + 1) 69 87))) := c_longitude hs hS h3.2.2.1 (f := 5) (by omega)
    have r4 : f_X9_place (md_pa B3 15 1 x3) 5 5 180 [69, 87] = some (br (md_pa B3 15 1 x3) ((S_ang s p 5 5 108000000).bind (S_side s p (5 + 1) 69 87))) := r_place hS h3.2.2.2.1 (f := 5) (D := 5) (most := 180) (ab := 69) (be := 87) (by omega) (Or.inr rfl) (by decide) (by decide) (by decide) (by decide)
    obtain ⟨y4, V4, x4, B4, u4, v4, h4⟩ := st h3 ((S_ang s p 5 5 108000000).bind (S_side s p (5 + 1) 69 87)) 2 (by decide)
    have h4 : GR a0 m nf s p V B0 _ _ (gh_pa V4 (a0 + 13) 2 y4) (md_pa B4 15 2 x4) := h4
    rw [u4] at e4
    rw [v4] at r4
    have e5 : f_X1_decimal T (gh_pa V4 (a0 + 13) 2 y4) (a0 + 8) 7 2 4 = some (cr (a0 + 8) (gh_pa V4 (a0 + 13) 2 y4) (S_dec s p 7 2 4)) := c_decimal hs hS h4.2.2.1 (f := 7) (by omega) (d := 2) (w := 4) (by decide) (by decide) (by decide)
    have r5 : f_X9_decimal (md_pa B4 15 2 x4) 7 2 4 0 = some (br (md_pa B4 15 2 x4) (S_dec s p 7 2 4)) := r_decimal hS h4.2.2.2.1 (f := 7) (by omega) (d := 2) (w := 4) (by decide) (by decide)
    obtain ⟨y5, V5, x5, B5, u5, v5, h5⟩ := st h4 (S_dec s p 7 2 4) 11 (by decide)
    have h5 : GR a0 m nf s p V B0 _ _ (gh_pa V5 (a0 + 13) 11 y5) (md_pa B5 15 11 x5) := h5
    rw [u5] at e5
    rw [v5] at r5
    have e6 : f_X1_course T (gh_pa V5 (a0 + 13) 11 y5) (a0 + 8) 8 = some (cr (a0 + 8) (gh_pa V5 (a0 + 13) 11 y5) (S_cou s p 8)) := c_course hs hS h5.2.2.1 (f := 8) (by omega)
    have r6_0 : f_X9_decimal (md_pa B5 15 11 x5) 8 2 3 0 = some (br (md_pa B5 15 11 x5) (S_dec s p 8 2 3)) := r_decimal hS h5.2.2.2.1 (f := 8) (by omega) (d := 2) (w := 3) (by decide) (by decide)
    have r6_1 : f_X9_below (br (md_pa B5 15 11 x5) (S_dec s p 8 2 3)).2 (br (md_pa B5 15 11 x5) (S_dec s p 8 2 3)).1 35999 = some (br (md_pa B5 15 11 x5) ((S_dec s p 8 2 3).bind (fun y => if Int32.ofNat 35999 < y then none else some y))) := r_below _ 35999 (by decide)
    rw [show (S_dec s p 8 2 3).bind (fun y => if Int32.ofNat 35999 < y then none else some y) = S_cou s p 8 from cou_b 8] at r6_1
    obtain ⟨y6, V6, x6, B6, u6, v6, h6⟩ := st h5 (S_cou s p 8) 12 (by decide)
    have h6 : GR a0 m nf s p V B0 _ _ (gh_pa V6 (a0 + 13) 12 y6) (md_pa B6 15 12 x6) := h6
    rw [u6] at e6
    rw [v6] at r6_1
    have e7 : f_X1_date T (gh_pa V6 (a0 + 13) 12 y6) (a0 + 8) 9 = some (cr (a0 + 8) (gh_pa V6 (a0 + 13) 12 y6) (S_date s p 9)) := c_date hs hS h6.2.2.1 (f := 9) (by omega)
    have r7 : f_X9_date (md_pa B6 15 12 x6) 9 = some (br (md_pa B6 15 12 x6) (S_date s p 9)) := r_date hS h6.2.2.2.1 (f := 9) (by omega)
    obtain ⟨y7, V7, x7, B7, u7, v7, h7⟩ := st h6 (S_date s p 9) 13 (by decide)
    have h7 : GR a0 m nf s p V B0 _ _ (gh_pa V7 (a0 + 13) 13 y7) (md_pa B7 15 13 x7) := h7
    rw [u7] at e7
    rw [v7] at r7
    have e8 : f_X1_variation T (gh_pa V7 (a0 + 13) 13 y7) (a0 + 8) 10 = some (cr (a0 + 8) (gh_pa V7 (a0 + 13) 13 y7) (S_var s p 10)) := c_variation hs hS h7.2.2.1 (f := 10) (by omega)
    have r8_0 : f_X9_decimal (md_pa B7 15 13 x7) 10 1 3 0 = some (br (md_pa B7 15 13 x7) (S_dec s p 10 1 3)) := r_decimal hS h7.2.2.2.1 (f := 10) (by omega) (d := 1) (w := 3) (by decide) (by decide)
    have r8_1 : f_X9_below (br (md_pa B7 15 13 x7) (S_dec s p 10 1 3)).2 (br (md_pa B7 15 13 x7) (S_dec s p 10 1 3)).1 1800 = some (br (md_pa B7 15 13 x7) ((S_dec s p 10 1 3).bind (fun y => if 1800 < y then none else some y))) := r_below _ 1800 (by decide)
    have r8_2 : f_X9_sided (br (md_pa B7 15 13 x7) ((S_dec s p 10 1 3).bind (fun y => if 1800 < y then none else some y))).2 (br (md_pa B7 15 13 x7) ((S_dec s p 10 1 3).bind (fun y => if 1800 < y then none else some y))).1 11 [69, 87] = some (br (md_pa B7 15 13 x7) (S_var s p 10)) := r_side hS h7.2.2.2.1 (f := 11) (by omega) (ab := 69) (be := 87) (by decide) (by decide) (by decide) _
    obtain ⟨y8, V8, x8, B8, u8, v8, h8⟩ := st h7 (S_var s p 10) 14 (by decide)
    have h8 : GR a0 m nf s p V B0 _ _ (gh_pa V8 (a0 + 13) 14 y8) (md_pa B8 15 14 x8) := h8
    rw [u8] at e8
    rw [v8] at r8_2
    have e9 : f_X1_oneOf T (gh_pa V8 (a0 + 13) 14 y8) (a0 + 8) 12 [65, 68, 69, 77, 78, 83] = some (cr (a0 + 8) (gh_pa V8 (a0 + 13) 14 y8) (if nf = 13 then S_one s p 12 [65, 68, 69, 77, 78, 83] else some (-2147483648))) := by
      by_cases hc : nf = 13
      · rw [if_pos hc]; exact c_oneOf hs hS h8.2.2.1 (f := 12) (by omega) [65, 68, 69, 77, 78, 83] (by decide) (by decide)
      · rw [if_neg hc]; exact c_oneOf0 hS h8.2.2.1 (f := 12) (by omega) (by decide) _
    have r9 : (if (md_pa B8 15 14 x8).1 13 = 13 then (f_X9_one (md_pa B8 15 14 x8) 12 [65, 68, 69, 77, 78, 83]).bind (fun q123 => f_X9_rmc_191 q123.2 q123.1 17) else f_X9_rmc_191 (md_pa B8 15 14 x8) (-2147483648) 17) = f_X9_rmc_191 (br (md_pa B8 15 14 x8) (if nf = 13 then S_one s p 12 [65, 68, 69, 77, 78, 83] else some (-2147483648))).2 (br (md_pa B8 15 14 x8) (if nf = 13 then S_one s p 12 [65, 68, 69, 77, 78, 83] else some (-2147483648))).1 17 := by
      rw [h8.2.2.2.1.1]
      by_cases hc : nf = 13
      · have ho : f_X9_one (md_pa B8 15 14 x8) 12 [65, 68, 69, 77, 78, 83] = some (br (md_pa B8 15 14 x8) (S_one s p 12 [65, 68, 69, 77, 78, 83])) := r_one hS h8.2.2.2.1 (f := 12) (by omega) [65, 68, 69, 77, 78, 83] (by decide) (by decide)
        rw [if_pos hc, if_pos (by rw [hc]; rfl), ho, Option.bind_some]
      · rw [if_neg hc, if_neg (mt (nl_eq 13 13 rfl (by decide) (by omega)).mp hc)]; rfl
    obtain ⟨y9, V9, x9, B9, u9, v9, h9⟩ := st h8 (if nf = 13 then S_one s p 12 [65, 68, 69, 77, 78, 83] else some (-2147483648)) 17 (by decide)
    have h9 : GR a0 m nf s p V B0 _ _ (gh_pa V9 (a0 + 13) 17 y9) (md_pa B9 15 17 x9) := h9
    rw [u9] at e9
    rw [v9] at r9
    have n0 : sv_inb (0 : Int32) 18 = true := by decide
    have n1 : sv_inb (1 : Int32) 18 = true := by decide
    have n2 : sv_inb (2 : Int32) 18 = true := by decide
    have n10 : sv_inb (10 : Int32) 18 = true := by decide
    have n11 : sv_inb (11 : Int32) 18 = true := by decide
    have n12 : sv_inb (12 : Int32) 18 = true := by decide
    have n13 : sv_inb (13 : Int32) 18 = true := by decide
    have n14 : sv_inb (14 : Int32) 18 = true := by decide
    have n17 : sv_inb (17 : Int32) 18 = true := by decide
    have gt : ∀ {α : Type} (y : Option α), sv_g true y = y := fun y => sv_g_t rfl
    have hrf : f_X9_rmc_47 B2 (if x2 = 65 then 1 else 0) 10 = some (md_pa B9 15 17 x9) := by
      unfold f_X9_rmc_47
      rw [sv_g_t n10, ← hCa]
      simp only [r3, r4, r5, r6_0, r6_1, r7, r8_0, r8_1, r8_2, Option.bind_some]
      rw [r9]
      unfold f_X9_rmc_191
      exact sv_g_t n17
    have hrr : f_X9_rmc B0 = some (md_pa B9 15 17 x9) := by
      unfold f_X9_rmc
      simp only [r1, Option.bind_some]
      rw [r2]
      unfold f_X9_rmc_30
      rw [← hrf]
      by_cases hc : x2 = 65
      · rw [if_pos hc, if_pos hc]
      · rw [if_neg hc, if_neg hc]
    have hfit : f_X9_fits B 1 = f_X9_fits_119 (md_pa B9 15 17 x9) := by
      unfold f_X9_fits f_X9_fits_70
      rw [if_neg (by decide), if_pos rfl, hB13, ← hB0, hrr, Option.bind_some]
      rcases h15 with h | h
      · rw [if_pos (by rw [h]; rfl)]
      · rw [if_neg (by rw [h]; decide), if_pos (by rw [h]; rfl)]
    have hcl2 : f_X4_takeRmc T V (a0 + 11) (a0 + 8) = f_X4_takeRmc_18 T (a0 + 11) (a0 + 8) V := by
      unfold f_X4_takeRmc
      rw [hC.1]
      rcases h15 with h | h
      · rw [if_pos (by rw [h]; rfl)]
      · rw [if_neg (by rw [h]; decide), if_pos (by rw [h]; rfl)]
    have hemp : f_X1_isEmpty T V (a0 + 8) 2 = some (if fl p 2 = 0 then 1 else 0, V) := c_emp hs hS hC (f := 2) (by omega)
    rw [hcl2]
    by_cases hz : fl p 2 = 0
    · have hS2 : ((S_one s p 2 [65, 86]).bind (fun y => if y = -2147483648 then none else some y)) = none := by
        unfold S_one
        rw [if_pos hz]
        show (if (-2147483648 : Int32) = -2147483648 then none else some (-2147483648 : Int32)) = none
        exact if_pos rfl
      rw [hS2] at h9
      have hcl : f_X4_takeRmc_18 T (a0 + 11) (a0 + 8) V = some (0, V) := by
        unfold f_X4_takeRmc_18
        rw [hemp, if_pos hz]
        rfl
      rw [hcl]
      obtain ⟨g1, g2, g3, g4, g5, g6, g7⟩ := h9
      simp only [Option.isSome_none, Bool.and_false, Bool.false_and] at g6
      refine ⟨false, V, _, rfl, ?_, ch.rf, (hcb.mono (by simp) (by simp)).trans g2, fun _ => rfl, fun c => by simp at c⟩
      rw [hfit]
      exact fits_119 g6
    · have hcl : f_X4_takeRmc_18 T (a0 + 11) (a0 + 8) V = (f_X4_settle T (gh_pa V9 (a0 + 13) 17 y9) (a0 + 11) ((gh_pa V9 (a0 + 13) 17 y9).1 3 (a0 + 8)) 1).bind (fun q162 => sv_g (decide (vp_nar .boolean q162.1 = q162.1)) (some (q162.1, q162.2))) := by
        have hr : f_X4_takeRmc_62 T (a0 + 11) (a0 + 8) V2 (if y2 = 65 then 1 else 0) 10 (a0 + 13) = (f_X4_settle T (gh_pa V9 (a0 + 13) 17 y9) (a0 + 11) ((gh_pa V9 (a0 + 13) 17 y9).1 3 (a0 + 8)) 1).bind (fun q162 => sv_g (decide (vp_nar .boolean q162.1 = q162.1)) (some (q162.1, q162.2))) := by
          unfold f_X4_takeRmc_62
          rw [hs.l13, sv_g_t n10, ← hWa]
          simp only [hs.r1_11, Option.bind_some, hs.l13, n1, n2, n11, n12, n13, n14, n17, gt, e3, e4, e5, e6, e7, e8, e9]
        unfold f_X4_takeRmc_18
        rw [hemp, if_neg hz, Option.bind_some, if_pos rfl]
        simp only [hs.r1_11, Option.bind_some, hs.l13, n0, gt, e1, e2 hz]
        rw [← hr]
        by_cases hc : y2 = 65
        · rw [if_pos hc, if_pos hc]
        · rw [if_neg hc, if_neg hc]
      rw [hcl]
      refine tk_end hs h9 hcb hfit [0, 1, 2, 10, 11, 12, 13, 14, 17] (n1 := _) (n2 := _) rfl (by decide) (by decide) (by decide) (fun B2 => ?_) rfl
      obtain ⟨B3, g1, g2, g3⟩ := keep_s (B := B2) (lo := 0) (hi := 2) (by decide) (by decide)
      obtain ⟨B4, f1, f2, f3⟩ := keep_s (B := B3) (lo := 10) (hi := 14) (by decide) (by decide)
      obtain ⟨B5, j1, j2, j3⟩ := keep_s (B := B4) (lo := 17) (hi := 17) (by decide) (by decide)
      refine ⟨B5, ?_, (g2.trans f2).trans j2, fun e he => ?_, fun e he hne => ?_⟩
      · have g1 : f_X9_keep B2 0 2 = some B3 := g1
        have f1 : f_X9_keep B3 10 14 = some B4 := f1
        have j1 : f_X9_keep B4 17 17 = some B5 := j1
        unfold f_X9_taken
        rw [if_neg (by decide), if_pos rfl, g1, Option.bind_some, f1, Option.bind_some, j1]
        rfl
      · simp at he
        rw [j3, f3, g3, f2.2 15 (by simp), g2.2 15 (by simp)]
        by_cases c : 17 ≤ e ∧ e ≤ 17
        · rw [if_pos c]
        · rw [if_neg c]
          by_cases c2 : 10 ≤ e ∧ e ≤ 14
          · rw [if_pos c2]
          · rw [if_neg c2, if_pos (by omega)]
      · simp at hne
        rw [j3, f3, g3, if_neg (by omega), if_neg (by omega), if_neg (by omega)]
  · have hno : f_X4_takeRmc T V (a0 + 11) (a0 + 8) = some (0, V) := by
      unfold f_X4_takeRmc
      rw [hC.1, if_neg (mt (nl_eq 12 12 rfl (by decide) (by omega)).mp (by omega)), if_neg (mt (nl_eq 13 13 rfl (by decide) (by omega)).mp (by omega))]
    rw [hno]
    refine tk_no ?_
    unfold f_X9_fits
    rw [if_neg (by decide), if_pos rfl, hB13, if_neg (mt (nl_eq 12 12 rfl (by decide) (by omega)).mp (by omega)), if_neg (mt (nl_eq 13 13 rfl (by decide) (by omega)).mp (by omega))]
end GA
