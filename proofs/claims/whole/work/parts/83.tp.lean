/-! ===== PURE: a part taken ===== -/
section TP
variable {a0 z m : Nat} {s p : Nat → Nat} {T : gh_T} {V : gh_V} {B : md_B}
theorem copy_s (hs : sh a0 T) {r : Nat} (hrq : rowq T r) (hr : a0 + 24 ≤ r) : ∃ V', f_X0_copy T V (a0 + 18) r = some V' ∧ ch [(2, a0 + 18)] [a0 + 19] V V' ∧ V'.1 2 (a0 + 18) = V.1 2 r ∧ ∀ i, i < 103 → V'.2 (a0 + 19) i = V.2 (r + 1) i := by
  have loop : ∀ (k j n : Nat) (W : gh_V), j + k = 103 → k < n → ch [(2, a0 + 18)] [a0 + 19] V W → W.1 = V.1 → (∀ i, i < j → W.2 (a0 + 19) i = V.2 (r + 1) i) → ∃ V', f_X0_copy_2 T (a0 + 18) r n W (Int32.ofNat j) = some V' ∧ ch [(2, a0 + 18)] [a0 + 19] V V' ∧ V'.1 2 (a0 + 18) = V.1 2 r ∧ ∀ i, i < 103 → V'.2 (a0 + 19) i = V.2 (r + 1) i := by
    intro k
    induction k with
    | zero =>
      intro j n W hj hn hW h1 h2
      cases n with
      | zero => omega
      | succ n =>
        refine ⟨gh_pf W 2 (a0 + 18) (W.1 2 r), ?_, hW.pf (by simp), by rw [pf_1, h1], fun i hi => h2 i (by omega)⟩
        unfold f_X0_copy_2
        rw [hs.r1_18, Option.bind_some, hs.l19, if_pos ((nu_le (by omega) (by omega)).mpr (by omega))]
    | succ k ih =>
      intro j n W hj hn hW h1 h2
      cases n with
      | zero => omega
      | succ n =>
        have e : W.2 (r + 1) = V.2 (r + 1) := hW.2 _ (by simp; omega)
        obtain ⟨V', g1, g2⟩ := ih (j + 1) n (gh_pa W (a0 + 19) (Int32.ofNat j) (V.2 (r + 1) j)) (by omega) (by omega) (hW.pa (by simp)) h1 (fun i hi => by
          rw [pa_2, nu_nat (by omega)]
          unfold upd
          by_cases c : i = j
          · rw [if_pos c, c]
          · rw [if_neg c]
            exact h2 i (by omega))
        refine ⟨V', ?_, g2⟩
        rw [← g1]
        conv => lhs; unfold f_X0_copy_2
        unfold f_X0_copy_35
        rw [hs.r1_18, Option.bind_some, hs.l19, if_neg (mt (nu_le (by omega) (by omega)).mp (by omega)), Option.bind_some, hrq.2.2.1, Option.bind_some, hrq.2.2.2, if_neg (mt (nu_le (by omega) (by omega)).mp (by omega)), Option.bind_some, hrq.2.2.2, nu_inb (by omega) (by omega), sv_g_t rfl, hs.l19, sv_g_t (nu_inb (by omega) (by omega)), nu_nat (by omega), e, nu_s]
  exact loop 103 0 sv_fu V rfl (fu_lt (by decide)) ch.rf rfl (fun i hi => by omega)
theorem pb_l {I K : Nat} (hI : I ≤ 10) (hK : K ≤ 3240) : ∀ (k j f : Nat) (C : md_B), j + k = K → C.1 26 = Int32.ofNat K → C.1 19 = Int32.ofNat I → (∀ q, q < K → C.2 24 (3240 * I + q) = 0 ∨ C.2 24 (3240 * I + q) = 1) → ∃ C', f_X9_parted_280 (f + k + 1) C (Int32.ofNat j) = f_X9_message (md_pf (md_pa C' 22 (Int32.ofNat I) 0) 27 1) ∧ cb [] [25] C C' ∧ (∀ q, j ≤ q → q < K → C'.2 25 q = C.2 24 (3240 * I + q)) ∧ ∀ q, q < j → C'.2 25 q = C.2 25 q := by
  intro k
  induction k with
  | zero =>
    intro j f C hj h26 h19 hb
    refine ⟨C, ?_, cb.rf, fun q h1 h2 => by omega, fun _ _ => rfl⟩
    unfold f_X9_parted_280
    rw [h26, if_pos ((nu_le (by omega) (by omega)).mpr (by omega)), h19, nu_inb (by omega) (by omega), sv_g_t rfl, bind_eta]
  | succ k ih =>
    intro j f C hj h26 h19 hb
    have eix : Int32.ofNat I * 3240 + Int32.ofNat j = Int32.ofNat (3240 * I + j) := by
      rw [show (3240 : Int32) = Int32.ofNat 3240 from rfl, nu_mul, nu_add, Nat.mul_comm]
    have hnar : vp_nar .boolean (C.2 24 (3240 * I + j)) = C.2 24 (3240 * I + j) := by
      rcases hb j (by omega) with e | e <;> rw [e] <;> decide
    obtain ⟨C', g1, g2, g3, g4⟩ := ih (j + 1) f (md_pa C 25 (Int32.ofNat j) (C.2 24 (3240 * I + j))) (by omega) h26 h19 (fun q hq => by rw [ba_n (by decide)]; exact hb q hq)
    refine ⟨C', ?_, (cb.rf.pa (by simp)).trans g2, fun q h1 h2 => ?_, fun q hq => ?_⟩
    · rw [← g1, show f + (k + 1) + 1 = (f + k + 1) + 1 by omega]
      conv => lhs; unfold f_X9_parted_280
      rw [h26, if_neg (mt (nu_le (by omega) (by omega)).mp (by omega)), h19, eix, nu_inb (by omega) (by omega), sv_g_t rfl, nu_inb (by omega) (by omega), sv_g_t rfl, nu_nat (by omega), hnar, nu_s]
    · by_cases c : q = j
      · rw [g4 q (by omega), ba_2, nu_nat (by omega), c]
        simp [upd]
      · rw [g3 q (by omega) h2, ba_n (by decide)]
    · rw [g4 q (by omega), ba_2, nu_nat (by omega)]
      unfold upd
      rw [if_neg (by omega)]
theorem wb_eq {w w' : Nat → Int32} {i : Nat} (h : w (i / 32) = w' (i / 32)) : wb w i = wb w' i := by
  unfold wb
  rw [h]
theorem tp_s (h : RX 0 a0 T V B) (hg : GZ a0 T z) (hS : FS m s 7 p) (hC : FC a0 m s 7 p V) (hB : FB m s 7 p B) (hG : GP s p) (b17 : B.1 17 = Int32.ofNat (s (p 1) - 48)) (b18 : B.1 18 = Int32.ofNat (s (p 2) - 48)) (b19 : B.1 19 = Int32.ofNat (idn s p)) (b20 : B.1 20 = Int32.ofNat (s (p 6) - 48)) : ∃ T' V' z' B', tpK a0 s p T V z = some (1, T', V', z') ∧ f_X9_parted B = some B' ∧ RX 0 a0 T' V' B' ∧ z ≤ z' ∧ wt a0 T' + (z' - z) ≤ wt a0 T ∧ V'.1 1 (a0 + 2) = V.1 1 (a0 + 2) ∧ V'.2 (a0 + 3) = V.2 (a0 + 3) ∧ B'.1 2 = B.1 2 ∧ B'.2 1 = B.2 1 := by
  obtain ⟨⟨g1, g2⟩, ⟨g3, g4, g5⟩, g6, g7, g8, g9, g10⟩ := hG
  have i1 := g1.2
  have i2 := g3.2
  have i6 := g9.2
  unfold isd at i1 i2 i6
  have hI : idn s p ≤ 10 := by
    unfold idn
    by_cases c : fl p 3 = 0
    · rw [if_pos c]
      omega
    · have i3 := (g6.resolve_left c).2
      unfold isd at i3
      rw [if_neg c]
      omega
  have hL1 := g8.1
  have hL60 := g8.2.1
  have hs := h.1
  obtain ⟨M, hM⟩ : ∃ M, M = s (p 1) - 48 := ⟨_, rfl⟩
  obtain ⟨P, hP⟩ : ∃ P, P = s (p 2) - 48 := ⟨_, rfl⟩
  obtain ⟨I, hIe⟩ : ∃ I, I = idn s p := ⟨_, rfl⟩
  obtain ⟨F, hF⟩ : ∃ F, F = s (p 6) - 48 := ⟨_, rfl⟩
  obtain ⟨N, hN⟩ : ∃ N, N = 6 * fl p 5 - F := ⟨_, rfl⟩
  unfold tpK
  rw [← hM] at b17 ⊢
  rw [← hP] at b18 ⊢
  rw [← hIe] at b19 hI ⊢
  rw [← hF] at b20 ⊢
  rw [← hM] at g2 g5
  rw [← hP] at g4 g5
  rw [← hF] at g10
  have hM9 : M ≤ 9 := by omega
  obtain ⟨o, V1, e1, e2, e3⟩ := order_s h hI g2 hM9 g4 g5 b17 b18 b19
  rw [e1, Option.bind_some]
  rcases e3 with ⟨rfl, B1, f1, f2, f3⟩ | ⟨rfl, B1, f1, f2, f3, n0, hn0, k23, k22, hk⟩
  · rw [if_pos rfl]
    refine ⟨T, V1, z, B1, rfl, f1, f3, Nat.le_refl _, by omega, ?_, ?_, ?_, ?_⟩
    · rw [e2.1 _ _ (by simp)]
    · rw [e2.2 _ (by simp)]
    · rw [f2.1 _ (by simp)]
    · rw [f2.2 _ (by simp)]
  · rw [if_neg (by simp)]
    dsimp only
    obtain ⟨r, T', V2, z', q1, q2, q3, q4, q5, q6, q7, q8, q9, q10, q11, q12, q13, q14⟩ := keep_c (M := M) hI f3 hg hk
    rw [q1, Option.bind_some]
    dsimp only
    have hrq := q2.2.2.1.1 I r q3
    have hgz := hg.2.2.2
    have hfr := hg.2.1
    have hC2 : FC a0 m s 7 p V2 := by
      obtain ⟨w1, w2, w3⟩ := hC
      refine ⟨?_, ?_, ?_⟩
      · rw [q12.1 _ _ (by omega) (by simp; omega), e2.1 _ _ (by simp)]; exact w1
      · rw [q12.2 _ (by omega) (by simp; omega), e2.2 _ (by simp)]; exact w2
      · rw [q12.2 _ (by omega) (by simp; omega), e2.2 _ (by simp)]; exact w3
    have hP8 : P - 1 ≤ 8 := by omega
    have hn0' : n0 ≤ 2880 := by omega
    obtain ⟨V3, u1, u2, u3, u4⟩ := unp_s (n0 := n0) (F := F) q2 hS hC2 (by decide) hrq.2 hrq.1 g8 g10 (by omega) q9 q10
    rw [← hN] at u3 u4
    -- the reference
    have nN : (Int32.ofNat I).toNatClampNeg = I := nu_nat (by omega)
    have nI : sv_inb (Int32.ofNat I) 11 = true := nu_inb (by omega) (by omega)
    have gt : ∀ {α : Type} (y : Option α), sv_g true y = y := fun y => sv_g_t rfl
    have c17 : B1.1 17 = Int32.ofNat M := by rw [f2.1 _ (by simp)]; exact b17
    have c18 : B1.1 18 = Int32.ofNat P := by rw [f2.1 _ (by simp)]; exact b18
    have c19 : B1.1 19 = Int32.ofNat I := by rw [f2.1 _ (by simp)]; exact b19
    have c20 : B1.1 20 = Int32.ofNat F := by rw [f2.1 _ (by simp)]; exact b20
    obtain ⟨B2, hB2⟩ : ∃ B2, B2 = md_pa (md_pa B1 21 (Int32.ofNat I) (Int32.ofNat M)) 22 (Int32.ofNat I) (Int32.ofNat (P - 1) + 1) := ⟨_, rfl⟩
    have hB2c : cb [] [21, 22] B1 B2 := by rw [hB2]; exact (cb.rf.pa (by simp)).pa (by simp)
    have hFB2 : FB m s 7 p B2 := (hB.cb f2 (by simp) (by simp)).cb hB2c (by simp) (by simp)
    have hsz : f_X9_size B2 5 = some (Int32.ofNat (fl p 5), B2) := r_size hS hFB2 (f := 5) (by decide)
    have e6 : 6 * Int32.ofNat (fl p 5) - Int32.ofNat F = Int32.ofNat N := by
      rw [show (6 : Int32) = Int32.ofNat 6 from rfl, nu_mul, nu_sub (by omega), hN]
    have h114 : f_X9_parted_114 B1 = f_X9_parted_156 sv_fu B2 (Int32.ofNat N) 0 := by
      unfold f_X9_parted_114
      have e22 : (md_pa B1 21 (Int32.ofNat I) (Int32.ofNat M)).2 22 I = Int32.ofNat (P - 1) := by rw [ba_n (by decide)]; exact k22
      rw [ba_1, c19, c17, nI, gt, gt, gt, nN, e22, ← hB2, hsz, Option.bind_some]
      dsimp only
      rw [hB2c.1 _ (by simp), c20, e6]
    have hNb : 1 ≤ N ∧ N ≤ 360 := by omega
    obtain ⟨B3, p1, p2, p3⟩ := pa_l (I := I) (n0 := n0) (N := N) hS (by decide) hI (by omega) (by omega) g8.2.2 N 0 (sv_fu - N - 1 + 1) B2 (by omega) hFB2 (by rw [hB2c.1 _ (by simp)]; exact c19) (by rw [hB2c.2 _ (by simp)]; exact k23)
    rw [show sv_fu - N - 1 + 1 + N = sv_fu by have := fu_lt (m := 500) (by decide); omega] at p1
    have p1 : f_X9_parted_156 sv_fu B2 (Int32.ofNat N) 0 = f_X9_parted_156 (sv_fu - N - 1 + 1) B3 (Int32.ofNat N) (Int32.ofNat N) := p1
    obtain ⟨B4, hB4⟩ : ∃ B4, B4 = md_pa B3 23 (Int32.ofNat I) (Int32.ofNat (n0 + N)) := ⟨_, rfl⟩
    have hB4c : cb [] [21, 22, 23, 24] B1 B4 := by rw [hB4]; exact ((hB2c.mono (by simp) (by simp)).trans (p2.mono (by simp) (by simp))).pa (by simp)
    have d23 : B4.2 23 I = Int32.ofNat (n0 + N) := by rw [hB4, ba_2, nN]; simp [upd]
    have hpart : f_X9_parted B = if P = M then f_X9_parted_280 sv_fu (md_pf B4 26 (Int32.ofNat (n0 + N))) 0 else some B4 := by
      rw [f1, h114, p1]
      unfold f_X9_parted_156
      have d19 : B3.1 19 = Int32.ofNat I := by rw [p2.1 _ (by simp), hB2c.1 _ (by simp)]; exact c19
      have d3 : B3.2 23 I = Int32.ofNat n0 := by rw [p2.2 _ (by simp), hB2c.2 _ (by simp)]; exact k23
      rw [if_pos (i32_le.mpr Int32.lt_irrefl), d19, nI, gt, gt, nN, d3, nu_add, ← hB4, hB4c.1 17 (by simp), hB4c.1 18 (by simp), hB4c.1 19 (by simp), c17, c18, c19, nI, gt, nN, d23]
      by_cases c : P = M
      · rw [if_pos c, if_pos (by rw [c])]
      · rw [if_neg c, if_neg (by rw [nu_eq (by omega) (by omega)]; exact c)]
    have d24 : ∀ q, B4.2 24 q = if 3240 * I + n0 ≤ q ∧ q < 3240 * I + n0 + N then (if bfk s p (q - (3240 * I + n0)) = true then 1 else 0) else B1.2 24 q := by
      intro q
      rw [hB4, ba_n (by decide), p3, hB2c.2 _ (by simp), Nat.add_zero]
    have hrow : rB (n0 + N) (V3.2 (r + 1)) (B4.2 24) (3240 * I) 103 := by
      refine ⟨fun i hi => ?_, fun i hi hi2 => ?_⟩
      · rw [d24, u4]
        by_cases c : i < n0
        · rw [if_neg (by omega), decide_eq_false (by omega), Bool.false_and, Bool.or_false]
          exact q11.1 i c
        · rw [if_pos (by omega), decide_eq_true (by omega), Bool.true_and, q11.2 i (by omega) (by omega), Bool.false_or, show 3240 * I + i - (3240 * I + n0) = i - n0 by omega]
      · rw [u4, decide_eq_false (by omega), Bool.false_and, Bool.or_false]
        exact q11.2 i (by omega) hi2
    -- frames from V1 to V3
    have fld : ∀ k a, a < z → (k, a) ≠ (2, r) → V3.1 k a = V1.1 k a := fun k a ha hn => by rw [u2.1 _ _ (by simpa using hn), q12.1 _ _ ha (by simpa using hn)]
    have arr : ∀ d, d < z → d ≠ a0 + 16 → d ≠ a0 + 17 → d ≠ r + 1 → V3.2 d = V1.2 d := fun d hd n1 n2 n3 => by rw [u2.2 _ (by simpa using n3), q12.2 _ hd (by simp; omega)]
    have ves : ∀ i v, T.2.2.2.2 (a0 + 21) i = some v → ∀ y, 1 ≤ y → y ≤ 3 → v + y < z ∧ v + y ≠ r + 1 ∧ a0 + 24 ≤ v := by
      intro i v hv y hy hy3
      have hvq := hs.2.2.2.1 i v hv
      have l1 := fr_lt hfr hvq.2.2.2.2.1
      have := row_ap q2 q3 (by rw [q5]; exact hv) y hy hy3
      exact ⟨by omega, fun c => this c.symm, hvq.1⟩
    have oth : ∀ i r', i ≠ I → T.2.2.2.2 (a0 + 15) i = some r' → r' < z ∧ r' + 1 < z ∧ r' ≠ r ∧ r' + 1 ≠ r + 1 ∧ a0 + 24 ≤ r' := by
      intro i r' hi hr'
      have hq := hs.2.2.1.1 i r' hr'
      have hap := row_ap2 q2 (show T'.2.2.2.2 (a0 + 15) i = some r' by rw [q4 i hi]; exact hr') q3 hi
      exact ⟨fr_lt hfr hq.2.1, fr_lt hfr hq.2.2.1, hap.1, hap.2.1, hq.1⟩
    have k16 : ∀ i, V3.2 (a0 + 16) i = if i = I then Int32.ofNat M else V1.2 (a0 + 16) i := fun i => by rw [u2.2 _ (by simp; omega)]; exact q13 i
    have k17 : ∀ i, V3.2 (a0 + 17) i = if i = I then Int32.ofNat (P - 1 + 1) else V1.2 (a0 + 17) i := fun i => by rw [u2.2 _ (by simp; omega)]; exact q14 i
    have d21 : ∀ i, B4.2 21 i = if i = I then Int32.ofNat M else B1.2 21 i := by
      intro i
      rw [hB4, ba_n (by decide), p2.2 _ (by simp), hB2, ba_n (by decide), ba_2, nN]
      rfl
    have d22 : ∀ i, B4.2 22 i = if i = I then Int32.ofNat (P - 1 + 1) else B1.2 22 i := by
      intro i
      rw [hB4, ba_n (by decide), p2.2 _ (by simp), hB2, ba_2, nN, ba_n (by decide), nu_s]
      rfl
    have d23' : ∀ i, i ≠ I → B4.2 23 i = B1.2 23 i := by
      intro i hi
      rw [hB4, ba_2, nN, p2.2 _ (by simp), hB2c.2 _ (by simp)]
      unfold upd
      rw [if_neg hi]
    have d24' : ∀ q, (q < 3240 * I ∨ 3240 * I + 3240 ≤ q) → B4.2 24 q = B1.2 24 q := by
      intro q hq
      rw [d24, if_neg (by omega)]
    have tape : V3.1 1 (a0 + 2) = V.1 1 (a0 + 2) ∧ V3.2 (a0 + 3) = V.2 (a0 + 3) ∧ B4.1 2 = B.1 2 ∧ B4.2 1 = B.2 1 := by
      refine ⟨?_, ?_, ?_, ?_⟩
      · rw [fld _ _ (by omega) (by simp), e2.1 _ _ (by simp)]
      · rw [arr _ (by omega) (by omega) (by omega) (by omega), e2.2 _ (by simp)]
      · rw [hB4c.1 _ (by simp), f2.1 _ (by simp)]
      · rw [hB4c.2 _ (by simp), f2.2 _ (by simp)]
    unfold f_X8_takePart_128
    dsimp only
    rw [sv_g_t (gh_isb_of hrq.2.1), q2.r4_0, Option.bind_some, u1, Option.bind_some, hpart]
    by_cases cPM : P = M
    · -- the last part
      obtain ⟨V4, y1, y2, y3, y4⟩ := copy_s (V := V3) q2 hrq.2 hrq.1
      have hk4 : V4.2 (a0 + 17) I = Int32.ofNat (P - 1 + 1) := by rw [y2.2 _ (by simp), k17, if_pos rfl]
      have hdrop : f_X3_drop T' V4 (a0 + 14) (Int32.ofNat I) = some (1, gh_pa V4 (a0 + 17) (Int32.ofNat I) 0) := by
        rw [drop_s q2 hI, if_neg (by rw [hk4]; exact mt (fl0 (by omega)).mp (by omega))]
      obtain ⟨B5, z1, z2, z3, z4⟩ := pb_l (I := I) (K := n0 + N) hI (by omega) (n0 + N) 0 (sv_fu - (n0 + N) - 1) (md_pf B4 26 (Int32.ofNat (n0 + N))) (by omega) bf_1 (by rw [bf_n (by decide), hB4c.1 _ (by simp)]; exact c19) (fun q hq => by
        rw [bf_2, hrow.1 q hq]
        cases wb (V3.2 (r + 1)) q
        · exact Or.inl rfl
        · exact Or.inr rfl)
      rw [show sv_fu - (n0 + N) - 1 + (n0 + N) + 1 = sv_fu by have := fu_lt (m := 5000) (by decide); omega] at z1
      have z1 : f_X9_parted_280 sv_fu (md_pf B4 26 (Int32.ofNat (n0 + N))) 0 = _ := z1
      rw [if_pos (by rw [cPM]), if_pos cPM, q2.r7_0, Option.bind_some, y1, Option.bind_some, q2.r6_0, Option.bind_some, hdrop, Option.bind_some, z1]
      dsimp only
      obtain ⟨V5, hV5⟩ : ∃ W, W = gh_pa V4 (a0 + 17) (Int32.ofNat I) 0 := ⟨_, rfl⟩
      obtain ⟨B6, hB6⟩ : ∃ C, C = md_pf (md_pa B5 22 (Int32.ofNat I) 0) 27 1 := ⟨_, rfl⟩
      rw [← hV5, ← hB6]
      have cV5 : ch [(2, a0 + 18)] [a0 + 19, a0 + 17] V3 V5 := by rw [hV5]; exact (y2.mono (by simp) (by simp)).pa (by simp)
      have cB6 : cb [26, 27] [25, 22] B4 B6 := by
        rw [hB6]
        exact ((((show cb [26, 27] [25, 22] B4 (md_pf B4 26 (Int32.ofNat (n0 + N))) from cb.rf.pf (by simp)).trans (z2.mono (by simp) (by simp))).pa (by simp)).pf (by simp))
      have w17 : ∀ i, V5.2 (a0 + 17) i = if i = I then 0 else V1.2 (a0 + 17) i := by
        intro i
        rw [hV5, pa_2, nN, y2.2 _ (by simp)]
        unfold upd
        by_cases c : i = I
        · rw [if_pos c, if_pos c]
        · rw [if_neg c, if_neg c, k17, if_neg c]
      have w22 : ∀ i, B6.2 22 i = if i = I then 0 else B1.2 22 i := by
        intro i
        rw [hB6, bf_2, ba_2, nN, z2.2 _ (by simp), bf_2]
        unfold upd
        by_cases c : i = I
        · rw [if_pos c, if_pos c]
        · rw [if_neg c, if_neg c, d22, if_neg c]
      have h27 : B6.1 27 = 1 := by rw [hB6, bf_1]
      have hRX : RX 0 a0 T' V5 B6 := by
        refine f3.prt q2 q5 (fun k a ha hn => ?_) (fun d hd n1 n2 n3 => ?_) (fun i v hv y hy hy3 => ?_) ((hB4c.mono (by simp) (by simp)).trans (cB6.mono (by simp) (by simp))) ?_ ?_
        · rw [cV5.1 _ _ (by simpa using hn), fld _ _ (by omega) (by simp; omega)]
        · rw [cV5.2 _ (by simp; omega), arr _ (by omega) n1 n2 (by omega)]
        · obtain ⟨w1, w2, w3⟩ := ves i v hv y hy hy3
          rw [cV5.2 _ (by simp; omega), arr _ w1 (by omega) (by omega) w2]
        · refine rP_new hI f3.2.2.2.2.2.1 q4 (fun i r' hi hr' => ?_) (fun i hi => ?_) (fun i hi => ?_) (fun i hi => ?_) (fun i hi => ?_) (fun i hi => ?_) (fun q hq => ?_) (fun r' hr' => ?_) ?_ ?_ (Or.inl (by rw [w22, if_pos rfl]))
          · obtain ⟨w1, w2, w3, w4, w5⟩ := oth i r' hi hr'
            refine ⟨?_, ?_, ?_⟩
            · rw [cV5.1 _ _ (by simp), fld _ _ w1 (by simp)]
            · rw [cV5.1 _ _ (by simp; omega), fld _ _ w1 (by simpa using w3)]
            · rw [cV5.2 _ (by simp; omega), arr _ w2 (by omega) (by omega) w4]
          · rw [cV5.2 _ (by simp), k16, if_neg hi]
          · rw [w17, if_neg hi]
          · rw [cB6.2 _ (by simp), d21, if_neg hi]
          · rw [w22, if_neg hi]
          · rw [cB6.2 _ (by simp), d23' i hi]
          · rw [cB6.2 _ (by simp), d24' q hq]
          · rw [q3] at hr'
            cases hr'
            rw [cV5.1 _ _ (by simp), u2.1 _ _ (by simp)]
            exact q9
          · rw [w17, w22, if_pos rfl, if_pos rfl]
          · rw [cV5.2 _ (by simp), k16, cB6.2 _ (by simp), d21, if_pos rfl, if_pos rfl]
        · refine Or.inr ⟨h27, n0 + N, by omega, by omega, ?_, ?_, ?_, ?_⟩
          · rw [hV5, pa_1, y3]
            exact u3
          · rw [hB6, bf_n (by decide), ba_1, z2.1 _ (by simp), bf_1]
          · intro i hi
            have e25 : B6.2 25 i = B4.2 24 (3240 * I + i) := by
              rw [hB6, bf_2, ba_n (by decide), z3 i (by omega) hi]
              rfl
            rw [Nat.zero_add, e25, hrow.1 i hi, wb_eq (w := V5.2 (a0 + 19)) (w' := V3.2 (r + 1)) (by rw [hV5, pa_n (by omega)]; exact y4 _ (by omega))]
          · intro i hi hi2
            rw [wb_eq (w := V5.2 (a0 + 19)) (w' := V3.2 (r + 1)) (by rw [hV5, pa_n (by omega)]; exact y4 _ (by omega))]
            exact hrow.2 i hi hi2
      obtain ⟨T6, V6, z6, B7, r1, r2, r3, r4, r5, r6, r7, r8, r9⟩ := receive_s (e := 0) (by decide) hRX h27 q6
      rw [r1, Option.bind_some, r2]
      refine ⟨T6, V6, z6, B7, rfl, rfl, r3, by omega, by omega, ?_, ?_, ?_, ?_⟩
      · rw [r6, cV5.1 _ _ (by simp), tape.1]
      · rw [r7, cV5.2 _ (by simp), tape.2.1]
      · rw [r8, cB6.1 _ (by simp), tape.2.2.1]
      · rw [r9, cB6.2 _ (by simp), tape.2.2.2]
    · rw [if_neg (by rw [nu_eq (by omega) (by omega)]; exact cPM), if_neg cPM]
      refine ⟨T', V3, z', B4, rfl, rfl, ?_, q7, q8, tape⟩
      refine f3.prt q2 q5 (fun k a ha hn => fld _ _ (by omega) (by simp; omega)) (fun d hd n1 n2 n3 => arr _ (by omega) n1 n2 (by omega)) (fun i v hv y hy hy3 => ?_) (hB4c.mono (by simp) (by simp)) ?_ ?_
      · obtain ⟨w1, w2, w3⟩ := ves i v hv y hy hy3
        exact arr _ w1 (by omega) (by omega) w2
      · refine rP_new hI f3.2.2.2.2.2.1 q4 (fun i r' hi hr' => ?_) (fun i hi => ?_) (fun i hi => ?_) (fun i hi => ?_) (fun i hi => ?_) d23' d24' (fun r' hr' => ?_) ?_ ?_ (Or.inr ⟨P, n0 + N, r, g4, by omega, by omega, ?_, q3, u3, d23, hrow⟩)
        · obtain ⟨w1, w2, w3, w4, w5⟩ := oth i r' hi hr'
          refine ⟨fld _ _ w1 (by simp), fld _ _ w1 (by simpa using w3), arr _ w2 (by omega) (by omega) w4⟩
        · rw [k16, if_neg hi]
        · rw [k17, if_neg hi]
        · rw [d21, if_neg hi]
        · rw [d22, if_neg hi]
        · rw [q3] at hr'
          cases hr'
          rw [u2.1 _ _ (by simp)]
          exact q9
        · rw [k17, d22, if_pos rfl, if_pos rfl]
        · rw [k16, d21, if_pos rfl, if_pos rfl]
        · rw [d22, if_pos rfl, Nat.sub_add_cancel g4]
      · rw [fld _ _ (by omega) (by simp; omega), arr _ (by omega) (by omega) (by omega) (by omega), hB4c.1 _ (by simp), hB4c.1 _ (by simp), hB4c.2 _ (by simp)]
        exact f3.2.2.2.2.2.2.1
end TP
