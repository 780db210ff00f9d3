/-! ===== PURE: receive ===== -/
section R2
variable {a0 z e : Nat} {T T' : gh_T} {V V' : gh_V} {B B' : md_B}
theorem RX.tally (h : RX e a0 T V B) {j : Nat} (hj : j < 9) (hje : j ≠ e) : RX e a0 T (gh_pa V (a0 + 1) (Int32.ofNat j) (V.2 (a0 + 1) j + 1)) (md_pa B 10 (Int32.ofNat j) (B.2 10 j + 1)) := by
  obtain ⟨hs, h1, h2, h3, h4, h5, h6, h7, h8, h9⟩ := h
  have hV : ch [] [a0 + 1] V (gh_pa V (a0 + 1) (Int32.ofNat j) (V.2 (a0 + 1) j + 1)) := ch.rf.pa (by simp)
  have hB : cb [] [10] B (md_pa B 10 (Int32.ofNat j) (B.2 10 j + 1)) := cb.rf.pa (by simp)
  refine ⟨hs, ?_, fun i hi => ?_, ?_, ?_, h5.fr hs hV hB (by simp) (by simp) (by simp), ?_, h7.fr hs hV hB (by simp) (by simp) (by simp), h8, h9⟩
  · rw [hV.2 _ (by simp), hB.2 _ (by simp)]; exact h1
  · rw [pa_2, ba_2, nu_nat (by omega)]
    unfold upd
    by_cases c : i = j
    · have := h2 j hj
      rw [if_neg hje] at this
      rw [if_pos c, if_pos c, if_neg (by omega), this]
    · rw [if_neg c, if_neg c]
      exact h2 i hi
  · unfold rSv
    rw [hV.2 _ (by simp), hB.2 _ (by simp)]; exact h3
  · rw [hV.2 _ (by simp), hB.2 _ (by simp)]; exact h4
  · rw [hV.2 _ (by simp), hB.2 _ (by simp)]; exact h6
theorem RX.lrn (h : RX e a0 T V B) (hs' : sh a0 T') (h15 : ∀ i, T'.2.2.2.2 (a0 + 15) i = T.2.2.2.2 (a0 + 15) i) (hV1 : ∀ k a, a < a0 + 24 → (k, a) ≠ (1, a0 + 20) → V'.1 k a = V.1 k a) (hV2 : ∀ d, d < a0 + 24 → V'.2 d = V.2 d) (hR : ∀ i r, T.2.2.2.2 (a0 + 15) i = some r → V'.1 0 r = V.1 0 r ∧ V'.1 2 r = V.1 2 r ∧ V'.2 (r + 1) = V.2 (r + 1)) (hB : cb [28, 32, 34] [29, 30, 31] B B') (hF : rF a0 T' V' B') : RX e a0 T' V' B' := by
  obtain ⟨hs, h1, h2, h3, h4, h5, h6, h7, h8, h9⟩ := h
  refine ⟨hs', ?_, ?_, ?_, ?_, h5.fr2 h15 hR (hV2 _ (by omega)) (hV2 _ (by omega)) (hB.2 _ (by simp)) (hB.2 _ (by simp)) (hB.2 _ (by simp)) (hB.2 _ (by simp)), ?_, hF, ?_, ?_⟩
  · rw [hV1 _ _ (by omega) (by simp), hV2 _ (by omega), hB.1 _ (by simp), hB.2 _ (by simp)]; exact h1
  · rw [hV2 _ (by omega), hB.2 _ (by simp)]; exact h2
  · unfold rSv
    rw [hV1 _ _ (by omega) (by simp), hV1 _ _ (by omega) (by simp), hV1 _ _ (by omega) (by simp), hV1 _ _ (by omega) (by simp), hV1 _ _ (by omega) (by simp), hV2 _ (by omega), hB.1 _ (by simp), hB.1 _ (by simp), hB.1 _ (by simp), hB.1 _ (by simp), hB.2 _ (by simp)]
    exact h3
  · rw [hV2 _ (by omega), hB.2 _ (by simp)]; exact h4
  · rw [hV1 _ _ (by omega) (by simp), hV2 _ (by omega), hB.1 _ (by simp), hB.1 _ (by simp), hB.2 _ (by simp)]; exact h6
  · rw [hV1 _ _ (by omega) (by simp)]; exact h8
  · rw [hB.1 _ (by simp)]; exact h9
theorem msg_20 {t k : Nat} (ht : t < 64) (hk : 0 < k) (hk2 : k ≤ 3240) (h26 : B.1 26 = Int32.ofNat k) : f_X9_message_20 B (Int32.ofNat t) = f_X9_message_69 B (Int32.ofNat t) (if bo t = k then 1 else 0) := by
  unfold f_X9_message_20 f_X9_message_39 f_X9_message_49 f_X9_message_64 f_X9_message_68
  rw [in_nat (n := t) (lo := 1) (hi := 4) (l := 1) (h := 4) (by omega) (by decide) (by decide) rfl rfl, Option.bind_some]
  dsimp only
  rw [h26]
  have e5 : (Int32.ofNat t = 5) ↔ t = 5 := nl_eq 5 5 rfl (by decide) (by omega)
  have e18 : (Int32.ofNat t = 18) ↔ t = 18 := nl_eq 18 18 rfl (by decide) (by omega)
  have e168 : (Int32.ofNat k = 168) ↔ k = 168 := nl_eq 168 168 rfl (by decide) (by omega)
  have e424 : (Int32.ofNat k = 424) ↔ k = 424 := nl_eq 424 424 rfl (by decide) (by omega)
  unfold bo
  by_cases c1 : 1 ≤ t ∧ t ≤ 4
  · rw [if_pos c1, if_neg (show ¬ (1 : Int32) = 0 by decide), if_pos (show t = 1 ∨ t = 2 ∨ t = 3 ∨ t = 4 ∨ t = 18 by omega)]
    by_cases c : k = 168
    · rw [if_pos (e168.mpr c), if_pos (by omega)]
    · rw [if_neg (mt e168.mp c), if_neg (mt e5.mp (by omega)), if_neg (by omega)]
  · rw [if_neg c1, if_pos (show (0 : Int32) = 0 from rfl)]
    by_cases c18 : t = 18
    · rw [if_pos (e18.mpr c18), if_pos (show t = 1 ∨ t = 2 ∨ t = 3 ∨ t = 4 ∨ t = 18 by omega)]
      by_cases c : k = 168
      · rw [if_pos (e168.mpr c), if_pos (by omega)]
      · rw [if_neg (mt e168.mp c), if_neg (mt e5.mp (by omega)), if_neg (by omega)]
    · rw [if_neg (mt e18.mp c18), if_neg (show ¬ (t = 1 ∨ t = 2 ∨ t = 3 ∨ t = 4 ∨ t = 18) by omega)]
      by_cases c5 : t = 5
      · rw [if_pos (e5.mpr c5), if_pos c5]
        by_cases c : k = 424
        · rw [if_pos (e424.mpr c), if_pos (by omega)]
        · rw [if_neg (mt e424.mp c), if_neg (by omega)]
      · rw [if_neg (mt e5.mp c5), if_neg c5, if_neg (by omega)]
theorem receive_s (he : e ≠ 5 ∧ e ≠ 6 ∧ e ≠ 8) (h : RX e a0 T V B) (h27 : B.1 27 = 1) (hg : GZ a0 T z) : ∃ T' V' z' B', f_X8_receive T V z a0 = some (T', V', z') ∧ f_X9_message B = some B' ∧ RX e a0 T' V' B' ∧ z ≤ z' ∧ wt a0 T' + (z' - z) ≤ wt a0 T ∧ V'.1 1 (a0 + 2) = V.1 1 (a0 + 2) ∧ V'.2 (a0 + 3) = V.2 (a0 + 3) ∧ B'.1 2 = B.1 2 ∧ B'.2 1 = B.2 1 := by
  have h0 := h
  have hs := h.1
  have hM := h.2.2.2.2.2.2.1
  rcases hM with ⟨m1, -⟩ | ⟨-, k, k1, k2, k3, k4, k5⟩
  · rw [h27] at m1
    exact absurd m1 (by decide)
  · have odd : ∃ T' V' z' B', f_X8_receive_48 a0 T V z = some (T', V', z') ∧ (some (md_pa B 10 6 ((B.2 10 (6 : Int32).toNatClampNeg) + 1)) : Option md_B) = some B' ∧ RX e a0 T' V' B' ∧ z ≤ z' ∧ wt a0 T' + (z' - z) ≤ wt a0 T ∧ V'.1 1 (a0 + 2) = V.1 1 (a0 + 2) ∧ V'.2 (a0 + 3) = V.2 (a0 + 3) ∧ B'.1 2 = B.1 2 ∧ B'.2 1 = B.2 1 := by
      refine ⟨T, gh_pa V (a0 + 1) 6 (V.2 (a0 + 1) 6 + 1), z, _, ?_, rfl, h.tally (j := 6) (by decide) he.2.1.symm, Nat.le_refl _, by omega, rfl, by rw [pa_n (by omega)], rfl, by rw [ba_n (by decide)]⟩
      unfold f_X8_receive_48
      rw [hs.r0_0, Option.bind_some, hs.l1, show sv_inb (6 : Int32) 9 = true from by decide, sv_g_t rfl, sv_g_t rfl]
      rfl
    unfold f_X8_receive f_X9_message
    rw [hs.r7_0, Option.bind_some, k3, k4]
    by_cases c38 : 38 ≤ k
    · have hrd : f_X0_read T V (a0 + 18) 0 6 = some (Int32.ofNat (rdn (wb (V.2 (a0 + 19))) 0 6), V) := by
        have := read_s (V := V) hs.r1_18 hs.l19 (by decide) (p := 0) (k := 6) (by decide) (by decide) (by decide)
        rw [rd_rdn _ _ 6 (by decide)] at this
        exact this
      have hrr : f_X9_read B 0 6 = some (Int32.ofNat (rdn (wb (V.2 (a0 + 19))) 0 6), B) := by
        have := rread_s (B := B) (p := 0) (k := 6) (by decide)
        rw [rd_eq (c := wb (V.2 (a0 + 19))) (q := 0) 6 (fun i hi => by rw [k5.gbe (i := 0 + i) (by omega)]; simp only [Nat.zero_add]), rd_rdn _ _ 6 (by decide)] at this
        exact this
      have hlt : rdn (wb (V.2 (a0 + 19))) 0 6 < 64 := rdn_lt _ _ 6
      generalize rdn (wb (V.2 (a0 + 19))) 0 6 = t at hrd hrr hlt
      rw [if_pos ((nl_le 38 38 rfl (by decide) (by omega)).mpr c38), if_pos ((nl_le 38 38 rfl (by decide) (by omega)).mpr c38), Option.bind_some, hrd, hrr, Option.bind_some, Option.bind_some]
      dsimp only
      rw [msg_20 hlt (by omega) k2 k4]
      have hbo : bo t < 1000 := by unfold bo; split; · omega
                                   · split <;> omega
      unfold f_X8_receive_27 f_X9_message_69
      rw [if_neg (none_ne (by omega)), bits_of hlt, Option.bind_some, hs.r7_0, Option.bind_some]
      dsimp only
      rw [k3]
      by_cases cb0 : bo t = k
      · rw [if_pos (by rw [cb0]), if_neg (by rw [if_pos cb0]; decide), hs.r0_0, Option.bind_some, hs.l1, show sv_inb (5 : Int32) 9 = true from by decide, sv_g_t rfl, sv_g_t rfl, hs.r8_0, Option.bind_some, Option.bind_some]
        have h1 : RX e a0 T (gh_pa V (a0 + 1) 5 (V.2 (a0 + 1) (5 : Int32).toNatClampNeg + 1)) (md_pa B 10 5 (B.2 10 (5 : Int32).toNatClampNeg + 1)) := h.tally (j := 5) (by decide) he.1.symm
        have t1 : (gh_pa V (a0 + 1) 5 (V.2 (a0 + 1) (5 : Int32).toNatClampNeg + 1)).1 1 (a0 + 2) = V.1 1 (a0 + 2) := rfl
        have t2 : (gh_pa V (a0 + 1) 5 (V.2 (a0 + 1) (5 : Int32).toNatClampNeg + 1)).2 (a0 + 3) = V.2 (a0 + 3) := pa_n (by omega)
        have t3 : (md_pa B 10 5 (B.2 10 (5 : Int32).toNatClampNeg + 1)).1 2 = B.1 2 := rfl
        have t4 : (md_pa B 10 5 (B.2 10 (5 : Int32).toNatClampNeg + 1)).2 1 = B.2 1 := ba_n (by decide)
        have k5' : rB k ((gh_pa V (a0 + 1) 5 (V.2 (a0 + 1) (5 : Int32).toNatClampNeg + 1)).2 (a0 + 19)) ((md_pa B 10 5 (B.2 10 (5 : Int32).toNatClampNeg + 1)).2 25) 0 103 := by
          rw [pa_n (by omega), ba_n (by decide)]; exact k5
        generalize gh_pa V (a0 + 1) 5 (V.2 (a0 + 1) (5 : Int32).toNatClampNeg + 1) = W at h1 t1 t2 k5'
        generalize md_pa B 10 5 (B.2 10 (5 : Int32).toNatClampNeg + 1) = C at h1 t3 t4 k5'
        obtain ⟨x, hx1, hx2⟩ : ∃ x, f_X0_read T W (a0 + 18) 8 30 = some (x, W) ∧ f_X9_read C 8 30 = some (x, C) := by
          refine ⟨rd (wb (W.2 (a0 + 19))) 8 30, read_s (V := W) hs.r1_18 hs.l19 (by decide) (p := 8) (k := 30) (by decide) (by decide) (by decide), ?_⟩
          have := rread_s (B := C) (p := 8) (k := 30) (by decide)
          rw [rd_eq (c := wb (W.2 (a0 + 19))) (q := 8) 30 (fun i hi => by rw [k5'.gbe (by omega), Nat.zero_add])] at this
          exact this
        rw [hx1, hx2, Option.bind_some, Option.bind_some]
        dsimp only
        obtain ⟨q, hq, hvo⟩ := vesselOf_s (V := W) (B := C) hs h1.2.2.2.2.2.2.2.1 hg x
        rw [hq, Option.bind_some]
        have h33 : C.1 33 = 0 := h1.2.2.2.2.2.2.2.2.2
        obtain ⟨N0, hN0, f1, f2, f3⟩ := h1.2.2.2.2.2.2.2.1
        rcases hvo with ⟨i, v, N, rfl, hi, hN, n28, hfo, hv⟩ | ⟨rfl, n28, hfo⟩ | ⟨N, v, T', V', z', rfl, hN, n28, hfo, hs', hv, hz', hw, h15, h21, hFm, hsz, hval, hlen⟩
        · have hNN : N = N0 := by
            rw [n28, nu_eq (by omega) (by omega)] at f2
            exact f2
          subst hNN
          obtain ⟨v', hv', hr⟩ := f3 i hi
          have hvv : v' = v := by rw [hv] at hv'; exact (Option.some.inj hv').symm
          subst hvv
          have hvq := hs.2.2.2.1 i v' hv
          obtain ⟨V2, C2, l1, l2, l3, l4, l5, l6⟩ := learn_all (V := W) (B := C) (t := t) hs hv (by omega) h33 k5' cb0 (by omega) hr.1 hr.2
          rw [hfo, Option.bind_some, if_pos (by rw [i32_le]; exact nu_neg (by omega))]
          unfold f_X8_receive_88 f_X9_message_138
          dsimp only
          rw [sv_g_t (gh_isb_of hvq.2.1), hs.r7_0, Option.bind_some, l1, Option.bind_some, if_pos (by rw [i32_le]; exact nu_neg (by omega)), l2]
          refine ⟨T, V2, z, C2, rfl, rfl, h1.lrn hs (fun _ => rfl) (fun k a _ _ => l3.1 k a (by simp)) (fun d hd => l3.2 d (by simp; omega)) (fun j r hr => ⟨l3.1 _ _ (by simp), l3.1 _ _ (by simp), l3.2 _ ?_⟩) (l4.mono (by simp) (by simp)) ⟨N, hN, by rw [l3.1 _ _ (by simp)]; exact f1, by rw [l4.1 _ (by simp)]; exact n28, fun j hj => ?_⟩, Nat.le_refl _, by omega, ?_, ?_, ?_, ?_⟩
          · have := row_ap hs hr hv
            have a1 := this 1 (by decide) (by decide)
            have a2 := this 2 (by decide) (by decide)
            have a3 := this 3 (by decide) (by decide)
            simp
            omega
          · by_cases hji : j = i
            · subst hji
              exact ⟨v', hv, l6⟩
            · obtain ⟨w, hw, hrw⟩ := f3 j hj
              have hap := ves_ap hs hw hv hji
              refine ⟨w, hw, ?_⟩
              have n1 : ∀ x, 1 ≤ x → x ≤ 3 → w + x ∉ [v' + 1, v' + 2, v' + 3] := by
                intro x hx hx3
                have a1 := hap x 1 hx hx3 (by decide) (by decide)
                have a2 := hap x 2 hx hx3 (by decide) (by decide)
                have a3 := hap x 3 hx hx3 (by decide) (by decide)
                simp
                omega
              obtain ⟨r1, r2⟩ := hrw
              refine ⟨fun q hq => ?_, fun q hq => ?_⟩
              · rw [l3.2 _ (n1 1 (by decide) (by decide)), l5.1 _ (by omega)]
                exact r1 q hq
              · have hrt : rVt W w C j q := r2 q hq
                exact hrt.fr (by rw [l3.2 _ (n1 2 (by decide) (by decide))]) (fun y _ => by rw [l3.2 _ (n1 3 (by decide) (by decide))]) (l5.2.2 _ (by omega)) (fun y hy => l5.2.1 _ (by omega))
          · rw [l3.1 _ _ (by simp)]; exact t1
          · rw [l3.2 _ (by simp; omega)]; exact t2
          · rw [l4.1 _ (by simp)]; exact t3
          · rw [l4.2 _ (by simp)]; exact t4
        · rw [hfo, Option.bind_some, if_neg (show ¬ (0 : Int32) ≤ ((-2147483648 : Int32), C).1 from (by decide : ¬ (0 : Int32) ≤ -2147483648)), if_pos n28]
          unfold f_X8_receive_88
          dsimp only
          rw [hs.r0_0, Option.bind_some, hs.l1, show sv_inb (8 : Int32) 9 = true from by decide, sv_g_t rfl, sv_g_t rfl]
          exact ⟨T, _, z, _, rfl, rfl, h1.tally (j := 8) (by decide) he.2.2.symm, Nat.le_refl _, by omega, t1, by rw [pa_n (by omega)]; exact t2, t3, by rw [ba_n (by decide)]; exact t4⟩
        · have hNN : N = N0 := by
            rw [n28, nu_eq (by omega) (by omega)] at f2
            exact f2
          subst hNN
          have hvq := hs'.2.2.2.1 N v hv
          obtain ⟨g1, g2, g3, g4⟩ := hg
          obtain ⟨C1, c1, c2, c3, c4, c5, c6⟩ := mnew (B := C) (ty := Int32.ofNat t) (x := x) hN n28
          have hD : ∀ d, d < a0 + 24 → V'.2 d = W.2 d := fun d hd => hFm.2 d (by omega) (by simp; omega)
          obtain ⟨V2, C2, l1, l2, l3, l4, l5, l6⟩ := learn_all (V := V') (B := C1) (i := N) (t := t) (K := k) hs' hv hN (by rw [c2.1 _ (by simp)]; exact h33) (by rw [hD _ (by omega), c2.2 _ (by simp)]; exact k5') cb0 (by omega) (fun q hq => by rw [hval q hq, c4 q hq]) (fun q hq => ⟨0, by omega, hlen q hq, c5 q hq, fun j hj => by omega⟩)
          rw [hfo, Option.bind_some, if_neg (show ¬ (0 : Int32) ≤ ((-2147483648 : Int32), C).1 from (by decide : ¬ (0 : Int32) ≤ -2147483648)), if_neg (by rw [n28, nl_eq 40 40 rfl (by decide) (by omega)]; omega), c1]
          unfold f_X8_receive_88
          dsimp only
          rw [sv_g_t (gh_isb_of hvq.2.1), hs'.r7_0, Option.bind_some, l1, Option.bind_some, l2]
          have row_lt : ∀ j r, T.2.2.2.2 (a0 + 15) j = some r → r + 1 < z := fun j r hr => fr_lt g2 (hs.2.2.1.1 j r hr).2.2.1
          refine ⟨T', V2, z', C2, rfl, rfl, h1.lrn hs' h15 (fun q a ha hn => ?_) (fun d hd => ?_) (fun j r hr => ?_) ((c2.mono (by simp) (by simp)).trans (l4.mono (by simp) (by simp))) ⟨N + 1, by omega, ?_, ?_, fun j hj => ?_⟩, hz', hw, ?_, ?_, ?_, ?_⟩
          · rw [l3.1 _ _ (by simp), hFm.1 _ _ (by omega) (by simpa using hn)]
          · rw [l3.2 _ (by simp; omega), hD d hd]
          · have hrl := row_lt j r hr
            have hap := row_ap hs' (h15 j ▸ hr) hv
            have a1 := hap 1 (by decide) (by decide)
            have a2 := hap 2 (by decide) (by decide)
            have a3 := hap 3 (by decide) (by decide)
            have hr24 := (hs.2.2.1.1 j r hr).1
            refine ⟨?_, ?_, ?_⟩
            · rw [l3.1 _ _ (by simp), hFm.1 _ _ (by omega) (by simp)]
            · rw [l3.1 _ _ (by simp), hFm.1 _ _ (by omega) (by simp)]
            · rw [l3.2 _ (by simp; omega), hFm.2 _ (by omega) (by simp; omega)]
          · rw [l3.1 _ _ (by simp)]; exact hsz
          · rw [l4.1 _ (by simp)]; exact c3
          · by_cases hji : j = N
            · subst hji
              exact ⟨v, hv, l6⟩
            · obtain ⟨w, hw0, hrw⟩ := f3 j (by omega)
              have hw' : T'.2.2.2.2 (a0 + 21) j = some w := by rw [h21 j hji]; exact hw0
              have hap := ves_ap hs' hw' hv hji
              have hwq := (hs.2.2.2.1 j w hw0).2
              have lz : w + 3 < z := fr_lt g2 hwq.2.2.2.1
              refine ⟨w, hw', ?_⟩
              have n1 : ∀ y, 1 ≤ y → y ≤ 3 → V2.2 (w + y) = W.2 (w + y) := by
                intro y hy hy3
                have a1 := hap y 1 hy hy3 (by decide) (by decide)
                have a2 := hap y 2 hy hy3 (by decide) (by decide)
                have a3 := hap y 3 hy hy3 (by decide) (by decide)
                rw [l3.2 _ (by simp; omega), hFm.2 _ (by omega) (by simp; omega)]
              obtain ⟨r1, r2⟩ := hrw
              refine ⟨fun q hq => ?_, fun q hq => ?_⟩
              · rw [n1 1 (by decide) (by decide), l5.1 _ (by omega), c6.1 _ (by omega)]
                exact r1 q hq
              · have hrt : rVt W w C j q := r2 q hq
                exact hrt.fr (by rw [n1 2 (by decide) (by decide)]) (fun y _ => by rw [n1 3 (by decide) (by decide)]) (by rw [l5.2.2 _ (by omega), c6.2.2 _ (by omega)]) (fun y hy => by rw [l5.2.1 _ (by omega), c6.2.1 _ (by omega)])
          · rw [l3.1 _ _ (by simp), hFm.1 _ _ (by omega) (by simp)]; exact t1
          · rw [l3.2 _ (by simp; omega), hD _ (by omega)]; exact t2
          · rw [l4.1 _ (by simp), c2.1 _ (by simp)]; exact t3
          · rw [l4.2 _ (by simp), c2.2 _ (by simp)]; exact t4
      · rw [if_neg (by rw [nu_eq (by omega) (by omega)]; exact cb0), if_pos (by rw [if_neg cb0])]
        exact odd
    · rw [if_neg (mt (nl_le 38 38 rfl (by decide) (by omega)).mp c38), if_neg (mt (nl_le 38 38 rfl (by decide) (by omega)).mp c38)]
      have hm := msg_20 (B := B) (t := 0) (k := k) (by decide) (by omega) k2 k4
      have hm : f_X9_message_20 B 0 = f_X9_message_69 B 0 (if bo 0 = k then 1 else 0) := hm
      rw [hm]
      unfold f_X8_receive_27 f_X9_message_69
      rw [if_pos rfl, if_pos (by rw [if_neg (show ¬ bo 0 = k by show ¬ 0 = k; omega)])]
      exact odd
end R2
