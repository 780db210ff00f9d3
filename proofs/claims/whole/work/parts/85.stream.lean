/-! ===== PURE: stream ===== -/
section SM
variable {a0 z e : Nat} {T : gh_T} {V V' : gh_V} {B B' : md_B}
theorem RX.hear (h : RX 9 a0 T V B) (hV : ch (hrF a0) [a0 + 7] V V') (hB : cb [5, 7, 8, 9] [6, 10] B B') (hS : rSv a0 V' B') (ht : ∀ i, i < 9 → (if i = e then V'.2 (a0 + 1) i + 1 else V'.2 (a0 + 1) i) = B'.2 10 i) : RX e a0 T V' B' := by
  obtain ⟨hs, h1, h2, h3, h4, h5, h6, h7, h8, h9⟩ := h
  have b1 : ∀ x ∈ hrF a0, x.2 < a0 + 24 := by
    intro x hx
    simp [hrF] at hx
    rcases hx with rfl | rfl | rfl | rfl | rfl <;> simp
  refine ⟨hs, ?_, ht, hS, ?_, h5.fr hs hV hB b1 (by simp) (by simp), ?_, h7.fr hs hV hB (by simp [hrF]) (by simp) (by simp), ?_, ?_⟩
  · rw [hV.1 _ _ (by simp [hrF]), hV.2 _ (by simp), hB.1 _ (by simp), hB.2 _ (by simp)]; exact h1
  · rw [hV.2 _ (by simp), hB.2 _ (by simp)]; exact h4
  · rw [hV.1 _ _ (by simp [hrF]), hV.2 _ (by simp), hB.1 _ (by simp), hB.1 _ (by simp), hB.2 _ (by simp)]; exact h6
  · rw [hV.1 _ _ (by simp [hrF])]; exact h8
  · rw [hB.1 _ (by simp)]; exact h9
theorem RX.rel (h : RX 9 a0 T V B) (h2 : B.1 2 = 0) : Rel a0 T (gh_pf V 1 (a0 + 2) 0) B := by
  obtain ⟨hs, h1, h3, h4, h5, h6, h7, h8, h9, h10⟩ := h
  have hV : ch [(1, a0 + 2)] [] V (gh_pf V 1 (a0 + 2) 0) := ch.rf.pf (by simp)
  refine ⟨hs, ⟨0, by decide, pf_1, h2, fun i hi => by omega⟩, ?_, fun i hi => ?_, ?_, h5, h6.fr hs hV (cb.rf (F := []) (D := [])) (by simp) (by simp) (by simp), ?_, h8.fr hs hV (cb.rf (F := []) (D := [])) (by simp) (by simp) (by simp), ?_, h10⟩
  · rw [hV.1 _ _ (by simp)]; exact h1
  · have := h3 i hi
    rw [if_neg (by omega)] at this
    exact this
  · rw [hV.1 _ _ (by simp), hV.1 _ _ (by simp), hV.1 _ _ (by simp), hV.1 _ _ (by simp), hV.1 _ _ (by simp)]
    exact h4
  · rw [hV.1 _ _ (by simp)]; exact h7
  · rw [hV.1 _ _ (by simp)]; exact h9
theorem stream_l {N : Nat} {x : Int32} (hN : N ≤ 2000) : ∀ (k i f f' : Nat) (T : gh_T) (V : gh_V) (z : Nat) (B : md_B), i + k = N → k < f → k < f' → RX 9 a0 T V B → GZ a0 T z → V.1 1 (a0 + 2) = Int32.ofNat N → (∀ j, j < N → V.2 (a0 + 3) j &&& 255 = B.2 1 j) → B.1 2 = 0 → ∃ y T' V' z' B', f_X8_stream_9 a0 f T V z x (Int32.ofNat i) = some (y, T', V', z') ∧ f_X9_stream_24 f' B x (Int32.ofNat N) (Int32.ofNat i) = some (y, B') ∧ Rel a0 T' V' B' ∧ GZ a0 T' z' ∧ z ≤ z' ∧ wt a0 T' + (z' - z) ≤ wt a0 T := by
  intro k
  induction k with
  | zero =>
    intro i f f' T V z B hi hf hf' h hg hsz htp h2
    cases f with
    | zero => omega
    | succ f =>
      cases f' with
      | zero => omega
      | succ f' =>
        have hs := h.1
        have h0 := h.2.2.1 0 (by decide)
        rw [if_neg (by decide)] at h0
        refine ⟨B.2 10 0 - x, T, gh_pf V 1 (a0 + 2) 0, z, B, ?_, ?_, h.rel h2, hg, Nat.le_refl _, by omega⟩
        · unfold f_X8_stream_9
          rw [hs.r1_0, Option.bind_some, hsz, if_pos ((nu_le (by omega) (by omega)).mpr (by omega)), Option.bind_some, hs.r0_0, Option.bind_some, hs.l1, show sv_inb (0 : Int32) 9 = true from by decide, sv_g_t rfl, ← h0]
          rfl
        · unfold f_X9_stream_24
          rw [if_pos ((nu_le (by omega) (by omega)).mpr (by omega))]
          rfl
  | succ k ih =>
    intro i f f' T V z B hi hf hf' h hg hsz htp h2
    cases f with
    | zero => omega
    | succ f =>
      cases f' with
      | zero => omega
      | succ f' =>
        have hs := h.1
        obtain ⟨c, hc, hcv⟩ := and255_lt (V.2 (a0 + 3) i)
        have hat : f_X6_at T V (a0 + 2) (Int32.ofNat i) = some (Int32.ofNat c, V) := by
          unfold f_X6_at
          rw [if_neg (nu_neg (by omega)), hsz, if_neg (mt (nu_le (by omega) (by omega)).mp (by omega)), hs.r0_2, Option.bind_some, hs.l3, if_neg (mt (nu_le (by omega) (by omega)).mp (by omega)), Option.bind_some, hs.l3, nu_inb (by omega) (by omega), sv_g_t rfl, nu_nat (by omega), hcv]
        have hB1 : B.2 1 i = Int32.ofNat c := by rw [← htp i (by omega), hcv]
        obtain ⟨o, V1, e1, hV1, hr⟩ := hear_s hs h.2.2.2.1 hc
        -- on from a state
        have next : ∀ (T2 : gh_T) (V2 : gh_V) (z2 : Nat) (B2 : md_B), RX 9 a0 T2 V2 B2 → GZ a0 T2 z2 → z ≤ z2 → wt a0 T2 + (z2 - z) ≤ wt a0 T → tpf a0 V V2 B B2 → ∃ y T' V' z' B', f_X8_stream_9 a0 f T2 V2 z2 x (Int32.ofNat (i + 1)) = some (y, T', V', z') ∧ f_X9_stream_24 f' B2 x (Int32.ofNat N) (Int32.ofNat (i + 1)) = some (y, B') ∧ Rel a0 T' V' B' ∧ GZ a0 T' z' ∧ z ≤ z' ∧ wt a0 T' + (z' - z) ≤ wt a0 T := by
          intro T2 V2 z2 B2 w1 w2 w3 w4 w5
          obtain ⟨y, T', V', z', B', y1, y2, y3, y4, y5, y6⟩ := ih (i + 1) f f' T2 V2 z2 B2 (by omega) (by omega) (by omega) w1 w2 (by rw [w5.1]; exact hsz) (fun j hj => by rw [w5.2.1, w5.2.2.2]; exact htp j hj) (by rw [w5.2.2.1]; exact h2)
          exact ⟨y, T', V', z', B', y1, y2, y3, y4, by omega, by omega⟩
        unfold f_X8_stream_9 f_X8_stream_63 f_X8_stream_76 f_X9_stream_24
        rw [hs.r1_0, Option.bind_some, hsz, if_neg (mt (nu_le (by omega) (by omega)).mp (by omega)), hs.r3_0, Option.bind_some, Option.bind_some, hat, Option.bind_some, e1, Option.bind_some, if_neg (mt (nu_le (by omega) (by omega)).mp (by omega)), nu_inb (by omega) (by omega), sv_g_t rfl, nu_nat (by omega), hB1, nu_s]
        have hlt : ∀ j, j < 9 → V.2 (a0 + 1) j = B.2 10 j := by
          intro j hj
          have := h.2.2.1 j hj
          rw [if_neg (by omega)] at this
          exact this
        have hV11 : V1.2 (a0 + 1) = V.2 (a0 + 1) := hV1.2 _ (by simp)
        rcases hr with ⟨ho, B1, b1, b2, b3, b4⟩ | ⟨rfl, B1, mm, b1, b2, b3, b4, b5, b6, b7, b8⟩
        · have htf : tpf a0 V V1 B B1 := ⟨hV1.1 _ _ (by simp [hrF]), hV1.2 _ (by simp), b2.1 _ (by simp), b2.2 _ (by simp)⟩
          rw [b1, Option.bind_some]
          rcases ho with rfl | rfl
          · rw [if_neg (by simp), if_neg (by simp)]
            refine next T V1 z B1 (h.hear hV1 b2 b4 (fun j hj => ?_)) hg (Nat.le_refl _) (by omega) htf
            rw [if_neg (by omega), b3, if_neg (by simp), hV11]
            exact hlt j hj
          · have hR1 : RX 1 a0 T V1 B1 := h.hear hV1 b2 b4 (fun j hj => by
              rw [b3, hV11]
              by_cases c1 : j = 1
              · rw [if_pos c1, if_pos ⟨c1, rfl⟩, hlt j hj, c1]
              · rw [if_neg c1, if_neg (fun hc => c1 hc.1)]
                exact hlt j hj)
            rw [if_pos rfl, hs.r0_0, Option.bind_some, hs.l1, show sv_inb (1 : Int32) 9 = true from by decide, sv_g_t rfl, sv_g_t rfl]
            exact next T (gh_pa V1 (a0 + 1) 1 (V1.2 (a0 + 1) 1 + 1)) z B1 (hR1.done (by decide)) hg (Nat.le_refl _) (by omega) ⟨htf.1, by rw [pa_n (by omega)]; exact htf.2.1, htf.2.2.1, htf.2.2.2⟩
        · have htf : tpf a0 V V1 B B1 := ⟨hV1.1 _ _ (by simp [hrF]), hV1.2 _ (by simp), b2.1 _ (by simp), b2.2 _ (by simp)⟩
          have hR1 : RX 9 a0 T V1 B1 := h.hear hV1 b2 ⟨by rw [b4, b5], Or.inl b4⟩ (fun j hj => by
            rw [if_neg (by omega), b3, hV11]
            exact hlt j hj)
          obtain ⟨w, T2, V2, z2, B2, j1, j2, j3, j4, j5, j6, j7⟩ := judge_s hR1 hg b6 b8
          have hx := e_X8_judge T V1 z a0 _ j2 hg.1 hg.2.1 hg.2.2.1
          have hs2 := j4.1
          rw [if_neg (by simp), if_pos rfl]
          dsimp only
          rw [j2, Option.bind_some, b1, j3, Option.bind_some]
          dsimp only
          rw [hs2.r0_0, Option.bind_some, hs2.l1, nu_inb (by omega) j1, sv_g_t rfl, sv_g_t rfl, nu_nat (by omega)]
          refine next T2 _ z2 B2 (j4.done j1) (hg.grow hx) j5 j6 ⟨?_, ?_, ?_, ?_⟩
          · rw [pa_1, j7.1]; exact htf.1
          · rw [pa_n (by omega), j7.2.1]; exact htf.2.1
          · rw [j7.2.2.1]; exact htf.2.2.1
          · rw [j7.2.2.2]; exact htf.2.2.2
theorem s_stream (h : Rel a0 T V B) (hg : GZ a0 T z) : ∃ q r, f_X8_stream T V z a0 = some q ∧ f_X9_stream B = some r ∧ q.1 = r.1 ∧ Rel a0 q.2.1 q.2.2.1 r.2 ∧ GZ a0 q.2.1 q.2.2.2 ∧ z ≤ q.2.2.2 ∧ wt a0 q.2.1 + (q.2.2.2 - z) ≤ wt a0 T := by
  obtain ⟨hs, ⟨N, n1, n2, n3, n4⟩, h2, h3, h4, h5, h6, h7, h8, h9, h10⟩ := h
  obtain ⟨B0, hB0⟩ : ∃ C, C = md_pf (md_pf B 0 0) 2 0 := ⟨_, rfl⟩
  have hB : cb [0, 2] [] B B0 := by rw [hB0]; exact (cb.rf.pf (by simp)).pf (by simp)
  have hR : RX 9 a0 T V B0 := by
    refine ⟨hs, ?_, fun i hi => ?_, ?_, ?_, h6.fr hs ch0 hB (by simp) (by simp) (by simp), ?_, h8.fr hs ch0 hB (by simp) (by simp) (by simp), h9, ?_⟩
    · rw [hB.1 _ (by simp), hB.2 _ (by simp)]; exact h2
    · rw [if_neg (by omega), hB.2 _ (by simp)]; exact h3 i hi
    · unfold rSv
      rw [hB.1 _ (by simp), hB.1 _ (by simp), hB.1 _ (by simp), hB.1 _ (by simp), hB.2 _ (by simp)]; exact h4
    · rw [hB.2 _ (by simp)]; exact h5
    · rw [hB.1 _ (by simp), hB.1 _ (by simp), hB.2 _ (by simp)]; exact h7
    · rw [hB.1 _ (by simp)]; exact h10
  obtain ⟨y, T', V', z', B', y1, y2, y3, y4, y5, y6⟩ := stream_l (x := V.2 (a0 + 1) 0) n1 N 0 sv_fu sv_fu T V z B0 (by omega) (fu_lt (by omega)) (fu_lt (by omega)) hR hg n2 (fun j hj => by rw [hB.2 _ (by simp)]; exact n4 j hj) (by rw [hB0, bf_1])
  refine ⟨(y, T', V', z'), (y, B'), ?_, ?_, rfl, y3, y4, y5, y6⟩
  · unfold f_X8_stream
    rw [hs.r0_0, Option.bind_some, hs.l1, show sv_inb (0 : Int32) 9 = true from by decide, sv_g_t rfl]
    exact y1
  · unfold f_X9_stream
    have e1 : (md_pf B 0 0).1 2 = Int32.ofNat N := by rw [bf_n (by decide)]; exact n3
    have e2 : (md_pf B 0 0).2 10 (0 : Int32).toNatClampNeg = V.2 (a0 + 1) 0 := (h3 0 (by decide)).symm
    rw [← hB0, e1, e2]
    exact y2
end SM
