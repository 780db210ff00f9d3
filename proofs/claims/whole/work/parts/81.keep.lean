/-! ===== PURE: parts in order ===== -/
section KP
variable {a0 z e : Nat} {T T' : gh_T} {V V' : gh_V} {B B' : md_B}
theorem RX.prt (h : RX e a0 T V B) (hs' : sh a0 T') (h21 : ∀ i, T'.2.2.2.2 (a0 + 21) i = T.2.2.2.2 (a0 + 21) i) (hV1 : ∀ k a, a < a0 + 24 → (k, a) ≠ (2, a0 + 18) → V'.1 k a = V.1 k a) (hV2 : ∀ d, d < a0 + 24 → d ≠ a0 + 16 → d ≠ a0 + 17 → d ≠ a0 + 19 → V'.2 d = V.2 d) (hves : ∀ i v, T.2.2.2.2 (a0 + 21) i = some v → ∀ y, 1 ≤ y → y ≤ 3 → V'.2 (v + y) = V.2 (v + y)) (hB : cb [26, 27] [21, 22, 23, 24, 25] B B') (hP : rP a0 T' V' B') (hM : rM (V'.1 2 (a0 + 18)) (V'.2 (a0 + 19)) (B'.1 27) (B'.1 26) (B'.2 25)) : RX e a0 T' V' B' := by
  obtain ⟨hs, h1, h2, h3, h4, h5, h6, h7, h8, h9⟩ := h
  refine ⟨hs', ?_, ?_, ?_, ?_, hP, hM, ?_, ?_, ?_⟩
  · rw [hV1 _ _ (by omega) (by simp), hV2 _ (by omega) (by omega) (by omega) (by omega), hB.1 _ (by simp), hB.2 _ (by simp)]; exact h1
  · rw [hV2 _ (by omega) (by omega) (by omega) (by omega), hB.2 _ (by simp)]; exact h2
  · unfold rSv
    rw [hV1 _ _ (by omega) (by simp), hV1 _ _ (by omega) (by simp), hV1 _ _ (by omega) (by simp), hV1 _ _ (by omega) (by simp), hV1 _ _ (by omega) (by simp), hV2 _ (by omega) (by omega) (by omega) (by omega), hB.1 _ (by simp), hB.1 _ (by simp), hB.1 _ (by simp), hB.1 _ (by simp), hB.2 _ (by simp)]
    exact h3
  · rw [hV2 _ (by omega) (by omega) (by omega) (by omega), hB.2 _ (by simp)]; exact h4
  · obtain ⟨N, n1, n2, n3, n4⟩ := h7
    refine ⟨N, n1, by rw [hV1 _ _ (by omega) (by simp)]; exact n2, by rw [hB.1 _ (by simp)]; exact n3, fun i hi => ?_⟩
    obtain ⟨v, hv, hr⟩ := n4 i hi
    have := hves i v hv
    exact ⟨v, by rw [h21]; exact hv, hr.fr (this 1 (by decide) (by decide)) (this 2 (by decide) (by decide)) (this 3 (by decide) (by decide)) (hB.2 _ (by simp)) (hB.2 _ (by simp)) (hB.2 _ (by simp))⟩
  · rw [hV1 _ _ (by omega) (by simp)]; exact h8
  · rw [hB.1 _ (by simp)]; exact h9
/-- parts of one id alone change -/
theorem rP_new {I : Nat} (hI : I ≤ 10) (h : rP a0 T V B) (ht : ∀ i, i ≠ I → T'.2.2.2.2 (a0 + 15) i = T.2.2.2.2 (a0 + 15) i) (hV : ∀ i r, i ≠ I → T.2.2.2.2 (a0 + 15) i = some r → V'.1 0 r = V.1 0 r ∧ V'.1 2 r = V.1 2 r ∧ V'.2 (r + 1) = V.2 (r + 1)) (h16 : ∀ i, i ≠ I → V'.2 (a0 + 16) i = V.2 (a0 + 16) i) (h17 : ∀ i, i ≠ I → V'.2 (a0 + 17) i = V.2 (a0 + 17) i) (b21 : ∀ i, i ≠ I → B'.2 21 i = B.2 21 i) (b22 : ∀ i, i ≠ I → B'.2 22 i = B.2 22 i) (b23 : ∀ i, i ≠ I → B'.2 23 i = B.2 23 i) (b24 : ∀ q, (q < 3240 * I ∨ 3240 * I + 3240 ≤ q) → B'.2 24 q = B.2 24 q) (hr : ∀ r, T'.2.2.2.2 (a0 + 15) I = some r → V'.1 0 r = 3240) (k1 : V'.2 (a0 + 17) I = B'.2 22 I) (k2 : V'.2 (a0 + 16) I = B'.2 21 I) (k3 : B'.2 22 I = 0 ∨ ∃ c n r : Nat, 1 ≤ c ∧ c ≤ 8 ∧ n ≤ 360 * c ∧ B'.2 22 I = Int32.ofNat c ∧ T'.2.2.2.2 (a0 + 15) I = some r ∧ V'.1 2 r = Int32.ofNat n ∧ B'.2 23 I = Int32.ofNat n ∧ rB n (V'.2 (r + 1)) (B'.2 24) (3240 * I) 103) : rP a0 T' V' B' := by
  refine ⟨fun i r hi => ?_, fun i hi => ?_⟩
  · by_cases c : i = I
    · subst c
      exact hr r hi
    · rw [ht i c] at hi
      rw [(hV i r c hi).1]
      exact h.1 i r hi
  · by_cases c : i = I
    · subst c
      exact ⟨k1, k2, k3⟩
    · obtain ⟨g1, g2, g3⟩ := h.2 i hi
      rw [h17 i c, h16 i c, b22 i c, b21 i c, b23 i c]
      refine ⟨g1, g2, ?_⟩
      rcases g3 with g3 | ⟨q, n, r, q1, q2, q3, q4, q5, q6, q7, q8⟩
      · exact Or.inl g3
      · have := hV i r c q5
        refine Or.inr ⟨q, n, r, q1, q2, q3, q4, by rw [ht i c]; exact q5, by rw [this.2.1]; exact q6, q7, ?_, ?_⟩
        · intro x hx
          rw [this.2.2, b24 _ (by omega)]
          exact q8.1 x hx
        · intro x hx hx2
          rw [this.2.2]
          exact q8.2 x hx hx2
theorem drop_s (hs : sh a0 T) {I : Nat} (hI : I ≤ 10) : f_X3_drop T V (a0 + 14) (Int32.ofNat I) = some (if V.2 (a0 + 17) I = 0 then (0, V) else (1, gh_pa V (a0 + 17) (Int32.ofNat I) 0)) := by
  unfold f_X3_drop
  rw [if_neg (nu_neg (by omega)), if_neg (mt (nl_le 11 11 rfl (by decide) (by omega)).mp (by omega)), hs.r2_14, Option.bind_some, hs.l17, nu_inb (by omega) (by omega), sv_g_t rfl, nu_nat (by omega)]
  by_cases c : V.2 (a0 + 17) I = 0
  · rw [if_pos c, if_pos c]
  · rw [if_neg c, if_neg c, Option.bind_some, hs.l17, nu_inb (by omega) (by omega), sv_g_t rfl]
/-- nothing of this id is kept any more -/
theorem RX.none (h : RX e a0 T V B) {I : Nat} (hI : I ≤ 10) (hV : ch [] [a0 + 17] V V') (hB : cb [] [22, 23] B B') (h17 : ∀ i, i ≠ I → V'.2 (a0 + 17) i = V.2 (a0 + 17) i) (k17 : V'.2 (a0 + 17) I = 0) (b22 : ∀ i, i ≠ I → B'.2 22 i = B.2 22 i) (k22 : B'.2 22 I = 0) (b23 : ∀ i, i ≠ I → B'.2 23 i = B.2 23 i) : RX e a0 T V' B' := by
  have hs := h.1
  refine h.prt hs (fun _ => rfl) (fun k a _ _ => hV.1 _ _ (by simp)) (fun d _ _ hd _ => hV.2 _ (by simpa using hd)) (fun i v hv y hy hy3 => hV.2 _ ?_) (hB.mono (by simp) (by simp)) ?_ ?_
  · have := (hs.2.2.2.1 i v hv).1
    simp
    omega
  · refine rP_new hI h.2.2.2.2.2.1 (fun _ _ => rfl) (fun i r _ hr => ⟨hV.1 _ _ (by simp), hV.1 _ _ (by simp), hV.2 _ ?_⟩) (fun i _ => by rw [hV.2 _ (by simp)]) h17 (fun i _ => by rw [hB.2 _ (by simp)]) b22 b23 (fun q _ => by rw [hB.2 _ (by simp)]) (fun r hr => ?_) (by rw [k17, k22]) ?_ (Or.inl k22)
    · have := (hs.2.2.1.1 i r hr).1
      simp
      omega
    · rw [hV.1 _ _ (by simp)]
      exact h.2.2.2.2.2.1.1 I r hr
    · rw [hV.2 _ (by simp), hB.2 _ (by simp)]
      exact (h.2.2.2.2.2.1.2 I (by omega)).2.1
  · rw [hV.1 _ _ (by simp), hV.2 _ (by simp), hB.1 _ (by simp), hB.1 _ (by simp), hB.2 _ (by simp)]
    exact h.2.2.2.2.2.2.1
theorem gz_is (hs : sh a0 T) (hg : GZ a0 T z) : gh_is T (a0 + 14) 3 := hg.1.1 a0 8 6 3 (a0 + 14) hg.2.2.1 rfl hs.r6_0
theorem GZ.grow {z' : Nat} (hg : GZ a0 T z) (hx : gh_X T z T' z') : GZ a0 T' z' := ⟨hx.2.1, hx.2.2.1, hx.2.2.2.1 _ _ hg.2.2.1, Nat.le_trans hg.2.2.2 hx.1⟩
/-- a row of bits for an id -/
theorem keep_c {I M c n0 : Nat} (hI : I ≤ 10) (h : RX e a0 T V B) (hg : GZ a0 T z) (hk : (c = 0 ∧ n0 = 0 ∧ V.2 (a0 + 17) I = 0) ∨ (1 ≤ c ∧ c ≤ 8 ∧ V.2 (a0 + 17) I = Int32.ofNat c ∧ ∃ r, T.2.2.2.2 (a0 + 15) I = some r ∧ V.1 2 r = Int32.ofNat n0 ∧ rB n0 (V.2 (r + 1)) (B.2 24) (3240 * I) 103)) :
    ∃ r T' V' z', f_X3_keep T V z (a0 + 14) (Int32.ofNat I) (Int32.ofNat M) = some (some r, T', V', z') ∧ sh a0 T' ∧ T'.2.2.2.2 (a0 + 15) I = some r ∧ (∀ i, i ≠ I → T'.2.2.2.2 (a0 + 15) i = T.2.2.2.2 (a0 + 15) i) ∧ (∀ i, T'.2.2.2.2 (a0 + 21) i = T.2.2.2.2 (a0 + 21) i) ∧ GZ a0 T' z' ∧ z ≤ z' ∧ wt a0 T' + (z' - z) ≤ wt a0 T ∧ V'.1 0 r = 3240 ∧ V'.1 2 r = Int32.ofNat n0 ∧ rB n0 (V'.2 (r + 1)) (B.2 24) (3240 * I) 103 ∧ Fm z [(2, r)] [a0 + 16, a0 + 17, r + 1] V V' ∧ (∀ i, V'.2 (a0 + 16) i = if i = I then Int32.ofNat M else V.2 (a0 + 16) i) ∧ ∀ i, V'.2 (a0 + 17) i = if i = I then Int32.ofNat (c + 1) else V.2 (a0 + 17) i := by
  have hs := h.1
  have hP := h.2.2.2.2.2.1
  obtain ⟨q1, q2, q3, q4⟩ := hg
  have hc8 : c ≤ 8 := by rcases hk with ⟨rfl, -⟩ | ⟨-, hc, -⟩ <;> omega
  have h17 : V.2 (a0 + 17) I = Int32.ofNat c := by
    rcases hk with ⟨rfl, -, hk⟩ | ⟨-, -, hk, -⟩
    · exact hk
    · exact hk
  -- from the row on
  have fin : ∀ (T1 : gh_T) (V1 : gh_V) (z1 r : Nat), sh a0 T1 → T1.2.2.2.2 (a0 + 15) I = some r → (∀ i, i ≠ I → T1.2.2.2.2 (a0 + 15) i = T.2.2.2.2 (a0 + 15) i) → (∀ i, T1.2.2.2.2 (a0 + 21) i = T.2.2.2.2 (a0 + 21) i) → z ≤ z1 → wt a0 T1 + (z1 - z) ≤ wt a0 T → V1.1 0 r = 3240 → (c ≠ 0 → V1.1 2 r = Int32.ofNat n0 ∧ rB n0 (V1.2 (r + 1)) (B.2 24) (3240 * I) 103) → Fm z [] [] V V1 → ∃ r T' V' z', f_X3_keep_42 (a0 + 14) T1 V1 z1 (Int32.ofNat M) (Int32.ofNat I) = some (some r, T', V', z') ∧ sh a0 T' ∧ T'.2.2.2.2 (a0 + 15) I = some r ∧ (∀ i, i ≠ I → T'.2.2.2.2 (a0 + 15) i = T.2.2.2.2 (a0 + 15) i) ∧ (∀ i, T'.2.2.2.2 (a0 + 21) i = T.2.2.2.2 (a0 + 21) i) ∧ z ≤ z' ∧ wt a0 T' + (z' - z) ≤ wt a0 T ∧ V'.1 0 r = 3240 ∧ V'.1 2 r = Int32.ofNat n0 ∧ rB n0 (V'.2 (r + 1)) (B.2 24) (3240 * I) 103 ∧ Fm z [(2, r)] [a0 + 16, a0 + 17, r + 1] V V' ∧ (∀ i, V'.2 (a0 + 16) i = if i = I then Int32.ofNat M else V.2 (a0 + 16) i) ∧ ∀ i, V'.2 (a0 + 17) i = if i = I then Int32.ofNat (c + 1) else V.2 (a0 + 17) i := by
    intro T1 V1 z1 r hs1 hr1 h15 h21 hz1 hw1 hroom hrow hFm
    have hrq := hs1.2.2.1.1 I r hr1
    have k17 : V1.2 (a0 + 17) = V.2 (a0 + 17) := hFm.2 _ (by omega) (by simp)
    have k16 : V1.2 (a0 + 16) = V.2 (a0 + 16) := hFm.2 _ (by omega) (by simp)
    have last : ∀ V2 : gh_V, ch [(2, r)] [r + 1] V1 V2 → V2.1 2 r = Int32.ofNat n0 → rB n0 (V2.2 (r + 1)) (B.2 24) (3240 * I) 103 → ∃ r T' V' z', f_X3_keep_60 (a0 + 14) T1 V2 z1 (Int32.ofNat M) (Int32.ofNat I) = some (some r, T', V', z') ∧ sh a0 T' ∧ T'.2.2.2.2 (a0 + 15) I = some r ∧ (∀ i, i ≠ I → T'.2.2.2.2 (a0 + 15) i = T.2.2.2.2 (a0 + 15) i) ∧ (∀ i, T'.2.2.2.2 (a0 + 21) i = T.2.2.2.2 (a0 + 21) i) ∧ z ≤ z' ∧ wt a0 T' + (z' - z) ≤ wt a0 T ∧ V'.1 0 r = 3240 ∧ V'.1 2 r = Int32.ofNat n0 ∧ rB n0 (V'.2 (r + 1)) (B.2 24) (3240 * I) 103 ∧ Fm z [(2, r)] [a0 + 16, a0 + 17, r + 1] V V' ∧ (∀ i, V'.2 (a0 + 16) i = if i = I then Int32.ofNat M else V.2 (a0 + 16) i) ∧ ∀ i, V'.2 (a0 + 17) i = if i = I then Int32.ofNat (c + 1) else V.2 (a0 + 17) i := by
      intro V2 hV2 hl hb
      have m17 : V2.2 (a0 + 17) = V.2 (a0 + 17) := by rw [hV2.2 _ (by simp; omega), k17]
      have m16 : V2.2 (a0 + 16) = V.2 (a0 + 16) := by rw [hV2.2 _ (by simp; omega), k16]
      refine ⟨r, T1, gh_pa (gh_pa V2 (a0 + 16) (Int32.ofNat I) (Int32.ofNat M)) (a0 + 17) (Int32.ofNat I) (Int32.ofNat (c + 1)), z1, ?_, hs1, hr1, h15, h21, hz1, hw1, ?_, hl, ?_, ?_, fun i => ?_, fun i => ?_⟩
      · unfold f_X3_keep_60
        have e : (gh_pa V2 (a0 + 16) (Int32.ofNat I) (Int32.ofNat M)).2 (a0 + 17) I + 1 = Int32.ofNat (c + 1) := by
          rw [pa_n (by omega), m17, h17, nu_s]
        rw [hs1.r1_14, Option.bind_some, hs1.l16, nu_inb (by omega) (by omega), sv_g_t rfl, hs1.r2_14, Option.bind_some, hs1.l17, nu_inb (by omega) (by omega), sv_g_t rfl, sv_g_t rfl, hs1.r0_14, Option.bind_some, hs1.l15, nu_inb (by omega) (by omega), sv_g_t rfl, nu_nat (by omega), hr1]
        dsimp only
        rw [e]
      · rw [pa_1, pa_1, hV2.1 _ _ (by simp)]; exact hroom
      · rw [pa_n (by omega), pa_n (by omega)]; exact hb
      · exact (hFm.mono (by simp) (by simp)).trans (Fm.of (((hV2.mono (by simp) (by simp)).pa (by simp)).pa (by simp)))
      · rw [pa_n (by omega), pa_2, nu_nat (by omega), m16]
        rfl
      · rw [pa_2, nu_nat (by omega), pa_n (by omega), m17]
        rfl
    unfold f_X3_keep_42
    rw [hs1.r2_14, Option.bind_some, hs1.l17, nu_inb (by omega) (by omega), sv_g_t rfl, nu_nat (by omega), k17, h17]
    by_cases c0 : c = 0
    · have hn0 : n0 = 0 := by
        rcases hk with ⟨-, h, -⟩ | ⟨h, -⟩
        · exact h
        · omega
      obtain ⟨V2, e1, e2, e3, e4⟩ := empty_s (V := V1) hrq.2.2.2.1 hrq.2.2.2.2 (by decide)
      rw [if_pos ((fl0 (by omega)).mpr c0), hs1.r0_14, Option.bind_some, hs1.l15, nu_inb (by omega) (by omega), sv_g_t rfl, hr1, Option.bind_some, e1, Option.bind_some]
      refine last V2 e2 (by rw [e3, hn0]; rfl) ?_
      rw [hn0]
      exact ⟨fun i hi => by omega, fun i _ hi => e4 i hi⟩
    · rw [if_neg (mt (fl0 (by omega)).mp c0)]
      obtain ⟨w1, w2⟩ := hrow c0
      exact last V1 ch.rf w1 w2
  have main : ∃ r T' V' z', f_X3_keep T V z (a0 + 14) (Int32.ofNat I) (Int32.ofNat M) = some (some r, T', V', z') ∧ sh a0 T' ∧ T'.2.2.2.2 (a0 + 15) I = some r ∧ (∀ i, i ≠ I → T'.2.2.2.2 (a0 + 15) i = T.2.2.2.2 (a0 + 15) i) ∧ (∀ i, T'.2.2.2.2 (a0 + 21) i = T.2.2.2.2 (a0 + 21) i) ∧ z ≤ z' ∧ wt a0 T' + (z' - z) ≤ wt a0 T ∧ V'.1 0 r = 3240 ∧ V'.1 2 r = Int32.ofNat n0 ∧ rB n0 (V'.2 (r + 1)) (B.2 24) (3240 * I) 103 ∧ Fm z [(2, r)] [a0 + 16, a0 + 17, r + 1] V V' ∧ (∀ i, V'.2 (a0 + 16) i = if i = I then Int32.ofNat M else V.2 (a0 + 16) i) ∧ ∀ i, V'.2 (a0 + 17) i = if i = I then Int32.ofNat (c + 1) else V.2 (a0 + 17) i := by
    unfold f_X3_keep f_X3_keep_16
    rw [if_neg (nu_neg (by omega)), if_neg (mt (nl_le 11 11 rfl (by decide) (by omega)).mp (by omega)), hs.r0_14, Option.bind_some, hs.l15, nu_inb (by omega) (by omega), sv_g_t rfl, nu_nat (by omega)]
    cases hr : T.2.2.2.2 (a0 + 15) I with
    | some r =>
      refine fin T V z r hs hr (fun _ _ => rfl) (fun _ => rfl) (Nat.le_refl _) (by omega) (hP.1 I r hr) (fun hc => ?_) ⟨fun _ _ _ _ => rfl, fun _ _ _ => rfl⟩
      rcases hk with ⟨h, -⟩ | ⟨-, -, -, r', hr', w⟩
      · exact absurd h hc
      · rw [hr] at hr'
        cases hr'
        exact w
    | none =>
      have hc0 : c = 0 := by
        rcases hk with ⟨h, -⟩ | ⟨-, -, -, r', hr', -⟩
        · exact h
        · rw [hr] at hr'; cases hr'
      obtain ⟨k1, k2, k3, k4, k5, k6⟩ := nr_sh hs q4 q2 (show I < 11 by omega) hr
      rw [Option.bind_some]
      unfold f_X3_keep_34 f_X0_init f_X0_init_14 f_X3_keep_41
      rw [if_pos (by decide)]
      have e103 : ((gh_pf (gh_nv V z) 0 z 3240).1 0 z / 32 + 2).toNatClampNeg = 103 := by rw [pf_1]; decide
      have g0 : (decide (¬ (((gh_pf (gh_nv V z) 0 z 3240).1 0 z / 32) + 2) < 0) && decide ((((gh_pf (gh_nv V z) 0 z 3240).1 0 z / 32) + 2).toNatClampNeg ≤ 103)) = true := by rw [pf_1]; decide
      rw [sv_g_t g0, Option.bind_some, e103]
      dsimp only
      have hl15 : (gh_pr (gh_newa (gh_new T z 0) (z + 1) 10 103) 1 z (some (z + 1))).2.2.2.1 (a0 + 15) = 11 := k1.l15
      rw [hl15, nu_inb (by omega) (by omega), sv_g_t rfl]
      refine fin (nrT a0 z I T) _ (z + 1 + 1) z k1 (by rw [k5, if_pos rfl]) (fun i hi => by rw [k5, if_neg hi]) k4 (by omega) (by omega) ?_ (fun hc => absurd hc0 hc) ?_
      · show (gh_pf (gh_nv V z) 0 z 3240).1 0 z = 3240
        rw [pf_1]
      · refine gz_pf.trans (Fm.trans (V1 := gh_pf (gh_nv V z) 0 z 3240) ⟨fun k a ha _ => pf_n (by omega), fun _ _ _ => rfl⟩ (gz_pa (by omega)))
  obtain ⟨r, T', V', z', m1, m2, m3, m4, m5, m6⟩ := main
  exact ⟨r, T', V', z', m1, m2, m3, m4, m5, GZ.grow ⟨q1, q2, q3, q4⟩ (e_X3_keep T V z (a0 + 14) _ _ _ m1 q1 q2 (gz_is hs ⟨q1, q2, q3, q4⟩)), m6⟩
end KP
