/-! ===== PURE: feed, again, clear ===== -/
theorem Rel.tape {a0 : Nat} {T : gh_T} {V V' : gh_V} {B B' : md_B} (h : Rel a0 T V B) (hV : ch [(1, a0 + 2)] [a0 + 3] V V') (hB : cb [0, 2] [1] B B') (hr : rR 2000 (V'.1 1 (a0 + 2)) (V'.2 (a0 + 3)) (B'.1 2) (B'.2 1)) : Rel a0 T V' B' := by
  obtain ⟨hs, h1, h2, h3, h4, h5, h6, h7, h8, h9, h10⟩ := h
  refine ⟨hs, hr, ?_, ?_, ?_, ?_, h6.fr hs hV hB (by simp) (by simp) (by simp), ?_, h8.fr hs hV hB (by simp) (by simp) (by simp), ?_, ?_⟩
  · rw [hV.1 _ _ (by simp), hV.2 _ (by simp), hB.1 _ (by decide), hB.2 _ (by decide)]; exact h2
  · rw [hV.2 _ (by simp), hB.2 _ (by decide)]; exact h3
  · rw [hV.1 _ _ (by simp), hV.1 _ _ (by simp), hV.1 _ _ (by simp), hV.1 _ _ (by simp), hV.1 _ _ (by simp), hV.2 _ (by simp), hB.1 _ (by decide), hB.1 _ (by decide), hB.1 _ (by decide), hB.1 _ (by decide), hB.2 _ (by decide)]; exact h4
  · rw [hV.2 _ (by simp), hB.2 _ (by decide)]; exact h5
  · rw [hV.1 _ _ (by simp), hV.2 _ (by simp), hB.1 _ (by decide), hB.1 _ (by decide), hB.2 _ (by decide)]; exact h7
  · rw [hV.1 _ _ (by simp)]; exact h9
  · rw [hB.1 _ (by decide)]; exact h10
section FE
variable {a0 : Nat} {T : gh_T} {V : gh_V} {B : md_B}
theorem sr_one {a d L k : Nat} (x : Int32) (hr : T.2.2.1 0 a = some d) (hl : T.2.2.2.1 d = L) (hL : L < 2147483648) (hk : V.1 1 a = Int32.ofNat k) (hk2 : k < L) : ∃ V', f_X6_add T V a x = some V' ∧ ch [(1, a)] [d] V V' ∧ V'.1 1 a = Int32.ofNat (k + 1) ∧ ∀ i, V'.2 d i = if i = k then pb x else V.2 d i := by
  refine ⟨_, sr_add hr hl hL hk hk2, (ch.rf.pa (by simp)).pf (by simp), pf_1, fun i => ?_⟩
  rw [pf_2, pa_2, nu_nat (by omega)]
  rfl
def wby (w : Int32) (j : Nat) : Int32 := if j = 3 then w else if j = 2 then (w.toUInt32 >>> ((8 : Int32).toUInt32 &&& Int32.toUInt32 31)).toInt32 else if j = 1 then (w.toUInt32 >>> ((16 : Int32).toUInt32 &&& Int32.toUInt32 31)).toInt32 else (w.toUInt32 >>> ((24 : Int32).toUInt32 &&& Int32.toUInt32 31)).toInt32
theorem m255 {i : Nat} (hi : i < 32) : BitVec.getLsbD 255#32 i = decide (i < 8) := by
  have : ∀ i, i < 32 → BitVec.getLsbD 255#32 i = decide (i < 8) := by decide
  exact this i hi
theorem and255_eq {x y : Int32} (h : ∀ i, i < 8 → x.toBitVec.getLsbD i = y.toBitVec.getLsbD i) : x &&& 255 = y &&& 255 := by
  apply Int32.toBitVec_inj.mp
  apply BitVec.eq_of_getLsbD_eq
  intro i hi
  show (x.toBitVec &&& 255#32).getLsbD i = (y.toBitVec &&& 255#32).getLsbD i
  rw [BitVec.getLsbD_and, BitVec.getLsbD_and, m255 hi]
  by_cases h8 : i < 8
  · rw [h i h8]
  · simp [h8]
theorem wby_and (w : Int32) (j : Nat) (hj : j < 4) : wby w j &&& 255 = (w >>> Int32.ofNat (24 - 8 * j)) &&& 255 := by
  apply and255_eq
  intro i hi
  rcases (show j = 0 ∨ j = 1 ∨ j = 2 ∨ j = 3 by omega) with rfl | rfl | rfl | rfl
  · show (w.toBitVec >>> 24).getLsbD i = (w.toBitVec.sshiftRight 24).getLsbD i
    rw [BitVec.getLsbD_ushiftRight, BitVec.getLsbD_sshiftRight]
    simp [show i < 32 by omega, show 24 + i < 32 by omega, show ¬ 32 ≤ i by omega]
  · show (w.toBitVec >>> 16).getLsbD i = (w.toBitVec.sshiftRight 16).getLsbD i
    rw [BitVec.getLsbD_ushiftRight, BitVec.getLsbD_sshiftRight]
    simp [show i < 32 by omega, show 16 + i < 32 by omega, show ¬ 32 ≤ i by omega]
  · show (w.toBitVec >>> 8).getLsbD i = (w.toBitVec.sshiftRight 8).getLsbD i
    rw [BitVec.getLsbD_ushiftRight, BitVec.getLsbD_sshiftRight]
    simp [show i < 32 by omega, show 8 + i < 32 by omega, show ¬ 32 ≤ i by omega]
  · show w.toBitVec.getLsbD i = (w.toBitVec.sshiftRight 0).getLsbD i
    rw [BitVec.getLsbD_sshiftRight]
    simp [show i < 32 by omega, show ¬ 32 ≤ i by omega]
theorem sr_word {a d L k : Nat} (w : Int32) (hr : T.2.2.1 0 a = some d) (hl : T.2.2.2.1 d = L) (hL : L < 2147483648) (hk : V.1 1 a = Int32.ofNat k) (hk2 : k + 4 ≤ L) : ∃ V', f_X6_addWord T V a w = some V' ∧ ch [(1, a)] [d] V V' ∧ V'.1 1 a = Int32.ofNat (k + 4) ∧ ∀ i, V'.2 d i = if k ≤ i ∧ i < k + 4 then pb (wby w (i - k)) else V.2 d i := by
  obtain ⟨V1, e1, c1, s1, v1⟩ := sr_one ((w.toUInt32 >>> ((24 : Int32).toUInt32 &&& Int32.toUInt32 31)).toInt32) hr hl hL hk (by omega)
  obtain ⟨V2, e2, c2, s2, v2⟩ := sr_one ((w.toUInt32 >>> ((16 : Int32).toUInt32 &&& Int32.toUInt32 31)).toInt32) hr hl hL s1 (by omega)
  obtain ⟨V3, e3, c3, s3, v3⟩ := sr_one ((w.toUInt32 >>> ((8 : Int32).toUInt32 &&& Int32.toUInt32 31)).toInt32) hr hl hL s2 (by omega)
  obtain ⟨V4, e4, c4, s4, v4⟩ := sr_one w hr hl hL s3 (by omega)
  refine ⟨V4, ?_, ((c1.trans c2).trans c3).trans c4, s4, fun i => ?_⟩
  · unfold f_X6_addWord
    rw [e1, Option.bind_some, e2, Option.bind_some, e3, Option.bind_some, e4]
    rfl
  · rw [v4, v3, v2, v1]
    by_cases h3 : i = k + 1 + 1 + 1
    · rw [if_pos h3, if_pos ⟨by omega, by omega⟩, show i - k = 3 by omega]
      rfl
    · rw [if_neg h3]
      by_cases h2 : i = k + 1 + 1
      · rw [if_pos h2, if_pos ⟨by omega, by omega⟩, show i - k = 2 by omega]
        rfl
      · rw [if_neg h2]
        by_cases h1 : i = k + 1
        · rw [if_pos h1, if_pos ⟨by omega, by omega⟩, show i - k = 1 by omega]
          rfl
        · rw [if_neg h1]
          by_cases h0 : i = k
          · rw [if_pos h0, if_pos ⟨by omega, by omega⟩, show i - k = 0 by omega]
            rfl
          · rw [if_neg h0, if_neg (by omega)]
def sel5 (x1 x2 x3 x4 x5 : Int32) (j : Nat) : Int32 := if j < 4 then x1 else if j < 8 then x2 else if j < 12 then x3 else if j < 16 then x4 else x5
theorem shf : ∀ j, j < 20 → ((24 - (8 * (Int32.ofNat j - Int32.ofNat j / 4 * 4))) &&& 31) = Int32.ofNat (24 - 8 * (j % 4)) := by decide +kernel
theorem feed_l {k : Nat} {x1 x2 x3 x4 x5 : Int32} (hk : k + 20 ≤ 2000) : ∀ (m j n : Nat) (B : md_B), j + m = 20 → m < n → B.1 2 = Int32.ofNat k → ∃ B', f_X9_feed_21 n B x1 x2 x3 x4 x5 (Int32.ofNat j) = some (Int32.ofNat (k + 20), B') ∧ cb [2] [1] B B' ∧ B'.1 2 = Int32.ofNat (k + 20) ∧ ∀ i, B'.2 1 i = if k + j ≤ i ∧ i < k + 20 then (sel5 x1 x2 x3 x4 x5 (i - k) >>> Int32.ofNat (24 - 8 * ((i - k) % 4))) &&& 255 else B.2 1 i := by
  intro m
  induction m with
  | zero =>
    intro j n B hj hn hB
    cases n with
    | zero => omega
    | succ n =>
      unfold f_X9_feed_21
      rw [if_pos ((nl_le 20 20 rfl (by decide) (by omega)).mpr (by omega)), hB, bf_1]
      have e : Int32.ofNat k + 20 = Int32.ofNat (k + 20) := nu_add k 20
      rw [e]
      exact ⟨_, rfl, cb.rf.pf (by simp), bf_1, fun i => by rw [if_neg (by omega)]; rfl⟩
  | succ m ih =>
    intro j n B hj hn hB
    cases n with
    | zero => omega
    | succ n =>
      have hw : f_X9_feed_21 (n + 1) B x1 x2 x3 x4 x5 (Int32.ofNat j) = f_X9_feed_74 (f_X9_feed_21 n) B x1 x2 x3 x4 x5 (Int32.ofNat j) (sel5 x1 x2 x3 x4 x5 j) := by
        rw [f_X9_feed_21, if_neg (mt (nl_le 20 20 rfl (by decide) (by omega)).mp (by omega))]
        unfold sel5
        by_cases c4 : j < 4
        · rw [if_neg (mt (nl_le 4 4 rfl (by decide) (by omega)).mp (by omega)), if_pos c4]
        · rw [if_pos ((nl_le 4 4 rfl (by decide) (by omega)).mpr (by omega)), if_neg c4]
          by_cases c8 : j < 8
          · rw [if_neg (mt (nl_le 8 8 rfl (by decide) (by omega)).mp (by omega)), if_pos c8]
          · rw [if_pos ((nl_le 8 8 rfl (by decide) (by omega)).mpr (by omega)), if_neg c8]
            by_cases c12 : j < 12
            · rw [if_neg (mt (nl_le 12 12 rfl (by decide) (by omega)).mp (by omega)), if_pos c12]
            · rw [if_pos ((nl_le 12 12 rfl (by decide) (by omega)).mpr (by omega)), if_neg c12]
              by_cases c16 : j < 16
              · rw [if_neg (mt (nl_le 16 16 rfl (by decide) (by omega)).mp (by omega)), if_pos c16]
              · rw [if_pos ((nl_le 16 16 rfl (by decide) (by omega)).mpr (by omega)), if_neg c16]
      rw [hw]
      unfold f_X9_feed_74
      rw [hB, nu_add, nu_inb (by omega) (by omega), sv_g_t rfl, nu_s, shf j (by omega)]
      obtain ⟨B', e1, e2, e3, e4⟩ := ih (j + 1) n (md_pa B 1 (Int32.ofNat (k + j)) (sel5 x1 x2 x3 x4 x5 j >>> Int32.ofNat (24 - 8 * (j % 4)) &&& 255)) (by omega) (by omega) hB
      refine ⟨B', e1, (cb.rf.pa (by simp)).trans e2, e3, fun i => ?_⟩
      rw [e4]
      by_cases hi : k + (j + 1) ≤ i ∧ i < k + 20
      · rw [if_pos hi, if_pos ⟨by omega, hi.2⟩]
      · rw [if_neg hi, ba_2, nu_nat (by omega)]
        unfold upd
        by_cases h2 : i = k + j
        · rw [if_pos h2, if_pos ⟨by omega, by omega⟩, show i - k = j by omega]
        · rw [if_neg h2, if_neg (by omega)]
theorem s_feed (h : Rel a0 T V B) (x1 x2 x3 x4 x5 : Int32) : ∃ q r, f_X8_feed T V a0 x1 x2 x3 x4 x5 = some q ∧ f_X9_feed B x1 x2 x3 x4 x5 = some r ∧ q.1 = r.1 ∧ Rel a0 T q.2 r.2 := by
  have h0 := h
  obtain ⟨hs, ⟨k, k1, k2, k3, k4⟩, -⟩ := h
  unfold f_X8_feed f_X9_feed f_X6_hasRoom
  have e20 : Int32.ofNat k + 20 = Int32.ofNat (k + 20) := nu_add k 20
  have eB : (md_pf B 0 0).1 2 = Int32.ofNat k := by rw [bf_n (by decide)]; exact k3
  rw [hs.r1_0, Option.bind_some, hs.r0_2, Option.bind_some, hs.l3, k2, e20, eB]
  by_cases c : k ≤ 1980
  · rw [if_neg (by rw [nu_lt (by omega) (by omega)]; omega), Option.bind_some, if_neg (by simp), if_pos ((nl_ge 1980 1980 rfl (by decide) (by omega)).mpr c)]
    simp only [Option.bind_some]
    obtain ⟨V1, d1, c1, s1, v1⟩ := sr_word x1 hs.r0_2 hs.l3 (by decide) k2 (by omega)
    obtain ⟨V2, d2, c2, s2, v2⟩ := sr_word x2 hs.r0_2 hs.l3 (by decide) s1 (by omega)
    obtain ⟨V3, d3, c3, s3, v3⟩ := sr_word x3 hs.r0_2 hs.l3 (by decide) s2 (by omega)
    obtain ⟨V4, d4, c4, s4, v4⟩ := sr_word x4 hs.r0_2 hs.l3 (by decide) s3 (by omega)
    obtain ⟨V5, d5, c5, s5, v5⟩ := sr_word x5 hs.r0_2 hs.l3 (by decide) s4 (by omega)
    obtain ⟨B', b1, b2, b3, b4⟩ := feed_l (x1 := x1) (x2 := x2) (x3 := x3) (x4 := x4) (x5 := x5) (k := k) (by omega) 20 0 sv_fu (md_pf B 0 0) rfl (fu_lt (by decide)) eB
    have b1' : f_X9_feed_21 sv_fu (md_pf B 0 0) x1 x2 x3 x4 x5 0 = some (Int32.ofNat (k + 20), B') := b1
    rw [d1, Option.bind_some, d2, Option.bind_some, d3, Option.bind_some, d4, Option.bind_some, d5, Option.bind_some, b1', s5]
    refine ⟨_, _, rfl, rfl, rfl, ?_⟩
    refine h0.tape ((((c1.trans c2).trans c3).trans c4).trans c5) ((cb.rf.pf (by simp)).trans (b2.mono (by simp) (by simp))) ⟨k + 20, by omega, s5, b3, fun i hi => ?_⟩
    rw [b4]
    by_cases hk : i < k
    · rw [v5, v4, v3, v2, v1, if_neg (by omega), if_neg (by omega), if_neg (by omega), if_neg (by omega), if_neg (by omega), if_neg (by omega)]
      exact k4 i hk
    · rw [if_pos ⟨by omega, by omega⟩]
      have fin : ∀ (w : Int32) (j s : Nat), j < 4 → s = 24 - 8 * j → pb (wby w j) &&& 255 = (w >>> Int32.ofNat s) &&& 255 := fun w j s hj hsj => by rw [pb_and, wby_and w j hj, hsj]
      rw [v5]
      by_cases g5 : k + 16 ≤ i
      · rw [if_pos ⟨by omega, by omega⟩, show sel5 x1 x2 x3 x4 x5 (i - k) = x5 by simp [sel5, show ¬ i - k < 4 by omega, show ¬ i - k < 8 by omega, show ¬ i - k < 12 by omega, show ¬ i - k < 16 by omega]]
        exact fin _ _ _ (by omega) (by omega)
      · rw [if_neg (by omega), v4]
        by_cases g4 : k + 12 ≤ i
        · rw [if_pos ⟨by omega, by omega⟩, show sel5 x1 x2 x3 x4 x5 (i - k) = x4 by simp [sel5, show ¬ i - k < 4 by omega, show ¬ i - k < 8 by omega, show ¬ i - k < 12 by omega, show i - k < 16 by omega]]
          exact fin _ _ _ (by omega) (by omega)
        · rw [if_neg (by omega), v3]
          by_cases g3 : k + 8 ≤ i
          · rw [if_pos ⟨by omega, by omega⟩, show sel5 x1 x2 x3 x4 x5 (i - k) = x3 by simp [sel5, show ¬ i - k < 4 by omega, show ¬ i - k < 8 by omega, show i - k < 12 by omega]]
            exact fin _ _ _ (by omega) (by omega)
          · rw [if_neg (by omega), v2]
            by_cases g2 : k + 4 ≤ i
            · rw [if_pos ⟨by omega, by omega⟩, show sel5 x1 x2 x3 x4 x5 (i - k) = x2 by simp [sel5, show ¬ i - k < 4 by omega, show i - k < 8 by omega]]
              exact fin _ _ _ (by omega) (by omega)
            · rw [if_neg (by omega), v1, if_pos ⟨by omega, by omega⟩, show sel5 x1 x2 x3 x4 x5 (i - k) = x1 by simp [sel5, show i - k < 4 by omega]]
              exact fin _ _ _ (by omega) (by omega)
  · rw [if_pos (by rw [nu_lt (by omega) (by omega)]; omega), Option.bind_some, if_pos rfl, if_neg (mt (nl_ge 1980 1980 rfl (by decide) (by omega)).mp c)]
    exact ⟨_, _, rfl, rfl, rfl, h0.q0⟩
end FE
