/-! ===== PURE: send ===== -/
theorem wrs4 {B : md_B} {m p : Nat} (k : md_B → Option md_B) (l : List Nat) (hk : ∀ q, k q = wrs l q) : (f_X9_write B (48 + Int32.ofNat m)).bind (fun q12 => (f_X9_write q12 44).bind (fun q18 => (f_X9_write q18 (48 + Int32.ofNat p)).bind (fun q26 => (f_X9_write q26 44).bind (fun q32 => k q32)))) = wrs ((48 + m) :: 44 :: (48 + p) :: 44 :: l) B := by
  have e1 : 48 + Int32.ofNat m = Int32.ofNat (48 + m) := nu_add 48 m
  have e2 : 48 + Int32.ofNat p = Int32.ofNat (48 + p) := nu_add 48 p
  rw [e1, e2]
  show _ = (f_X9_write B (Int32.ofNat (48 + m))).bind (fun q => (f_X9_write q 44).bind (fun q => (f_X9_write q (Int32.ofNat (48 + p))).bind (fun q => (f_X9_write q 44).bind (fun q => wrs l q))))
  simp only [hk]
section SD
variable {a0 : Nat} {T : gh_T} {V : gh_V} {B : md_B} {s k : Nat}
theorem sent_s {many part frm to n R F : Nat} {idl : List Nat} {x2 x3 : Int32} (hid : (x2 = -2147483648 ∧ x3 = -1 ∧ idl = []) ∨ ∃ d : Nat, d ≤ 9 ∧ x2 = Int32.ofNat d ∧ x3 = Int32.ofNat d ∧ idl = [48 + d]) (hs : sh a0 T) (h : rO a0 s s V B) (hm : many < 10) (hp : part < 10) (hto : to ≤ 71) (hft : frm ≤ to) (hcap : s + 21 + idl.length + (to - frm) ≤ 115) (hn : 6 * frm + n ≤ 424) (hN : (Int32.ofNat n + 5) / 6 = Int32.ofNat (to - frm)) (hb : ∀ j, j < 6 * (to - frm) → wb (V.2 (a0 + 23)) (6 * frm + j) = (decide (6 * frm + j < 6 * frm + n) && gb (B.2 35) (6 * frm + j))) (hR : V.1 2 (a0 + 22) = Int32.ofNat R) (hR2 : R ≤ 424) (hF : 6 * to - R = F) (hF2 : F < 10) (hr : 48 + 6 * Int32.ofNat (to - frm) - Int32.ofNat n = Int32.ofNat (48 + F)) :
    ∃ V' B', f_X8_writeSentence T V a0 ([48 + many, 44, 48 + part, 44].map Int32.ofNat) x2 (Int32.ofNat frm) (Int32.ofNat to) = some V' ∧ f_X9_sentence B (Int32.ofNat many) (Int32.ofNat part) x3 (Int32.ofNat (6 * frm)) (Int32.ofNat n) = some B' ∧ ch [(1, a0 + 4)] [a0 + 5] V V' ∧ cb [4, 37] [3] B B' ∧ rO a0 s (s + 21 + idl.length + (to - frm)) V' B' := by
  have hidl : ∀ c ∈ idl, c < 128 ∧ c ≠ 33 := by
    intro c hc
    rcases hid with ⟨-, -, rfl⟩ | ⟨d, d1, -, -, rfl⟩
    · simp at hc
    · simp at hc
      omega
  obtain ⟨V1, B1, d1, d2, d3, d4, d5⟩ := wl0 (s := s) hs ([65, 73, 86, 68, 77, 44] ++ ((48 + many) :: 44 :: (48 + part) :: 44 :: (idl ++ [44, 65, 44]))) h (by
    intro c hc
    simp only [List.cons_append, List.nil_append, List.mem_cons, List.mem_append, List.not_mem_nil, or_false] at hc
    rcases hc with rfl | rfl | rfl | rfl | rfl | rfl | rfl | rfl | rfl | rfl | hc | rfl | rfl | rfl <;> first | decide | (constructor <;> omega) | exact hidl _ hc) (by simp; omega)
  have hlen : s + 1 + ([65, 73, 86, 68, 77, 44] ++ ((48 + many) :: 44 :: (48 + part) :: 44 :: (idl ++ [44, 65, 44]))).length = s + 14 + idl.length := by
    simp
    omega
  rw [hlen] at d5
  obtain ⟨V2, B2, g1, g2, g3, g4, g5⟩ := six_l (t1 := [48 + many, 44, 48 + part, 44].map Int32.ofNat) (x5 := Int32.ofNat s) (x6 := Int32.ofNat (to - frm)) (frm := frm) (to := to) (n := n) hs hto hft hn rfl hb (to - frm) 0 (sv_fu - 72 + 1 + (71 - (to - frm))) (sv_fu - 72 + 1 + (71 - (to - frm))) (s + 14 + idl.length) V1 B1 (by omega) d5 (by omega) (by omega) (by rw [d3.2 _ (by simp)]) (by rw [d4.2 _ (by simp)])
  have hfu : sv_fu - 72 + 1 + (71 - (to - frm)) + (to - frm) = sv_fu := by
    have := fu_lt (m := 200) (by decide)
    omega
  rw [hfu] at g1 g2
  rw [Nat.add_zero] at g1
  have hfu2 : sv_fu - 72 + 1 + (71 - (to - frm)) = (sv_fu - 72 + (71 - (to - frm))) + 1 := by omega
  rw [hfu2] at g1 g2
  obtain ⟨V3, B3, p1, p2, p3, p4, p5⟩ := tail_s (t1 := [48 + many, 44, 48 + part, 44].map Int32.ofNat) (x4 := Int32.ofNat to) (x5 := Int32.ofNat s) (x6 := Int32.ofNat (to - frm)) (x7 := Int32.ofNat (6 * frm)) (to := to) (n := n) (R := R) (F := F) (f := sv_fu - 72 + (71 - (to - frm))) (f' := sv_fu - 72 + (71 - (to - frm))) hs g5 (by omega) (by omega) rfl hto (by rw [g3.1 _ _ (by simp), d3.1 _ _ (by simp)]; exact hR) hR2 hF hF2 hr
  refine ⟨V3, B3, ?_, ?_, (d3.trans g3).trans p3, (d4.trans g4).trans p4, by rw [show s + 21 + idl.length + (to - frm) = s + 14 + idl.length + (to - frm) + 7 by omega]; exact p5⟩
  · have e : f_X8_writeSentence T V a0 ([48 + many, 44, 48 + part, 44].map Int32.ofNat) x2 (Int32.ofNat frm) (Int32.ofNat to) = (adds T (a0 + 4) ([33, 65, 73, 86, 68, 77, 44] ++ ([48 + many, 44, 48 + part, 44] ++ (idl ++ [44, 65, 44]))) V).bind (fun q => f_X8_writeSentence_57 T a0 ([48 + many, 44, 48 + part, 44].map Int32.ofNat) sv_fu q (Int32.ofNat to) (V.1 1 (a0 + 4)) (Int32.ofNat frm)) := by
      rw [adds_app, Option.bind_assoc]
      unfold f_X8_writeSentence
      simp only [hs.r2_0, Option.bind_some]
      rw [show ([33, 65, 73, 86, 68, 77, 44] : List Int32) = [33, 65, 73, 86, 68, 77, 44].map Int32.ofNat from rfl, addText_t _ (by decide) (by decide)]
      congr 1
      funext q
      rw [adds_app, Option.bind_assoc, addText_t _ (by simp) (by simp; omega)]
      congr 1
      funext q
      have e3 : ∀ q, f_X8_writeSentence_44 T a0 ([48 + many, 44, 48 + part, 44].map Int32.ofNat) q (Int32.ofNat frm) (Int32.ofNat to) (V.1 1 (a0 + 4)) = (adds T (a0 + 4) [44, 65, 44] q).bind (fun q => f_X8_writeSentence_57 T a0 ([48 + many, 44, 48 + part, 44].map Int32.ofNat) sv_fu q (Int32.ofNat to) (V.1 1 (a0 + 4)) (Int32.ofNat frm)) := by
        intro q
        unfold f_X8_writeSentence_44
        rw [hs.r2_0, Option.bind_some, show ([44, 65, 44] : List Int32) = [44, 65, 44].map Int32.ofNat from rfl, addText_t _ (by decide) (by decide)]
      rcases hid with ⟨c1, -, c3⟩ | ⟨d, q1, q2, -, q4⟩
      · rw [if_pos c1, c3, List.nil_append]
        exact e3 q
      · have hne : ¬ Int32.ofNat d = -2147483648 := by
          intro hc
          exact nu_neg (n := d) (by omega) (by rw [hc]; decide)
        rw [q2, if_neg hne, q4, adds_app, Option.bind_assoc, show 48 + Int32.ofNat d = Int32.ofNat (48 + d) from nu_add 48 d]
        show _ = ((f_X6_add T q (a0 + 4) (Int32.ofNat (48 + d))).bind some).bind _
        rw [bind_some_r]
        congr 1
        funext q
        exact e3 q
    rw [e]
    have : ([33, 65, 73, 86, 68, 77, 44] ++ ([48 + many, 44, 48 + part, 44] ++ (idl ++ [44, 65, 44]))) = 33 :: ([65, 73, 86, 68, 77, 44] ++ ((48 + many) :: 44 :: (48 + part) :: 44 :: (idl ++ [44, 65, 44]))) := rfl
    rw [this, d1, Option.bind_some, h.2.1, g1, p1]
  · have e : f_X9_sentence B (Int32.ofNat many) (Int32.ofNat part) x3 (Int32.ofNat (6 * frm)) (Int32.ofNat n) = (wrs ([33, 65, 73, 86, 68, 77, 44] ++ ([48 + many, 44, 48 + part, 44] ++ (idl ++ [44, 65, 44]))) B).bind (fun q => f_X9_sentence_66 sv_fu q (Int32.ofNat (6 * frm)) (Int32.ofNat n) (Int32.ofNat (to - frm)) 0) := by
      rw [wrs_app, Option.bind_assoc]
      unfold f_X9_sentence
      rw [show ([33, 65, 73, 86, 68, 77, 44] : List Int32) = [33, 65, 73, 86, 68, 77, 44].map Int32.ofNat from rfl, writeAll_t _ (by decide) (by decide)]
      congr 1
      funext q
      rw [wrs_app, Option.bind_assoc, show 48 + Int32.ofNat many = Int32.ofNat (48 + many) from nu_add 48 many, show 48 + Int32.ofNat part = Int32.ofNat (48 + part) from nu_add 48 part]
      have e4 : wrs [48 + many, 44, 48 + part, 44] q = (f_X9_write q (Int32.ofNat (48 + many))).bind (fun q => (f_X9_write q 44).bind (fun q => (f_X9_write q (Int32.ofNat (48 + part))).bind (fun q => (f_X9_write q 44).bind some))) := rfl
      rw [e4]
      simp only [bind_some_r, Option.bind_assoc]
      congr 1
      funext q
      congr 1
      funext q
      congr 1
      funext q
      congr 1
      funext q
      have e3 : ∀ q, f_X9_sentence_47 q (Int32.ofNat (6 * frm)) (Int32.ofNat n) = (wrs [44, 65, 44] q).bind (fun q => f_X9_sentence_66 sv_fu q (Int32.ofNat (6 * frm)) (Int32.ofNat n) (Int32.ofNat (to - frm)) 0) := by
        intro q
        unfold f_X9_sentence_47
        rw [hN, show ([44, 65, 44] : List Int32) = [44, 65, 44].map Int32.ofNat from rfl, writeAll_t _ (by decide) (by decide)]
      rcases hid with ⟨-, c2, c3⟩ | ⟨d, q1, -, q3, q4⟩
      · rw [c2, if_pos (by decide), c3, List.nil_append]
        exact e3 q
      · rw [q3, if_neg (nu_neg (by omega)), q4, wrs_app, Option.bind_assoc, show 48 + Int32.ofNat d = Int32.ofNat (48 + d) from nu_add 48 d]
        show _ = ((f_X9_write q (Int32.ofNat (48 + d))).bind some).bind _
        rw [bind_some_r]
        congr 1
        funext q
        exact e3 q
    rw [e]
    have : ([33, 65, 73, 86, 68, 77, 44] ++ ([48 + many, 44, 48 + part, 44] ++ (idl ++ [44, 65, 44]))) = 33 :: ([65, 73, 86, 68, 77, 44] ++ ((48 + many) :: 44 :: (48 + part) :: 44 :: (idl ++ [44, 65, 44]))) := rfl
    have g2 : f_X9_sentence_66 sv_fu B1 (Int32.ofNat (6 * frm)) (Int32.ofNat n) (Int32.ofNat (to - frm)) 0 = _ := g2
    rw [this, d2, Option.bind_some, g2, p2]
/-- after a sending -/
theorem Rel.sent {V' : gh_V} {B' : md_B} (h : Rel a0 T V B) (hV : ch [(1, a0 + 4), (2, a0 + 22)] [a0 + 5, a0 + 23] V V') (hB : cb [0, 4, 32, 33, 34, 36, 37] [3, 35] B B') (hO : rO a0 s k V' B') (h33 : B'.1 33 = 0) : Rel a0 T V' B' := by
  obtain ⟨hs, h1, h2, h3, h4, h5, h6, h7, h8, h9, h10⟩ := h
  refine ⟨hs, ?_, ⟨k, hO.1, hO.2.1, hO.2.2.1, fun i hi => ?_⟩, ?_, ?_, ?_, h6.fr hs hV hB (by simp) (by simp) (by simp), ?_, h8.fr hs hV hB (by simp) (by simp) (by simp), ?_, h33⟩
  · rw [hV.1 _ _ (by simp), hV.2 _ (by simp), hB.1 _ (by decide), hB.2 _ (by decide)]; exact h1
  · obtain ⟨c, c1, c2, c3⟩ := hO.2.2.2.1 i hi
    rw [c2, c3, and255_small (by omega)]
  · rw [hV.2 _ (by simp), hB.2 _ (by decide)]; exact h3
  · rw [hV.1 _ _ (by simp), hV.1 _ _ (by simp), hV.1 _ _ (by simp), hV.1 _ _ (by simp), hV.1 _ _ (by simp), hV.2 _ (by simp), hB.1 _ (by decide), hB.1 _ (by decide), hB.1 _ (by decide), hB.1 _ (by decide), hB.2 _ (by decide)]; exact h4
  · rw [hV.2 _ (by simp), hB.2 _ (by decide)]; exact h5
  · rw [hV.1 _ _ (by simp), hV.2 _ (by simp), hB.1 _ (by decide), hB.1 _ (by decide), hB.2 _ (by decide)]; exact h7
  · rw [hV.1 _ _ (by simp)]; exact h9
theorem wb_zero {w : Nat → Int32} {i : Nat} (h : w (i / 32) = 0) : wb w i = false := by
  unfold wb
  rw [h]
  show (0#32).getLsbD _ = false
  simp
/-- a row of bits, emptied -/
theorem empty_s {r d W : Nat} (hr : T.2.2.1 1 r = some d) (hl : T.2.2.2.1 d = W) (hW : W < 2000) : ∃ V', f_X0_empty T V r = some V' ∧ ch [(2, r)] [d] V V' ∧ V'.1 2 r = 0 ∧ ∀ i, i < 32 * W → wb (V'.2 d) i = false := by
  obtain ⟨V', e1, e2, e3, e4⟩ := fill_s (V := V) 0 hl (by omega)
  refine ⟨gh_pf V' 2 r 0, ?_, ⟨fun k a hk => ?_, fun e he => e3 e (by simpa using he)⟩, pf_1, fun i hi => wb_zero (e4 _ (by omega))⟩
  · unfold f_X0_empty
    rw [hr, Option.bind_some, e1]
    rfl
  · rw [pf_n (by simpa using hk), e2]
/-- a report told, from its beginning -/
theorem told_s {v i : Nat} (hs : sh a0 T) (h9 : V.1 0 (a0 + 22) = 424) (hv : T.2.2.2.2 (a0 + 21) i = some v) (hi : i < 40) (hr : rV V v B i) (x2 : Int32) (hx : x2 = 1 ∨ x2 = 5 ∨ x2 = 18) : ∃ V' B1 B2 B3 B4, f_X7_tell T V v x2 (a0 + 22) = some V' ∧ f_X9_put (md_pf B 36 0) x2 6 = some B1 ∧ f_X9_put B1 0 2 = some B2 ∧ B2.2 29 = B.2 29 ∧ f_X9_put B2 (B.2 29 (24 * i)) 30 = some B3 ∧ f_X9_reports (md_pf B3 33 1) (Int32.ofNat i) x2 = some B4 ∧ ch [(2, a0 + 22)] [a0 + 23] V V' ∧ cb [32, 33, 34, 36] [35] B B4 ∧ rW a0 (if x2 = 5 then 424 else 168) V' B4 := by
  have hv9 := hs.2.2.2.1 i v hv
  obtain ⟨V0, e1, e2, e3, e4⟩ := empty_s (V := V) hs.r1_22 hs.l23 (by decide)
  have hW0 : rW a0 0 V0 (md_pf B 36 0) := ⟨by decide, e3, by rw [e2.1 _ _ (by simp)]; exact h9, bf_1, fun i hi => by omega, fun i _ hi => e4 i hi⟩
  obtain ⟨V1, B1, a1, b1, c1, d1, w1⟩ := pw hs hW0 x2 6 (by decide) (by decide) (by decide)
  obtain ⟨V2, B2, a2, b2, c2, d2, w2⟩ := pw hs w1 0 2 (by decide) (by decide) (by decide)
  obtain ⟨V3, B3, a3, b3, c3, d3, w3⟩ := pw hs w2 (B.2 29 (24 * i)) 30 (by decide) (by decide) (by decide)
  have hB : cb [32, 33, 34, 36] [35] B B3 := ((((cb.rf (B := B) (F := [36]) (D := [35])).pf (by simp)).trans d1).trans (d2.trans d3)).mono (by simp) (by simp)
  have hV : ch [(2, a0 + 22)] [a0 + 23] V V3 := ((e2.trans c1).trans c2).trans c3
  have hT : rT a0 v i 38 V3 (md_pf (md_pf (md_pf B3 33 1) 34 (Int32.ofNat i)) 32 38) := by
    obtain ⟨q1, q2, q3, q4, q5⟩ := w3
    refine ⟨⟨q1, q2, q3, by rw [bf_n (by decide), bf_n (by decide), bf_n (by decide)]; exact q4, q5⟩, hr.ch hs hv hV (((hB.pf (by simp)).pf (by simp)).pf (by simp)), hi, by rw [bf_n (by decide), bf_n (by decide), bf_1], by rw [bf_n (by decide), bf_1]⟩
  have ha : f_X0_append T V0 (a0 + 22) x2 6 = some V1 := a1
  have hb : f_X0_append T V1 (a0 + 22) 0 2 = some V2 := a2
  have hc : f_X0_append T V2 (a0 + 22) (B.2 29 (24 * i)) 30 = some V3 := a3
  have h29 : V2.2 (v + 1) 0 = B.2 29 (24 * i) := by
    rw [((e2.trans c1).trans c2).2 _ (by simp; omega)]
    exact hr.1 0 (by decide)
  have h292 : B2.2 29 = B.2 29 := by rw [d2.2 _ (by simp), d1.2 _ (by simp), bf_2]
  have fin : ∀ (j n V' B4), f_X7_layoutOf T V3 x2 = some (j, V3) → f_X7_tell_37 T v (a0 + 22) sv_fu V3 j 0 = some V' → f_X9_reports (md_pf B3 33 1) (Int32.ofNat i) x2 = some B4 → ch [(2, a0 + 22)] [a0 + 23] V3 V' → cb [32, 36] [35] (md_pf (md_pf (md_pf B3 33 1) 34 (Int32.ofNat i)) 32 38) B4 → rT a0 v i n V' B4 → (if x2 = 5 then 424 else 168) = n → ∃ V' B1 B2 B3 B4, f_X7_tell T V v x2 (a0 + 22) = some V' ∧ f_X9_put (md_pf B 36 0) x2 6 = some B1 ∧ f_X9_put B1 0 2 = some B2 ∧ B2.2 29 = B.2 29 ∧ f_X9_put B2 (B.2 29 (24 * i)) 30 = some B3 ∧ f_X9_reports (md_pf B3 33 1) (Int32.ofNat i) x2 = some B4 ∧ ch [(2, a0 + 22)] [a0 + 23] V V' ∧ cb [32, 33, 34, 36] [35] B B4 ∧ rW a0 (if x2 = 5 then 424 else 168) V' B4 := by
    intro j n V' B4 l1 l2 l3 l4 l5 l6 l7
    refine ⟨V', B1, B2, B3, B4, ?_, b1, b2, h292, b3, l3, hV.trans l4, (((hB.pf (by simp)).pf (by simp)).pf (by simp)).trans (l5.mono (by simp) (by simp)), by rw [l7]; exact l6.1⟩
    unfold f_X7_tell
    rw [e1, Option.bind_some, ha, Option.bind_some, hb, Option.bind_some, hv9.2.2.2.2.2.1, Option.bind_some, hv9.2.2.2.2.2.2.2.2.1, show sv_inb (0 : Int32) 24 = true from by decide, sv_g_t rfl, show V2.2 (v + 1) (0 : Int32).toNatClampNeg = B.2 29 (24 * i) from h29, hc, Option.bind_some, l1, Option.bind_some, l2]
  rcases hx with rfl | rfl | rfl
  · obtain ⟨V', B4, t1, t2, t3, t4, t5⟩ := tell_1 hs hv hT (sv_fu - 11)
    rw [Nat.sub_add_cancel (Nat.le_of_lt (fu_lt (by decide)))] at t1
    exact fin 6 168 V' B4 rfl t1 t2 t3 t4 t5 rfl
  · obtain ⟨V', B4, t1, t2, t3, t4, t5⟩ := tell_5 hs hv hT (sv_fu - 18)
    rw [Nat.sub_add_cancel (Nat.le_of_lt (fu_lt (by decide)))] at t1
    exact fin 4 424 V' B4 rfl t1 t2 t3 t4 t5 rfl
  · obtain ⟨V', B4, t1, t2, t3, t4, t5⟩ := tell_18 hs hv hT (sv_fu - 10)
    rw [Nat.sub_add_cancel (Nat.le_of_lt (fu_lt (by decide)))] at t1
    exact fin 5 168 V' B4 rfl t1 t2 t3 t4 t5 rfl
theorem rW.bits {R : Nat} (h : rW a0 R V B) {j : Nat} (hj : j < 480) : wb (V.2 (a0 + 23)) j = (decide (j < R) && gb (B.2 35) j) := by
  obtain ⟨h1, h2, h3, h4, h5⟩ := h
  by_cases c : j < R
  · rw [decide_eq_true c, Bool.true_and, h5.gbe c, Nat.zero_add]
  · rw [decide_eq_false c, Bool.false_and]
    exact h5.2 j (by omega) hj
/-- a report that can be sent -/
theorem send_m {v i : Nat} (h : Rel a0 T V B) (hv : T.2.2.2.2 (a0 + 21) i = some v) (hi : i < 40) (hr : rV V v B i) (x2 x3 : Int32) (hx : x2 = 1 ∨ x2 = 5 ∨ x2 = 18) (h5 : x2 = 5 → ∃ d : Nat, d ≤ 9 ∧ x3 = Int32.ofNat d) (h00 : B.1 0 = 0) : ∃ q r u, f_X8_send_76 T a0 V x2 x3 v = some q ∧ f_X9_send_61 B (Int32.ofNat i) x2 x3 = some r ∧ f_X9_thrown r.2 = some u ∧ u.1 = q.1 ∧ (q.1 = 0 → q.2.1 = r.1) ∧ Rel a0 T q.2.2 u.2 := by
  have hs := h.1
  obtain ⟨V1, B1, B2, B3, B4, t1, t2, t3, t4, t5, t6, t7, t8, t9⟩ := told_s hs h.2.2.2.2.2.2.2.2.2.1 hv hi hr x2 hx
  have hO : rO a0 0 0 (gh_pf V1 1 (a0 + 4) 0) (md_pf (md_pf B4 33 0) 4 0) := ⟨by decide, pf_1, bf_1, fun i hi => by omega, fun c => by omega⟩
  have hR : (gh_pf V1 1 (a0 + 4) 0).1 2 (a0 + 22) = Int32.ofNat (if x2 = 5 then 424 else 168) := by
    rw [pf_n (by simp)]
    exact t9.2.1
  have hbit : ∀ j, j < 480 → wb ((gh_pf V1 1 (a0 + 4) 0).2 (a0 + 23)) j = (decide (j < (if x2 = 5 then 424 else 168)) && gb ((md_pf (md_pf B4 33 0) 4 0).2 35) j) := fun j hj => t9.bits hj
  have e24 : 24 * Int32.ofNat i = Int32.ofNat (24 * i) := nu_mul 24 i
  have hV1 : ch [(1, a0 + 4), (2, a0 + 22)] [a0 + 5, a0 + 23] V (gh_pf V1 1 (a0 + 4) 0) := (t7.mono (by simp) (by simp)).pf (by simp)
  have hB1 : cb [0, 4, 32, 33, 34, 36, 37] [3, 35] B (md_pf (md_pf B4 33 0) 4 0) := ((t8.mono (by simp) (by simp)).pf (by simp)).pf (by simp)
  have h33 : ∀ B', cb [4, 37] [3] (md_pf (md_pf B4 33 0) 4 0) B' → B'.1 33 = 0 ∧ B'.1 0 = 0 := by
    intro B' hB'
    refine ⟨by rw [hB'.1 _ (by simp), bf_n (by decide), bf_1], ?_⟩
    rw [hB'.1 _ (by simp), bf_n (by decide), bf_n (by decide), t8.1 _ (by simp)]
    exact h00
  unfold f_X8_send_76 f_X9_send_61 f_X8_send_148 f_X9_send_157
  simp only [hs.r9_0, hs.r2_0, Option.bind_some, t1]
  rw [t2, Option.bind_some, t3, Option.bind_some, e24, nu_inb (by omega) (by omega), sv_g_t rfl, nu_nat (by omega), t4, t5, Option.bind_some, t6, Option.bind_some, hR]
  by_cases c5 : x2 = 5
  · obtain ⟨d, d1, d2⟩ := h5 c5
    simp only [if_pos c5] at hbit hR ⊢
    obtain ⟨V2, B5, p1, p2, p3, p4, p5⟩ := sent_s (many := 2) (part := 1) (frm := 0) (to := 60) (n := 360) (R := 424) (F := 0) (idl := [48 + d]) (x2 := x3) (x3 := x3) (Or.inr ⟨d, d1, d2, d2, rfl⟩) hs hO (by decide) (by decide) (by decide) (by decide) (by simp) (by decide) (by decide) (fun j hj => by
      rw [Nat.mul_zero, Nat.zero_add, hbit j (by omega), decide_eq_true (show j < 424 by omega), decide_eq_true (show j < 0 + 360 by omega)]) hR (by decide) (by decide) (by decide) (by decide)
    have p1 : f_X8_writeSentence T (gh_pf V1 1 (a0 + 4) 0) a0 [50, 44, 49, 44] x3 0 60 = some V2 := p1
    have p2 : f_X9_sentence (md_pf (md_pf B4 33 0) 4 0) 2 1 x3 0 360 = some B5 := p2
    have p5 : rO a0 0 82 V2 B5 := p5
    have p5' : rO a0 82 82 V2 B5 := ⟨p5.1, p5.2.1, p5.2.2.1, p5.2.2.2.1, fun c => by omega⟩
    obtain ⟨V3, B6, q1, q2, q3, q4, q5⟩ := sent_s (many := 2) (part := 2) (frm := 60) (to := 71) (n := 64) (R := 424) (F := 2) (idl := [48 + d]) (x2 := x3) (x3 := x3) (Or.inr ⟨d, d1, d2, d2, rfl⟩) hs p5' (by decide) (by decide) (by decide) (by decide) (by simp) (by decide) (by decide) (fun j hj => by
      rw [p3.2 _ (by simp), p4.2 _ (by simp), hbit (6 * 60 + j) (by omega)]) (by rw [p3.1 _ _ (by simp)]; exact hR) (by decide) (by decide) (by decide) (by decide)
    have q1 : f_X8_writeSentence T V2 a0 [50, 44, 50, 44] x3 60 ((Int32.ofNat 424 + 5) / 6) = some V3 := q1
    have q2 : f_X9_sentence B5 2 2 x3 360 64 = some B6 := q2
    have hz := h33 B6 (p4.trans q4)
    rw [p1, Option.bind_some, q1, Option.bind_some, p2, Option.bind_some, q2, Option.bind_some]
    refine ⟨_, _, _, rfl, rfl, rfl, hz.2, fun _ => by show V3.1 1 (a0 + 4) = B6.1 4; rw [q5.2.1, q5.2.2.1], h.sent (hV1.trans ((p3.trans q3).mono (by simp) (by simp))) (hB1.trans ((p4.trans q4).mono (by simp) (by simp))) q5 hz.1⟩
  · simp only [if_neg c5] at hbit hR ⊢
    obtain ⟨V2, B5, p1, p2, p3, p4, p5⟩ := sent_s (many := 1) (part := 1) (frm := 0) (to := 28) (n := 168) (R := 168) (F := 0) (idl := []) (x2 := -2147483648) (x3 := -1) (Or.inl ⟨rfl, rfl, rfl⟩) hs hO (by decide) (by decide) (by decide) (by decide) (by decide) (by decide) (by decide) (fun j hj => by
      rw [Nat.mul_zero, Nat.zero_add, hbit j (by omega), Nat.zero_add]) hR (by decide) (by decide) (by decide) (by decide)
    have p1 : f_X8_writeSentence T (gh_pf V1 1 (a0 + 4) 0) a0 [49, 44, 49, 44] (-2147483648) 0 ((Int32.ofNat 168 + 5) / 6) = some V2 := p1
    have p2 : f_X9_sentence (md_pf (md_pf B4 33 0) 4 0) 1 1 (-1) 0 168 = some B5 := p2
    have hz := h33 B5 p4
    rw [p1, Option.bind_some, p2, Option.bind_some]
    refine ⟨_, _, _, rfl, rfl, rfl, hz.2, fun _ => by show V2.1 1 (a0 + 4) = B5.1 4; rw [p5.2.1, p5.2.2.1], h.sent (hV1.trans (p3.mono (by simp) (by simp))) (hB1.trans (p4.mono (by simp) (by simp))) p5 hz.1⟩
theorem s_send (h : Rel a0 T V B) (x1 x2 x3 : Int32) : ∃ q r u, f_X8_send T V a0 x1 x2 x3 = some q ∧ f_X9_send B x1 x2 x3 = some r ∧ f_X9_thrown r.2 = some u ∧ u.1 = q.1 ∧ (q.1 = 0 → q.2.1 = r.1) ∧ Rel a0 T q.2.2 u.2 := by
  have h0 := h.q0
  have hs := h.1
  have hF := h0.2.2.2.2.2.2.2.2.1
  have bad2 : ∃ q r u, (some (2, 0, V) : Option (Int32 × Int32 × gh_V)) = some q ∧ f_X9_send_55 (md_pf B 0 0) = some r ∧ f_X9_thrown r.2 = some u ∧ u.1 = q.1 ∧ (q.1 = 0 → q.2.1 = r.1) ∧ Rel a0 T q.2.2 u.2 :=
    ⟨_, (0, md_pf (md_pf B 0 0) 0 2), _, rfl, rfl, rfl, by simp [md_pf, upd], fun c => by simp at c, h.q1⟩
  unfold f_X8_send f_X9_send
  rw [hs.r8_0, Option.bind_some]
  rcases at_s hs hF x1 with ⟨c, e⟩ | ⟨i, v, hi, rfl, c, e, hv, hr⟩
  · rw [e, Option.bind_some, in0_n c, Option.bind_some, if_pos rfl]
    exact ⟨_, (0, md_pf (md_pf B 0 0) 0 1), _, rfl, rfl, rfl, by simp [md_pf, upd], fun c => by simp at c, h.q1⟩
  · have hv9 := hs.2.2.2.1 i v hv
    rw [e, Option.bind_some, in0_y (nu_neg (by omega)) c, Option.bind_some, if_neg (by simp)]
    simp only [gh_isb_of hv9.2.1, sv_g_t]
    have h00 : (md_pf B 0 0).1 0 = 0 := bf_1
    unfold f_X8_send_51 f_X8_send_66
    by_cases c1 : x2 = 1
    · rw [if_pos c1, if_pos c1, if_neg (by rw [c1]; decide)]
      exact send_m h0 hv hi hr x2 x3 (Or.inl c1) (fun c => by rw [c1] at c; exact absurd c (by decide)) h00
    · rw [if_neg c1, if_neg c1]
      by_cases c5 : x2 = 5
      · rw [if_pos c5, if_pos c5, if_neg (show ¬ x2 = 18 by rw [c5]; decide), if_pos c5]
        by_cases d0 : x3 < 0
        · rw [if_pos d0, in_n (lo := 0) (hi := 9) (l := 0) (h := 9) rfl rfl (Or.inl d0), Option.bind_some, if_pos rfl]
          exact bad2
        · obtain ⟨d, hd, rfl⟩ := nu_of d0
          rw [if_neg d0]
          by_cases d9 : Int32.ofNat d ≤ 9
          · have d9' := (nl_ge 9 9 rfl (by decide) hd).mp d9
            rw [if_pos d9, in_y (lo := 0) (hi := 9) (l := 0) (h := 9) rfl rfl d0 (mt (nl_lt 9 9 rfl (by decide) hd).mp (by omega)), Option.bind_some, if_neg (one_ne (B := md_pf B 0 0))]
            exact send_m h0 hv hi hr x2 _ (Or.inr (Or.inl c5)) (fun _ => ⟨d, d9', rfl⟩) h00
          · have d9' := mt (nl_ge 9 9 rfl (by decide) hd).mpr d9
            rw [if_neg d9, in_n (lo := 0) (hi := 9) (l := 0) (h := 9) rfl rfl (Or.inr ((nl_lt 9 9 rfl (by decide) hd).mpr (by omega))), Option.bind_some, if_pos rfl]
            exact bad2
      · rw [if_neg c5, if_neg c5]
        by_cases c18 : x2 = 18
        · rw [if_pos c18, if_pos c18]
          exact send_m h0 hv hi hr x2 x3 (Or.inr (Or.inr c18)) (fun c => absurd c c5) h00
        · rw [if_neg c18, if_neg c18, if_neg c5]
          exact bad2
end SD
