/-! ===== PURE: the three reports that are sent ===== -/
set_option maxHeartbeats 1000000 in
theorem tell_1 {a0 : Nat} {T : gh_T} {V : gh_V} {B : md_B} {v i : Nat} (hs : sh a0 T) (hv : T.2.2.2.2 (a0 + 21) i = some v) (h : rT a0 v i 38 V (md_pf (md_pf B 34 (Int32.ofNat i)) 32 38)) (f : Nat) : ∃ V' B', f_X7_tell_37 T v (a0 + 22) (f + 11) V 6 0 = some V' ∧ f_X9_reports B (Int32.ofNat i) 1 = some B' ∧ ch [(2, a0 + 22)] [a0 + 23] V V' ∧ cb [32, 36] [35] (md_pf (md_pf B 34 (Int32.ofNat i)) 32 38) B' ∧ rT a0 v i 168 V' B' := by
  have hr := (hs.2.2.2.1 i v hv).2.2.2.2.2.1
  have hl := (hs.2.2.2.1 i v hv).2.2.2.2.2.2.2.2.1
  obtain ⟨V1, B1, d1, g1, c1, b1, h1⟩ := go_t hs hv h 2 4 0 (by decide) (by decide) (by decide) (by decide)
  have g1 : f_X9_go (md_pf (md_pf B 34 (Int32.ofNat i)) 32 38) 2 4 0 = some B1 := g1
  obtain ⟨V2, B2, d2, g2, c2, b2, h2⟩ := go_t hs hv h1 3 8 1 (by decide) (by decide) (by decide) (by decide)
  have g2 : f_X9_go B1 3 8 1 = some B2 := g2
  obtain ⟨V3, B3, d3, g3, c3, b3, h3⟩ := go_t hs hv h2 4 10 0 (by decide) (by decide) (by decide) (by decide)
  have g3 : f_X9_go B2 4 10 0 = some B3 := g3
  obtain ⟨V4, B4, d4, g4, c4, b4, h4⟩ := go_t hs hv h3 5 1 0 (by decide) (by decide) (by decide) (by decide)
  have g4 : f_X9_go B3 5 1 0 = some B4 := g4
  obtain ⟨V5, B5, d5, g5, c5, b5, h5⟩ := go_t hs hv h4 6 28 1 (by decide) (by decide) (by decide) (by decide)
  have g5 : f_X9_go B4 6 28 1 = some B5 := g5
  obtain ⟨V6, B6, d6, g6, c6, b6, h6⟩ := go_t hs hv h5 7 27 1 (by decide) (by decide) (by decide) (by decide)
  have g6 : f_X9_go B5 7 27 1 = some B6 := g6
  obtain ⟨V7, B7, d7, g7, c7, b7, h7⟩ := go_t hs hv h6 8 12 0 (by decide) (by decide) (by decide) (by decide)
  have g7 : f_X9_go B6 8 12 0 = some B7 := g7
  obtain ⟨V8, B8, d8, g8, c8, b8, h8⟩ := go_t hs hv h7 9 9 0 (by decide) (by decide) (by decide) (by decide)
  have g8 : f_X9_go B7 9 9 0 = some B8 := g8
  obtain ⟨V9, B9, d9, g9, c9, b9, h9⟩ := go_t hs hv h8 10 6 0 (by decide) (by decide) (by decide) (by decide)
  have g9 : f_X9_go B8 10 6 0 = some B9 := g9
  obtain ⟨V10, B10, d10, g10, c10, b10, h10⟩ := skip_t hs hv h9 25 (by decide) (by decide) (by decide)
  have g10 : f_X9_skip B9 25 = some B10 := g10
  refine ⟨V10, B10, ?_, ?_, (((((((((c1.trans c2).trans c3).trans c4).trans c5).trans c6).trans c7).trans c8).trans c9).trans c10), (((((((((b1.trans b2).trans b3).trans b4).trans b5).trans b6).trans b7).trans b8).trans b9).trans b10), h10⟩
  · have hw : sv_sta[6]? = some ("SeaReceiver$Vessel", "OF_1", ([2, 4, 3, 8, 4, 10, 5, 1, 6, 28, 7, 27, 8, 12, 9, 9, 10, 6, -1, 25] : List Int32)) := rfl
    show f_X7_tell_37 T v (a0 + 22) (f + 11) V 6 (Int32.ofNat (2 * 0)) = _
    rw [tl_go (wh := 2) (k := 4) (e := 0) hw (by decide) (by decide) (by decide) (by decide) (by decide) hr hl, d1, Option.bind_some, tl_go (wh := 3) (k := 8) (e := 1) hw (by decide) (by decide) (by decide) (by decide) (by decide) hr hl, d2, Option.bind_some, tl_go (wh := 4) (k := 10) (e := 2) hw (by decide) (by decide) (by decide) (by decide) (by decide) hr hl, d3, Option.bind_some, tl_go (wh := 5) (k := 1) (e := 3) hw (by decide) (by decide) (by decide) (by decide) (by decide) hr hl, d4, Option.bind_some, tl_go (wh := 6) (k := 28) (e := 4) hw (by decide) (by decide) (by decide) (by decide) (by decide) hr hl, d5, Option.bind_some, tl_go (wh := 7) (k := 27) (e := 5) hw (by decide) (by decide) (by decide) (by decide) (by decide) hr hl, d6, Option.bind_some, tl_go (wh := 8) (k := 12) (e := 6) hw (by decide) (by decide) (by decide) (by decide) (by decide) hr hl, d7, Option.bind_some, tl_go (wh := 9) (k := 9) (e := 7) hw (by decide) (by decide) (by decide) (by decide) (by decide) hr hl, d8, Option.bind_some, tl_go (wh := 10) (k := 6) (e := 8) hw (by decide) (by decide) (by decide) (by decide) (by decide) hr hl, d9, Option.bind_some, tl_skip (k := 25) (e := 9) hw (by decide) (by decide) (by decide) (by decide), d10, Option.bind_some, tl_end (e := 10) hw (by decide) (by decide) (by decide)]
  · unfold f_X9_reports f_X9_where f_X9_way f_X9_still
    rw [if_neg (by decide), g1, Option.bind_some, g2, Option.bind_some, g3, Option.bind_some, g4, Option.bind_some, g5, Option.bind_some, g6, Option.bind_some, Option.bind_some, g7, Option.bind_some, g8, Option.bind_some, g9, Option.bind_some, Option.bind_some, g10, Option.bind_some]
set_option maxHeartbeats 1000000 in
theorem tell_18 {a0 : Nat} {T : gh_T} {V : gh_V} {B : md_B} {v i : Nat} (hs : sh a0 T) (hv : T.2.2.2.2 (a0 + 21) i = some v) (h : rT a0 v i 38 V (md_pf (md_pf B 34 (Int32.ofNat i)) 32 38)) (f : Nat) : ∃ V' B', f_X7_tell_37 T v (a0 + 22) (f + 10) V 5 0 = some V' ∧ f_X9_reports B (Int32.ofNat i) 18 = some B' ∧ ch [(2, a0 + 22)] [a0 + 23] V V' ∧ cb [32, 36] [35] (md_pf (md_pf B 34 (Int32.ofNat i)) 32 38) B' ∧ rT a0 v i 168 V' B' := by
  have hr := (hs.2.2.2.1 i v hv).2.2.2.2.2.1
  have hl := (hs.2.2.2.1 i v hv).2.2.2.2.2.2.2.2.1
  obtain ⟨V1, B1, d1, g1, c1, b1, h1⟩ := skip_t hs hv h 8 (by decide) (by decide) (by decide)
  have g1 : f_X9_skip (md_pf (md_pf B 34 (Int32.ofNat i)) 32 38) 8 = some B1 := g1
  obtain ⟨V2, B2, d2, g2, c2, b2, h2⟩ := go_t hs hv h1 4 10 0 (by decide) (by decide) (by decide) (by decide)
  have g2 : f_X9_go B1 4 10 0 = some B2 := g2
  obtain ⟨V3, B3, d3, g3, c3, b3, h3⟩ := go_t hs hv h2 5 1 0 (by decide) (by decide) (by decide) (by decide)
  have g3 : f_X9_go B2 5 1 0 = some B3 := g3
  obtain ⟨V4, B4, d4, g4, c4, b4, h4⟩ := go_t hs hv h3 6 28 1 (by decide) (by decide) (by decide) (by decide)
  have g4 : f_X9_go B3 6 28 1 = some B4 := g4
  obtain ⟨V5, B5, d5, g5, c5, b5, h5⟩ := go_t hs hv h4 7 27 1 (by decide) (by decide) (by decide) (by decide)
  have g5 : f_X9_go B4 7 27 1 = some B5 := g5
  obtain ⟨V6, B6, d6, g6, c6, b6, h6⟩ := go_t hs hv h5 8 12 0 (by decide) (by decide) (by decide) (by decide)
  have g6 : f_X9_go B5 8 12 0 = some B6 := g6
  obtain ⟨V7, B7, d7, g7, c7, b7, h7⟩ := go_t hs hv h6 9 9 0 (by decide) (by decide) (by decide) (by decide)
  have g7 : f_X9_go B6 9 9 0 = some B7 := g7
  obtain ⟨V8, B8, d8, g8, c8, b8, h8⟩ := go_t hs hv h7 10 6 0 (by decide) (by decide) (by decide) (by decide)
  have g8 : f_X9_go B7 10 6 0 = some B8 := g8
  obtain ⟨V9, B9, d9, g9, c9, b9, h9⟩ := skip_t hs hv h8 29 (by decide) (by decide) (by decide)
  have g9 : f_X9_skip B8 29 = some B9 := g9
  refine ⟨V9, B9, ?_, ?_, ((((((((c1.trans c2).trans c3).trans c4).trans c5).trans c6).trans c7).trans c8).trans c9), ((((((((b1.trans b2).trans b3).trans b4).trans b5).trans b6).trans b7).trans b8).trans b9), h9⟩
  · have hw : sv_sta[5]? = some ("SeaReceiver$Vessel", "OF_18", ([-1, 8, 4, 10, 5, 1, 6, 28, 7, 27, 8, 12, 9, 9, 10, 6, -1, 29] : List Int32)) := rfl
    show f_X7_tell_37 T v (a0 + 22) (f + 10) V 5 (Int32.ofNat (2 * 0)) = _
    rw [tl_skip (k := 8) (e := 0) hw (by decide) (by decide) (by decide) (by decide), d1, Option.bind_some, tl_go (wh := 4) (k := 10) (e := 1) hw (by decide) (by decide) (by decide) (by decide) (by decide) hr hl, d2, Option.bind_some, tl_go (wh := 5) (k := 1) (e := 2) hw (by decide) (by decide) (by decide) (by decide) (by decide) hr hl, d3, Option.bind_some, tl_go (wh := 6) (k := 28) (e := 3) hw (by decide) (by decide) (by decide) (by decide) (by decide) hr hl, d4, Option.bind_some, tl_go (wh := 7) (k := 27) (e := 4) hw (by decide) (by decide) (by decide) (by decide) (by decide) hr hl, d5, Option.bind_some, tl_go (wh := 8) (k := 12) (e := 5) hw (by decide) (by decide) (by decide) (by decide) (by decide) hr hl, d6, Option.bind_some, tl_go (wh := 9) (k := 9) (e := 6) hw (by decide) (by decide) (by decide) (by decide) (by decide) hr hl, d7, Option.bind_some, tl_go (wh := 10) (k := 6) (e := 7) hw (by decide) (by decide) (by decide) (by decide) (by decide) hr hl, d8, Option.bind_some, tl_skip (k := 29) (e := 8) hw (by decide) (by decide) (by decide) (by decide), d9, Option.bind_some, tl_end (e := 9) hw (by decide) (by decide) (by decide)]
  · unfold f_X9_reports f_X9_where f_X9_way f_X9_still
    rw [if_pos (by decide), if_neg (by decide), if_pos (by decide), g1, Option.bind_some, g2, Option.bind_some, g3, Option.bind_some, g4, Option.bind_some, g5, Option.bind_some, Option.bind_some, g6, Option.bind_some, g7, Option.bind_some, g8, Option.bind_some, Option.bind_some, g9, Option.bind_some]
set_option maxHeartbeats 1000000 in
theorem tell_5 {a0 : Nat} {T : gh_T} {V : gh_V} {B : md_B} {v i : Nat} (hs : sh a0 T) (hv : T.2.2.2.2 (a0 + 21) i = some v) (h : rT a0 v i 38 V (md_pf (md_pf B 34 (Int32.ofNat i)) 32 38)) (f : Nat) : ∃ V' B', f_X7_tell_37 T v (a0 + 22) (f + 18) V 4 0 = some V' ∧ f_X9_reports B (Int32.ofNat i) 5 = some B' ∧ ch [(2, a0 + 22)] [a0 + 23] V V' ∧ cb [32, 36] [35] (md_pf (md_pf B 34 (Int32.ofNat i)) 32 38) B' ∧ rT a0 v i 424 V' B' := by
  have hr := (hs.2.2.2.1 i v hv).2.2.2.2.2.1
  have hl := (hs.2.2.2.1 i v hv).2.2.2.2.2.2.2.2.1
  obtain ⟨V1, B1, d1, g1, c1, b1, h1⟩ := skip_t hs hv h 2 (by decide) (by decide) (by decide)
  have g1 : f_X9_skip (md_pf (md_pf B 34 (Int32.ofNat i)) 32 38) 2 = some B1 := g1
  obtain ⟨V2, B2, d2, g2, c2, b2, h2⟩ := go_t hs hv h1 16 30 0 (by decide) (by decide) (by decide) (by decide)
  have g2 : f_X9_go B1 16 30 0 = some B2 := g2
  obtain ⟨V3, B3, d3, g3, c3, b3, h3⟩ := words_t hs hv h2 0 7 (by decide) rfl (by decide)
  have g3 : f_X9_words B2 0 = some B3 := g3
  obtain ⟨V4, B4, d4, g4, c4, b4, h4⟩ := words_t hs hv h3 1 20 (by decide) rfl (by decide)
  have g4 : f_X9_words B3 1 = some B4 := g4
  obtain ⟨V5, B5, d5, g5, c5, b5, h5⟩ := go_t hs hv h4 17 8 0 (by decide) (by decide) (by decide) (by decide)
  have g5 : f_X9_go B4 17 8 0 = some B5 := g5
  obtain ⟨V6, B6, d6, g6, c6, b6, h6⟩ := go_t hs hv h5 18 9 0 (by decide) (by decide) (by decide) (by decide)
  have g6 : f_X9_go B5 18 9 0 = some B6 := g6
  obtain ⟨V7, B7, d7, g7, c7, b7, h7⟩ := go_t hs hv h6 19 9 0 (by decide) (by decide) (by decide) (by decide)
  have g7 : f_X9_go B6 19 9 0 = some B7 := g7
  obtain ⟨V8, B8, d8, g8, c8, b8, h8⟩ := go_t hs hv h7 20 6 0 (by decide) (by decide) (by decide) (by decide)
  have g8 : f_X9_go B7 20 6 0 = some B8 := g8
  obtain ⟨V9, B9, d9, g9, c9, b9, h9⟩ := go_t hs hv h8 21 6 0 (by decide) (by decide) (by decide) (by decide)
  have g9 : f_X9_go B8 21 6 0 = some B9 := g9
  obtain ⟨V10, B10, d10, g10, c10, b10, h10⟩ := skip_t hs hv h9 4 (by decide) (by decide) (by decide)
  have g10 : f_X9_skip B9 4 = some B10 := g10
  obtain ⟨V11, B11, d11, g11, c11, b11, h11⟩ := go_t hs hv h10 12 4 0 (by decide) (by decide) (by decide) (by decide)
  have g11 : f_X9_go B10 12 4 0 = some B11 := g11
  obtain ⟨V12, B12, d12, g12, c12, b12, h12⟩ := go_t hs hv h11 13 5 0 (by decide) (by decide) (by decide) (by decide)
  have g12 : f_X9_go B11 13 5 0 = some B12 := g12
  obtain ⟨V13, B13, d13, g13, c13, b13, h13⟩ := go_t hs hv h12 14 5 0 (by decide) (by decide) (by decide) (by decide)
  have g13 : f_X9_go B12 14 5 0 = some B13 := g13
  obtain ⟨V14, B14, d14, g14, c14, b14, h14⟩ := go_t hs hv h13 15 6 0 (by decide) (by decide) (by decide) (by decide)
  have g14 : f_X9_go B13 15 6 0 = some B14 := g14
  obtain ⟨V15, B15, d15, g15, c15, b15, h15⟩ := go_t hs hv h14 22 8 0 (by decide) (by decide) (by decide) (by decide)
  have g15 : f_X9_go B14 22 8 0 = some B15 := g15
  obtain ⟨V16, B16, d16, g16, c16, b16, h16⟩ := words_t hs hv h15 2 20 (by decide) rfl (by decide)
  have g16 : f_X9_words B15 2 = some B16 := g16
  obtain ⟨V17, B17, d17, g17, c17, b17, h17⟩ := skip_t hs hv h16 2 (by decide) (by decide) (by decide)
  have g17 : f_X9_skip B16 2 = some B17 := g17
  refine ⟨V17, B17, ?_, ?_, ((((((((((((((((c1.trans c2).trans c3).trans c4).trans c5).trans c6).trans c7).trans c8).trans c9).trans c10).trans c11).trans c12).trans c13).trans c14).trans c15).trans c16).trans c17), ((((((((((((((((b1.trans b2).trans b3).trans b4).trans b5).trans b6).trans b7).trans b8).trans b9).trans b10).trans b11).trans b12).trans b13).trans b14).trans b15).trans b16).trans b17), h17⟩
  · have hw : sv_sta[4]? = some ("SeaReceiver$Vessel", "OF_5", ([-1, 2, 16, 30, 30, 42, 31, 120, 17, 8, 18, 9, 19, 9, 20, 6, 21, 6, -1, 4, 12, 4, 13, 5, 14, 5, 15, 6, 22, 8, 32, 120, -1, 2] : List Int32)) := rfl
    show f_X7_tell_37 T v (a0 + 22) (f + 18) V 4 (Int32.ofNat (2 * 0)) = _
    rw [tl_skip (k := 2) (e := 0) hw (by decide) (by decide) (by decide) (by decide), d1, Option.bind_some, tl_go (wh := 16) (k := 30) (e := 1) hw (by decide) (by decide) (by decide) (by decide) (by decide) hr hl, d2, Option.bind_some, tl_text (t := 0) (k := 7) (e := 2) hw (by decide) (by decide) (by decide) (by decide) (by decide), d3, Option.bind_some, tl_text (t := 1) (k := 20) (e := 3) hw (by decide) (by decide) (by decide) (by decide) (by decide), d4, Option.bind_some, tl_go (wh := 17) (k := 8) (e := 4) hw (by decide) (by decide) (by decide) (by decide) (by decide) hr hl, d5, Option.bind_some, tl_go (wh := 18) (k := 9) (e := 5) hw (by decide) (by decide) (by decide) (by decide) (by decide) hr hl, d6, Option.bind_some, tl_go (wh := 19) (k := 9) (e := 6) hw (by decide) (by decide) (by decide) (by decide) (by decide) hr hl, d7, Option.bind_some, tl_go (wh := 20) (k := 6) (e := 7) hw (by decide) (by decide) (by decide) (by decide) (by decide) hr hl, d8, Option.bind_some, tl_go (wh := 21) (k := 6) (e := 8) hw (by decide) (by decide) (by decide) (by decide) (by decide) hr hl, d9, Option.bind_some, tl_skip (k := 4) (e := 9) hw (by decide) (by decide) (by decide) (by decide), d10, Option.bind_some, tl_go (wh := 12) (k := 4) (e := 10) hw (by decide) (by decide) (by decide) (by decide) (by decide) hr hl, d11, Option.bind_some, tl_go (wh := 13) (k := 5) (e := 11) hw (by decide) (by decide) (by decide) (by decide) (by decide) hr hl, d12, Option.bind_some, tl_go (wh := 14) (k := 5) (e := 12) hw (by decide) (by decide) (by decide) (by decide) (by decide) hr hl, d13, Option.bind_some, tl_go (wh := 15) (k := 6) (e := 13) hw (by decide) (by decide) (by decide) (by decide) (by decide) hr hl, d14, Option.bind_some, tl_go (wh := 22) (k := 8) (e := 14) hw (by decide) (by decide) (by decide) (by decide) (by decide) hr hl, d15, Option.bind_some, tl_text (t := 2) (k := 20) (e := 15) hw (by decide) (by decide) (by decide) (by decide) (by decide), d16, Option.bind_some, tl_skip (k := 2) (e := 16) hw (by decide) (by decide) (by decide) (by decide), d17, Option.bind_some, tl_end (e := 17) hw (by decide) (by decide) (by decide)]
  · unfold f_X9_reports f_X9_where f_X9_way f_X9_still
    rw [if_pos (by decide), if_neg (by decide), if_neg (by decide), g1, Option.bind_some, g2, Option.bind_some, g3, Option.bind_some, g4, Option.bind_some, g5, Option.bind_some, g6, Option.bind_some, g7, Option.bind_some, g8, Option.bind_some, g9, Option.bind_some, g10, Option.bind_some, g11, Option.bind_some, g12, Option.bind_some, g13, Option.bind_some, g14, Option.bind_some, g15, Option.bind_some, g16, Option.bind_some, g17, Option.bind_some, Option.bind_some]
