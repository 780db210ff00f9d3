def f_X8_feed (T : gh_T) (V : gh_V) (a0 : Nat) (x1 : Int32) (x2 : Int32) (x3 : Int32) (x4 : Int32) (x5 : Int32) : Option (Int32 × gh_V) :=
  (T.2.2.1 1 a0).bind (fun b1 =>
    (f_X6_hasRoom T V b1 20).bind (fun q6 =>
      if q6.1 = 0 then
        some ((-2147483648), q6.2)
      else
        (T.2.2.1 1 a0).bind (fun b16 =>
          (f_X6_addWord T q6.2 b16 x1).bind (fun q20 =>
            (T.2.2.1 1 a0).bind (fun b24 =>
              (f_X6_addWord T q20 b24 x2).bind (fun q28 =>
                (T.2.2.1 1 a0).bind (fun b32 =>
                  (f_X6_addWord T q28 b32 x3).bind (fun q36 =>
                    (T.2.2.1 1 a0).bind (fun b40 =>
                      (f_X6_addWord T q36 b40 x4).bind (fun q45 =>
                        (T.2.2.1 1 a0).bind (fun b49 =>
                          (f_X6_addWord T q45 b49 x5).bind (fun q54 =>
                            (T.2.2.1 1 a0).bind (fun b58 =>
                              some (q54.1 1 b58, q54))))))))))))))
set_option maxHeartbeats 4000000 in
set_option maxRecDepth 100000 in
theorem m_X8_feed (l : Launch) (E : sv_E) (T : gh_T) (sz : Nat) (V : gh_V) (a0 : Nat) (x1 : Int32) (x2 : Int32) (x3 : Int32) (x4 : Int32) (x5 : Int32) (q : Int32 × gh_V) (hf : f_X8_feed T V a0 x1 x2 x3 x4 x5 = some q) (hT : gh_ok T) (o_a0 : gh_is T a0 8) : sv_Met l E yX8_feed cX8_feed 6 (some .int) 2 42 [] [.ref a0, .int x1, .int x2, .int x3, .int x4, .int x5] (gh_w E T V) sz (some (.int q.1)) (gh_w E T q.2) sz 0 0 := by
  refine sv_ofJ (by decide) (Nat.le_of_ble_eq_true rfl) ?_
  intro X hX hN hnm hR C hZ
  replace C : sv_C E X cX8_feed RX8 [] := C
  show sv_J E X (gh_w E T V) sz 0 0 0 [(0, .ref a0), (1, .int x1), (2, .int x2), (3, .int x3), (4, .int x4), (5, .int x5)] []
  rw [f_X8_feed] at hf
  refine sv_aload_n 0 C dX8_feed_0 rfl rfl ?_
  obtain ⟨b1, hb1, hf⟩ := sv_bind_some hf
  have o_b1 : gh_is T b1 6 := gh_okr hT o_a0 rfl hb1
  refine gh_getr (d := 6) C fl_X8_18 o_a0 (by decide) (by decide) hb1 dX8_feed_1 ?_
  refine sv_bipush (v := 20) C dX8_feed_4 (by decide) ?_
  obtain ⟨q6, hc6, hf⟩ := sv_bind_some hf
  refine gh_callV0 C mv_X8_70 (m_X6_hasRoom (sv_l X) E T sz _ _ _ _ hc6 hT o_b1) sv_sx0 o_b1 (by decide) rfl rfl rfl (Nat.le_of_ble_eq_true rfl) ⟨by rw [hR]; decide, by rw [hR]; decide⟩ ⟨by rw [hR]; decide, by rw [hR]; decide⟩ dX8_feed_6 ?_
  refine sv_if_ne (tgt := 15) C dX8_feed_9 (by decide) (fun c9 => ?_) (fun c9 => ?_)
  · replace hf := sv_if_f c9 hf
    refine sv_aload_n 0 C dX8_feed_15 rfl rfl ?_
    obtain ⟨b16, hb16, hf⟩ := sv_bind_some hf
    have o_b16 : gh_is T b16 6 := gh_okr hT o_a0 rfl hb16
    refine gh_getr (d := 6) C fl_X8_18 o_a0 (by decide) (by decide) hb16 dX8_feed_16 ?_
    refine sv_iload_n 1 C dX8_feed_19 rfl rfl ?_
    obtain ⟨q20, hc20, hf⟩ := sv_bind_some hf
    refine gh_callV0 C mv_X8_75 (m_X6_addWord (sv_l X) E T sz _ _ _ _ hc20 hT o_b16) sv_sx0 o_b16 (by decide) rfl rfl rfl (Nat.le_of_ble_eq_true rfl) ⟨by rw [hR]; decide, by rw [hR]; decide⟩ ⟨by rw [hR]; decide, by rw [hR]; decide⟩ dX8_feed_20 ?_
    refine sv_aload_n 0 C dX8_feed_23 rfl rfl ?_
    obtain ⟨b24, hb24, hf⟩ := sv_bind_some hf
    have o_b24 : gh_is T b24 6 := gh_okr hT o_a0 rfl hb24
    refine gh_getr (d := 6) C fl_X8_18 o_a0 (by decide) (by decide) hb24 dX8_feed_24 ?_
    refine sv_iload_n 2 C dX8_feed_27 rfl rfl ?_
    obtain ⟨q28, hc28, hf⟩ := sv_bind_some hf
    refine gh_callV0 C mv_X8_75 (m_X6_addWord (sv_l X) E T sz _ _ _ _ hc28 hT o_b24) sv_sx0 o_b24 (by decide) rfl rfl rfl (Nat.le_of_ble_eq_true rfl) ⟨by rw [hR]; decide, by rw [hR]; decide⟩ ⟨by rw [hR]; decide, by rw [hR]; decide⟩ dX8_feed_28 ?_
    refine sv_aload_n 0 C dX8_feed_31 rfl rfl ?_
    obtain ⟨b32, hb32, hf⟩ := sv_bind_some hf
    have o_b32 : gh_is T b32 6 := gh_okr hT o_a0 rfl hb32
    refine gh_getr (d := 6) C fl_X8_18 o_a0 (by decide) (by decide) hb32 dX8_feed_32 ?_
    refine sv_iload_n 3 C dX8_feed_35 rfl rfl ?_
    obtain ⟨q36, hc36, hf⟩ := sv_bind_some hf
    refine gh_callV0 C mv_X8_75 (m_X6_addWord (sv_l X) E T sz _ _ _ _ hc36 hT o_b32) sv_sx0 o_b32 (by decide) rfl rfl rfl (Nat.le_of_ble_eq_true rfl) ⟨by rw [hR]; decide, by rw [hR]; decide⟩ ⟨by rw [hR]; decide, by rw [hR]; decide⟩ dX8_feed_36 ?_
    refine sv_aload_n 0 C dX8_feed_39 rfl rfl ?_
    obtain ⟨b40, hb40, hf⟩ := sv_bind_some hf
    have o_b40 : gh_is T b40 6 := gh_okr hT o_a0 rfl hb40
    refine gh_getr (d := 6) C fl_X8_18 o_a0 (by decide) (by decide) hb40 dX8_feed_40 ?_
    refine sv_iload 4 C dX8_feed_43 rfl ?_
    obtain ⟨q45, hc45, hf⟩ := sv_bind_some hf
    refine gh_callV0 C mv_X8_75 (m_X6_addWord (sv_l X) E T sz _ _ _ _ hc45 hT o_b40) sv_sx0 o_b40 (by decide) rfl rfl rfl (Nat.le_of_ble_eq_true rfl) ⟨by rw [hR]; decide, by rw [hR]; decide⟩ ⟨by rw [hR]; decide, by rw [hR]; decide⟩ dX8_feed_45 ?_
    refine sv_aload_n 0 C dX8_feed_48 rfl rfl ?_
    obtain ⟨b49, hb49, hf⟩ := sv_bind_some hf
    have o_b49 : gh_is T b49 6 := gh_okr hT o_a0 rfl hb49
    refine gh_getr (d := 6) C fl_X8_18 o_a0 (by decide) (by decide) hb49 dX8_feed_49 ?_
    refine sv_iload 5 C dX8_feed_52 rfl ?_
    obtain ⟨q54, hc54, hf⟩ := sv_bind_some hf
    refine gh_callV0 C mv_X8_75 (m_X6_addWord (sv_l X) E T sz _ _ _ _ hc54 hT o_b49) sv_sx0 o_b49 (by decide) rfl rfl rfl (Nat.le_of_ble_eq_true rfl) ⟨by rw [hR]; decide, by rw [hR]; decide⟩ ⟨by rw [hR]; decide, by rw [hR]; decide⟩ dX8_feed_54 ?_
    refine sv_aload_n 0 C dX8_feed_57 rfl rfl ?_
    obtain ⟨b58, hb58, hf⟩ := sv_bind_some hf
    have o_b58 : gh_is T b58 6 := gh_okr hT o_a0 rfl hb58
    refine gh_getr (d := 6) C fl_X8_18 o_a0 (by decide) (by decide) hb58 dX8_feed_58 ?_
    refine gh_geti C fl_X8_78 o_b58 (by decide) (by decide) dX8_feed_61 ?_
    exact sv_iret C (by cases hf; exact hZ) dX8_feed_64
  · replace hf := sv_if_t c9 hf
    refine sv_ldc C kw_397 dX8_feed_12 ?_
    exact sv_iret C (by cases hf; exact hZ) dX8_feed_14
def f_X8_end (T : gh_T) (V : gh_V) (a0 : Nat) (x1 : Int32) : Option (Int32 × gh_V) :=
  if x1 < 0 then
    some (0, V)
  else
    (T.2.2.1 1 a0).bind (fun b6 =>
      if x1 ≤ (V.1 1 b6) then
        (T.2.2.1 1 a0).bind (fun b18 =>
          some (1, gh_pf V 1 b18 x1))
      else
        some (0, V))
set_option maxHeartbeats 4000000 in
set_option maxRecDepth 100000 in
theorem m_X8_end (l : Launch) (E : sv_E) (T : gh_T) (sz : Nat) (V : gh_V) (a0 : Nat) (x1 : Int32) (q : Int32 × gh_V) (hf : f_X8_end T V a0 x1 = some q) (hT : gh_ok T) (o_a0 : gh_is T a0 8) : sv_Met l E yX8_end cX8_end 2 (some .boolean) 0 0 [] [.ref a0, .int x1] (gh_w E T V) sz (some (.int q.1)) (gh_w E T q.2) sz 0 0 := by
  refine sv_ofJ (by decide) (Nat.le_of_ble_eq_true rfl) ?_
  intro X hX hN hnm hR C hZ
  replace C : sv_C E X cX8_end RX8 [] := C
  show sv_J E X (gh_w E T V) sz 0 0 0 [(0, .ref a0), (1, .int x1)] []
  rw [f_X8_end] at hf
  refine sv_iload_n 1 C dX8_end_0 rfl rfl ?_
  refine sv_if_lt (tgt := 15) C dX8_end_1 (by decide) (fun c1 => ?_) (fun c1 => ?_)
  · replace hf := sv_if_t c1 hf
    refine sv_iconst (v := 0) C dX8_end_15 (by decide) ?_
    exact sv_zret (ty := .boolean) C (by decide) (by cases hf; exact hZ) dX8_end_16
  · replace hf := sv_if_f c1 hf
    refine sv_iload_n 1 C dX8_end_4 rfl rfl ?_
    refine sv_aload_n 0 C dX8_end_5 rfl rfl ?_
    obtain ⟨b6, hb6, hf⟩ := sv_bind_some hf
    have o_b6 : gh_is T b6 6 := gh_okr hT o_a0 rfl hb6
    refine gh_getr (d := 6) C fl_X8_18 o_a0 (by decide) (by decide) hb6 dX8_end_6 ?_
    refine gh_geti C fl_X8_78 o_b6 (by decide) (by decide) dX8_end_9 ?_
    refine sv_icmp_le (tgt := 17) C dX8_end_12 (by decide) (fun c12 => ?_) (fun c12 => ?_)
    · replace hf := sv_if_t c12 hf
      refine sv_aload_n 0 C dX8_end_17 rfl rfl ?_
      obtain ⟨b18, hb18, hf⟩ := sv_bind_some hf
      have o_b18 : gh_is T b18 6 := gh_okr hT o_a0 rfl hb18
      refine gh_getr (d := 6) C fl_X8_18 o_a0 (by decide) (by decide) hb18 dX8_end_18 ?_
      refine sv_iload_n 1 C dX8_end_21 rfl rfl ?_
      refine gh_puti C fl_X8_78 o_b18 (by decide) (by decide) rfl rfl dX8_end_22 ?_
      refine sv_iconst (v := 1) C dX8_end_25 (by decide) ?_
      exact sv_zret (ty := .boolean) C (by decide) (by cases hf; exact hZ) dX8_end_26
    · replace hf := sv_if_f c12 hf
      refine sv_iconst (v := 0) C dX8_end_15 (by decide) ?_
      exact sv_zret (ty := .boolean) C (by decide) (by cases hf; exact hZ) dX8_end_16
def f_X8_count_17 (T : gh_T) (a0 : Nat) (V : gh_V) (x1 : Int32) : Option (Int32 × gh_V) :=
  if x1 = 9 then
    (T.2.2.1 8 a0).bind (fun b53 =>
      some (V.1 1 b53, V))
  else if x1 = 10 then
    (T.2.2.1 1 a0).bind (fun b61 =>
      some (V.1 1 b61, V))
  else if x1 = 11 then
    (T.2.2.1 2 a0).bind (fun b69 =>
      some (V.1 1 b69, V))
  else if x1 = 12 then
    (T.2.2.1 3 a0).bind (fun b77 =>
      (f_X5_underWay T V b77).bind (fun q80 =>
        some (q80.1, q80.2)))
  else if x1 = 13 then
    (T.2.2.1 6 a0).bind (fun b85 =>
      (f_X3_keptInAll T V b85).bind (fun q88 =>
        some (q88.1, q88.2)))
  else 
    some ((-2147483648), V)
def f_X8_count (T : gh_T) (V : gh_V) (a0 : Nat) (x1 : Int32) : Option (Int32 × gh_V) :=
  if x1 < 0 then
    f_X8_count_17 T a0 V x1
  else
    if 9 ≤ x1 then
      f_X8_count_17 T a0 V x1
    else
      (T.2.2.1 0 a0).bind (fun b11 =>
        sv_g (sv_inb x1 (T.2.2.2.1 b11)) (
          some (V.2 b11 x1.toNatClampNeg, V)))
set_option maxHeartbeats 4000000 in
set_option maxRecDepth 100000 in
theorem w_X8_count_17 {E : sv_E} {X : sv_X} {sz : Nat} {q : Int32 × gh_V} {T : gh_T} {a0 : Nat} (C : sv_C E X cX8_count RX8 []) (hZ : sv_Z E X (some .int) (some (.int q.1)) (gh_w E T q.2) sz 0 0) (hR : sv_R X = { frames := 1, cells := 0, slots := 0, locals := 22 }) (hN : sv_nL X = 2) (hT : gh_ok T) (o_a0 : gh_is T a0 8) (V : gh_V) (x1 : Int32) (hf : f_X8_count_17 T a0 V x1 = some q) : sv_J E X (gh_w E T V) sz 0 0 17 [(0, .ref a0), (1, .int x1)] [] := by
  rw [f_X8_count_17] at hf
  refine sv_iload_n 1 C dX8_count_17 rfl rfl ?_
  by_cases c18_0 : x1 = 9
  · replace hf := sv_if_t c18_0 hf
    refine sv_tswI (v := 9) (tgt := 52) C dX8_count_18 c18_0 (by decide) (by decide) rfl (by decide) ?_
    refine sv_aload_n 0 C dX8_count_52 rfl rfl ?_
    obtain ⟨b53, hb53, hf⟩ := sv_bind_some hf
    have o_b53 : gh_is T b53 2 := gh_okr hT o_a0 rfl hb53
    refine gh_getr (d := 2) C fl_X8_63 o_a0 (by decide) (by decide) hb53 dX8_count_53 ?_
    refine gh_geti C fl_X8_93 o_b53 (by decide) (by decide) dX8_count_56 ?_
    exact sv_iret C (by cases hf; exact hZ) dX8_count_59
  · replace hf := sv_if_f c18_0 hf
    by_cases c18_1 : x1 = 10
    · replace hf := sv_if_t c18_1 hf
      refine sv_tswI (v := 10) (tgt := 60) C dX8_count_18 c18_1 (by decide) (by decide) rfl (by decide) ?_
      refine sv_aload_n 0 C dX8_count_60 rfl rfl ?_
      obtain ⟨b61, hb61, hf⟩ := sv_bind_some hf
      have o_b61 : gh_is T b61 6 := gh_okr hT o_a0 rfl hb61
      refine gh_getr (d := 6) C fl_X8_18 o_a0 (by decide) (by decide) hb61 dX8_count_61 ?_
      refine gh_geti C fl_X8_78 o_b61 (by decide) (by decide) dX8_count_64 ?_
      exact sv_iret C (by cases hf; exact hZ) dX8_count_67
    · replace hf := sv_if_f c18_1 hf
      by_cases c18_2 : x1 = 11
      · replace hf := sv_if_t c18_2 hf
        refine sv_tswI (v := 11) (tgt := 68) C dX8_count_18 c18_2 (by decide) (by decide) rfl (by decide) ?_
        refine sv_aload_n 0 C dX8_count_68 rfl rfl ?_
        obtain ⟨b69, hb69, hf⟩ := sv_bind_some hf
        have o_b69 : gh_is T b69 6 := gh_okr hT o_a0 rfl hb69
        refine gh_getr (d := 6) C fl_X8_22 o_a0 (by decide) (by decide) hb69 dX8_count_69 ?_
        refine gh_geti C fl_X8_78 o_b69 (by decide) (by decide) dX8_count_72 ?_
        exact sv_iret C (by cases hf; exact hZ) dX8_count_75
      · replace hf := sv_if_f c18_2 hf
        by_cases c18_3 : x1 = 12
        · replace hf := sv_if_t c18_3 hf
          refine sv_tswI (v := 12) (tgt := 76) C dX8_count_18 c18_3 (by decide) (by decide) rfl (by decide) ?_
          refine sv_aload_n 0 C dX8_count_76 rfl rfl ?_
          obtain ⟨b77, hb77, hf⟩ := sv_bind_some hf
          have o_b77 : gh_is T b77 5 := gh_okr hT o_a0 rfl hb77
          refine gh_getr (d := 5) C fl_X8_28 o_a0 (by decide) (by decide) hb77 dX8_count_77 ?_
          obtain ⟨q80, hc80, hf⟩ := sv_bind_some hf
          refine gh_callV0 C mv_X8_94 (m_X5_underWay (sv_l X) E T sz _ _ _ hc80 hT o_b77) sv_sx0 o_b77 (by decide) rfl rfl rfl (Nat.le_of_ble_eq_true rfl) ⟨by rw [hR]; decide, by rw [hR]; decide⟩ ⟨by rw [hR]; decide, by rw [hR]; decide⟩ dX8_count_80 ?_
          exact sv_iret C (by cases hf; exact hZ) dX8_count_83
        · replace hf := sv_if_f c18_3 hf
          by_cases c18_4 : x1 = 13
          · replace hf := sv_if_t c18_4 hf
            refine sv_tswI (v := 13) (tgt := 84) C dX8_count_18 c18_4 (by decide) (by decide) rfl (by decide) ?_
            refine sv_aload_n 0 C dX8_count_84 rfl rfl ?_
            obtain ⟨b85, hb85, hf⟩ := sv_bind_some hf
            have o_b85 : gh_is T b85 3 := gh_okr hT o_a0 rfl hb85
            refine gh_getr (d := 3) C fl_X8_49 o_a0 (by decide) (by decide) hb85 dX8_count_85 ?_
            obtain ⟨q88, hc88, hf⟩ := sv_bind_some hf
            refine gh_callV0 C mv_X8_97 (m_X3_keptInAll (sv_l X) E T sz _ _ _ hc88 hT o_b85) sv_sx0 o_b85 (by decide) rfl rfl rfl (Nat.le_of_ble_eq_true rfl) ⟨by rw [hR]; decide, by rw [hR]; decide⟩ ⟨by rw [hR]; decide, by rw [hR]; decide⟩ dX8_count_88 ?_
            exact sv_iret C (by cases hf; exact hZ) dX8_count_91
          · replace hf := sv_if_f c18_4 hf
            have n18_0 : x1.toInt ≠ 9 := fun e => c18_0 (Int32.toInt_inj.mp (e.trans (by decide)))
            have n18_1 : x1.toInt ≠ 10 := fun e => c18_1 (Int32.toInt_inj.mp (e.trans (by decide)))
            have n18_2 : x1.toInt ≠ 11 := fun e => c18_2 (Int32.toInt_inj.mp (e.trans (by decide)))
            have n18_3 : x1.toInt ≠ 12 := fun e => c18_3 (Int32.toInt_inj.mp (e.trans (by decide)))
            have n18_4 : x1.toInt ≠ 13 := fun e => c18_4 (Int32.toInt_inj.mp (e.trans (by decide)))
            refine sv_tswO (tgt := 92) C dX8_count_18 (by omega) (by decide) ?_
            refine sv_ldc C kw_397 dX8_count_92 ?_
            exact sv_iret C (by cases hf; exact hZ) dX8_count_94
set_option maxHeartbeats 4000000 in
set_option maxRecDepth 100000 in
theorem m_X8_count (l : Launch) (E : sv_E) (T : gh_T) (sz : Nat) (V : gh_V) (a0 : Nat) (x1 : Int32) (q : Int32 × gh_V) (hf : f_X8_count T V a0 x1 = some q) (hT : gh_ok T) (o_a0 : gh_is T a0 8) : sv_Met l E yX8_count cX8_count 2 (some .int) 1 22 [] [.ref a0, .int x1] (gh_w E T V) sz (some (.int q.1)) (gh_w E T q.2) sz 0 0 := by
  refine sv_ofJ (by decide) (Nat.le_of_ble_eq_true rfl) ?_
  intro X hX hN hnm hR C hZ
  replace C : sv_C E X cX8_count RX8 [] := C
  show sv_J E X (gh_w E T V) sz 0 0 0 [(0, .ref a0), (1, .int x1)] []
  rw [f_X8_count] at hf
  refine sv_iload_n 1 C dX8_count_0 rfl rfl ?_
  refine sv_if_lt (tgt := 17) C dX8_count_1 (by decide) (fun c1 => ?_) (fun c1 => ?_)
  · replace hf := sv_if_t c1 hf
    refine sv_sub (lv' := [(0, .ref a0), (1, .int x1)]) [0, 1] rfl ?_
    exact w_X8_count_17 C hZ hR hN hT o_a0 _ _ hf
  · replace hf := sv_if_f c1 hf
    refine sv_iload_n 1 C dX8_count_4 rfl rfl ?_
    refine sv_bipush (v := 9) C dX8_count_5 (by decide) ?_
    refine sv_icmp_ge (tgt := 17) C dX8_count_7 (by decide) (fun c7 => ?_) (fun c7 => ?_)
    · replace hf := sv_if_t c7 hf
      refine sv_sub (lv' := [(0, .ref a0), (1, .int x1)]) [0, 1] rfl ?_
      exact w_X8_count_17 C hZ hR hN hT o_a0 _ _ hf
    · replace hf := sv_if_f c7 hf
      refine sv_aload_n 0 C dX8_count_10 rfl rfl ?_
      obtain ⟨b11, hb11, hf⟩ := sv_bind_some hf
      have o_b11 : gh_is T b11 10 := gh_okr hT o_a0 rfl hb11
      refine gh_getr (d := 10) C fl_X8_9 o_a0 (by decide) (by decide) hb11 dX8_count_11 ?_
      refine sv_iload_n 1 C dX8_count_14 rfl rfl ?_
      obtain ⟨g15, hf⟩ := sv_g_some hf
      refine gh_iald C o_b11 g15 dX8_count_15 ?_
      exact sv_iret C (by cases hf; exact hZ) dX8_count_16
def f_X8_find (T : gh_T) (V : gh_V) (a0 : Nat) (x1 : Int32) : Option (Int32 × gh_V) :=
  (T.2.2.1 8 a0).bind (fun b1 =>
    (f_X2_numberOf T V b1 x1).bind (fun q5 =>
      some (q5.1, q5.2)))
set_option maxHeartbeats 4000000 in
set_option maxRecDepth 100000 in
theorem m_X8_find (l : Launch) (E : sv_E) (T : gh_T) (sz : Nat) (V : gh_V) (a0 : Nat) (x1 : Int32) (q : Int32 × gh_V) (hf : f_X8_find T V a0 x1 = some q) (hT : gh_ok T) (o_a0 : gh_is T a0 8) : sv_Met l E yX8_find cX8_find 2 (some .int) 1 22 [] [.ref a0, .int x1] (gh_w E T V) sz (some (.int q.1)) (gh_w E T q.2) sz 0 0 := by
  refine sv_ofJ (by decide) (Nat.le_of_ble_eq_true rfl) ?_
  intro X hX hN hnm hR C hZ
  replace C : sv_C E X cX8_find RX8 [] := C
  show sv_J E X (gh_w E T V) sz 0 0 0 [(0, .ref a0), (1, .int x1)] []
  rw [f_X8_find] at hf
  refine sv_aload_n 0 C dX8_find_0 rfl rfl ?_
  obtain ⟨b1, hb1, hf⟩ := sv_bind_some hf
  have o_b1 : gh_is T b1 2 := gh_okr hT o_a0 rfl hb1
  refine gh_getr (d := 2) C fl_X8_63 o_a0 (by decide) (by decide) hb1 dX8_find_1 ?_
  refine sv_iload_n 1 C dX8_find_4 rfl rfl ?_
  obtain ⟨q5, hc5, hf⟩ := sv_bind_some hf
  refine gh_callV0 C mv_X8_110 (m_X2_numberOf (sv_l X) E T sz _ _ _ _ hc5 hT o_b1) sv_sx0 o_b1 (by decide) rfl rfl rfl (Nat.le_of_ble_eq_true rfl) ⟨by rw [hR]; decide, by rw [hR]; decide⟩ ⟨by rw [hR]; decide, by rw [hR]; decide⟩ dX8_find_5 ?_
  exact sv_iret C (by cases hf; exact hZ) dX8_find_8
def f_X8_letter (T : gh_T) (V : gh_V) (a0 : Nat) (x1 : Int32) (x2 : Int32) (x3 : Int32) : Option (Int32 × gh_V) :=
  (T.2.2.1 8 a0).bind (fun b1 =>
    (f_X2_at T V b1 x1).bind (fun q5 =>
      match q5.1 with
      | none =>
          some ((-2147483648), q5.2)
      | some b5 =>
        sv_g (gh_isb T b5 7) (
          (f_X7_signOf T q5.2 b5 x2 x3).bind (fun q24 =>
            some (q24.1, q24.2)))))
set_option maxHeartbeats 4000000 in
set_option maxRecDepth 100000 in
theorem m_X8_letter (l : Launch) (E : sv_E) (T : gh_T) (sz : Nat) (V : gh_V) (a0 : Nat) (x1 : Int32) (x2 : Int32) (x3 : Int32) (q : Int32 × gh_V) (hf : f_X8_letter T V a0 x1 x2 x3 = some q) (hT : gh_ok T) (o_a0 : gh_is T a0 8) : sv_Met l E yX8_letter cX8_letter 5 (some .int) 1 22 [] [.ref a0, .int x1, .int x2, .int x3] (gh_w E T V) sz (some (.int q.1)) (gh_w E T q.2) sz 0 0 := by
  refine sv_ofJ (by decide) (Nat.le_of_ble_eq_true rfl) ?_
  intro X hX hN hnm hR C hZ
  replace C : sv_C E X cX8_letter RX8 [] := C
  show sv_J E X (gh_w E T V) sz 0 0 0 [(0, .ref a0), (1, .int x1), (2, .int x2), (3, .int x3)] []
  rw [f_X8_letter] at hf
  refine sv_aload_n 0 C dX8_letter_0 rfl rfl ?_
  obtain ⟨b1, hb1, hf⟩ := sv_bind_some hf
  have o_b1 : gh_is T b1 2 := gh_okr hT o_a0 rfl hb1
  refine gh_getr (d := 2) C fl_X8_63 o_a0 (by decide) (by decide) hb1 dX8_letter_1 ?_
  refine sv_iload_n 1 C dX8_letter_4 rfl rfl ?_
  obtain ⟨q5, hc5, hf⟩ := sv_bind_some hf
  refine gh_callV0 C mv_X8_113 (m_X2_at (sv_l X) E T sz _ _ _ _ hc5 hT o_b1) sv_sx0 o_b1 (by decide) rfl rfl rfl (Nat.le_of_ble_eq_true rfl) ⟨by rw [hR]; decide, by rw [hR]; decide⟩ ⟨by rw [hR]; decide, by rw [hR]; decide⟩ dX8_letter_5 ?_
  cases hb5 : q5.1 with
  | none =>
    rw [hb5] at hf
    show sv_J E X (gh_w E T q5.2) sz 0 0 8 [(0, .ref a0), (1, .int x1), (2, .int x2), (3, .int x3)] [.null]
    refine sv_astoreN (lv' := [(4, .null), (0, .ref a0), (1, .int x1), (2, .int x2), (3, .int x3)]) C dX8_letter_8 (by rw [hN]; decide) rfl ?_
    refine sv_aloadN 0 C dX8_letter_10 rfl ?_
    refine sv_ifnonnullN C dX8_letter_12 ?_
    refine sv_ldc C kw_397 dX8_letter_15 ?_
    refine sv_goto (tgt := 27) C dX8_letter_17 (by decide) ?_
    exact sv_iret C (by cases hf; exact hZ) dX8_letter_27
  | some b5 =>
    rw [hb5] at hf
    obtain ⟨g5, hf⟩ := sv_g_some hf
    have o_b5 : gh_is T b5 7 := gh_isb_is g5
    show sv_J E X (gh_w E T q5.2) sz 0 0 8 [(0, .ref a0), (1, .int x1), (2, .int x2), (3, .int x3)] [.ref b5]
    refine sv_astore (lv' := [(4, .ref b5), (0, .ref a0), (1, .int x1), (2, .int x2), (3, .int x3)]) C dX8_letter_8 (by rw [hN]; decide) rfl ?_
    refine sv_aload 0 C dX8_letter_10 rfl ?_
    refine sv_ifnonnull (tgt := 20) C dX8_letter_12 (by decide) ?_
    refine sv_aload 0 C dX8_letter_20 rfl ?_
    refine sv_iload_n 3 C dX8_letter_22 rfl rfl ?_
    refine sv_iload_n 4 C dX8_letter_23 rfl rfl ?_
    obtain ⟨q24, hc24, hf⟩ := sv_bind_some hf
    refine gh_callV0 C mv_X8_128 (m_X7_signOf (sv_l X) E T sz _ _ _ _ _ hc24 hT o_b5) sv_sx0 o_b5 (by decide) rfl rfl rfl (Nat.le_of_ble_eq_true rfl) ⟨by rw [hR]; decide, by rw [hR]; decide⟩ ⟨by rw [hR]; decide, by rw [hR]; decide⟩ dX8_letter_24 ?_
    exact sv_iret C (by cases hf; exact hZ) dX8_letter_27
def f_X8_out (T : gh_T) (V : gh_V) (a0 : Nat) (x1 : Int32) : Option (Int32 × gh_V) :=
  (T.2.2.1 2 a0).bind (fun b1 =>
    (f_X6_at T V b1 x1).bind (fun q5 =>
      some (q5.1, q5.2)))
set_option maxHeartbeats 4000000 in
set_option maxRecDepth 100000 in
theorem m_X8_out (l : Launch) (E : sv_E) (T : gh_T) (sz : Nat) (V : gh_V) (a0 : Nat) (x1 : Int32) (q : Int32 × gh_V) (hf : f_X8_out T V a0 x1 = some q) (hT : gh_ok T) (o_a0 : gh_is T a0 8) : sv_Met l E yX8_out cX8_out 2 (some .int) 1 21 [] [.ref a0, .int x1] (gh_w E T V) sz (some (.int q.1)) (gh_w E T q.2) sz 0 0 := by
  refine sv_ofJ (by decide) (Nat.le_of_ble_eq_true rfl) ?_
  intro X hX hN hnm hR C hZ
  replace C : sv_C E X cX8_out RX8 [] := C
  show sv_J E X (gh_w E T V) sz 0 0 0 [(0, .ref a0), (1, .int x1)] []
  rw [f_X8_out] at hf
  refine sv_aload_n 0 C dX8_out_0 rfl rfl ?_
  obtain ⟨b1, hb1, hf⟩ := sv_bind_some hf
  have o_b1 : gh_is T b1 6 := gh_okr hT o_a0 rfl hb1
  refine gh_getr (d := 6) C fl_X8_22 o_a0 (by decide) (by decide) hb1 dX8_out_1 ?_
  refine sv_iload_n 1 C dX8_out_4 rfl rfl ?_
  obtain ⟨q5, hc5, hf⟩ := sv_bind_some hf
  refine gh_callV0 C mv_X8_82 (m_X6_at (sv_l X) E T sz _ _ _ _ hc5 hT o_b1) sv_sx0 o_b1 (by decide) rfl rfl rfl (Nat.le_of_ble_eq_true rfl) ⟨by rw [hR]; decide, by rw [hR]; decide⟩ ⟨by rw [hR]; decide, by rw [hR]; decide⟩ dX8_out_5 ?_
  exact sv_iret C (by cases hf; exact hZ) dX8_out_8
def f_X8_again_22 (T : gh_T) (a0 : Nat) : Nat → gh_V → Int32 → Option (Int32 × gh_V)
  | 0, _, _ => none
  | n + 1, V, x1 =>
    (T.2.2.1 2 a0).bind (fun b24 =>
      if (V.1 1 b24) ≤ x1 then
        (T.2.2.1 1 a0).bind (fun b55 =>
          some (V.1 1 b55, V))
      else
        (T.2.2.1 1 a0).bind (fun b34 =>
          (T.2.2.1 2 a0).bind (fun b38 =>
            (f_X6_at T V b38 x1).bind (fun q42 =>
              (f_X6_add T q42.2 b34 q42.1).bind (fun q45 =>
                (f_X8_again_22 T a0 n) q45 (x1 + 1))))))
def f_X8_again (T : gh_T) (V : gh_V) (a0 : Nat) : Option (Int32 × gh_V) :=
  (T.2.2.1 1 a0).bind (fun b1 =>
    (T.2.2.1 2 a0).bind (fun b5 =>
      (f_X6_hasRoom T V b1 (V.1 1 b5)).bind (fun q11 =>
        if q11.1 = 0 then
          some ((-2147483648), q11.2)
        else
          f_X8_again_22 T a0 sv_fu q11.2 0)))
set_option maxHeartbeats 4000000 in
set_option maxRecDepth 100000 in
theorem w_X8_again_22 {E : sv_E} {X : sv_X} {sz : Nat} {q : Int32 × gh_V} {T : gh_T} {a0 : Nat} (C : sv_C E X cX8_again RX8 []) (hZ : sv_Z E X (some .int) (some (.int q.1)) (gh_w E T q.2) sz 0 0) (hR : sv_R X = { frames := 1, cells := 0, slots := 0, locals := 21 }) (hN : sv_nL X = 2) (hT : gh_ok T) (o_a0 : gh_is T a0 8) : ∀ (n : Nat) (V : gh_V) (x1 : Int32), f_X8_again_22 T a0 n V x1 = some q → sv_J E X (gh_w E T V) sz 0 0 22 [(0, .ref a0), (1, .int x1)] [] := by
  intro n
  induction n with
  | zero =>
    intro V x1 hf
    rw [f_X8_again_22] at hf
    cases hf
  | succ n ih =>
    intro V x1 hf
    rw [f_X8_again_22] at hf
    refine sv_iload_n 1 C dX8_again_22 rfl rfl ?_
    refine sv_aload_n 0 C dX8_again_23 rfl rfl ?_
    obtain ⟨b24, hb24, hf⟩ := sv_bind_some hf
    have o_b24 : gh_is T b24 6 := gh_okr hT o_a0 rfl hb24
    refine gh_getr (d := 6) C fl_X8_22 o_a0 (by decide) (by decide) hb24 dX8_again_24 ?_
    refine gh_geti C fl_X8_78 o_b24 (by decide) (by decide) dX8_again_27 ?_
    refine sv_icmp_ge (tgt := 54) C dX8_again_30 (by decide) (fun c30 => ?_) (fun c30 => ?_)
    · replace hf := sv_if_t c30 hf
      refine sv_aload_n 0 C dX8_again_54 rfl rfl ?_
      obtain ⟨b55, hb55, hf⟩ := sv_bind_some hf
      have o_b55 : gh_is T b55 6 := gh_okr hT o_a0 rfl hb55
      refine gh_getr (d := 6) C fl_X8_18 o_a0 (by decide) (by decide) hb55 dX8_again_55 ?_
      refine gh_geti C fl_X8_78 o_b55 (by decide) (by decide) dX8_again_58 ?_
      exact sv_iret C (by cases hf; exact hZ) dX8_again_61
    · replace hf := sv_if_f c30 hf
      refine sv_aload_n 0 C dX8_again_33 rfl rfl ?_
      obtain ⟨b34, hb34, hf⟩ := sv_bind_some hf
      have o_b34 : gh_is T b34 6 := gh_okr hT o_a0 rfl hb34
      refine gh_getr (d := 6) C fl_X8_18 o_a0 (by decide) (by decide) hb34 dX8_again_34 ?_
      refine sv_aload_n 0 C dX8_again_37 rfl rfl ?_
      obtain ⟨b38, hb38, hf⟩ := sv_bind_some hf
      have o_b38 : gh_is T b38 6 := gh_okr hT o_a0 rfl hb38
      refine gh_getr (d := 6) C fl_X8_22 o_a0 (by decide) (by decide) hb38 dX8_again_38 ?_
      refine sv_iload_n 1 C dX8_again_41 rfl rfl ?_
      obtain ⟨q42, hc42, hf⟩ := sv_bind_some hf
      refine gh_callV0 C mv_X8_82 (m_X6_at (sv_l X) E T sz _ _ _ _ hc42 hT o_b38) sv_sx0 o_b38 (by decide) rfl rfl rfl (Nat.le_of_ble_eq_true rfl) ⟨by rw [hR]; decide, by rw [hR]; decide⟩ ⟨by rw [hR]; decide, by rw [hR]; decide⟩ dX8_again_42 ?_
      obtain ⟨q45, hc45, hf⟩ := sv_bind_some hf
      refine gh_callV0 C mv_X8_161 (m_X6_add (sv_l X) E T sz _ _ _ _ hc45 hT o_b34) sv_sx0 o_b34 (by decide) rfl rfl rfl (Nat.le_of_ble_eq_true rfl) ⟨by rw [hR]; decide, by rw [hR]; decide⟩ ⟨by rw [hR]; decide, by rw [hR]; decide⟩ dX8_again_45 ?_
      refine sv_iinc (v := x1 + 1) (lv' := [(1, .int (x1 + 1)), (0, .ref a0)]) 1 C dX8_again_48 rfl rfl (by rw [hN]; decide) rfl ?_
      refine sv_goto (tgt := 22) C dX8_again_51 (by decide) ?_
      refine sv_sub (lv' := [(0, .ref a0), (1, .int (x1 + 1))]) [1, 0] rfl ?_
      exact ih _ _ hf
set_option maxHeartbeats 4000000 in
set_option maxRecDepth 100000 in
theorem m_X8_again (l : Launch) (E : sv_E) (T : gh_T) (sz : Nat) (V : gh_V) (a0 : Nat) (q : Int32 × gh_V) (hf : f_X8_again T V a0 = some q) (hT : gh_ok T) (o_a0 : gh_is T a0 8) : sv_Met l E yX8_again cX8_again 2 (some .int) 1 21 [] [.ref a0] (gh_w E T V) sz (some (.int q.1)) (gh_w E T q.2) sz 0 0 := by
  refine sv_ofJ (by decide) (Nat.le_of_ble_eq_true rfl) ?_
  intro X hX hN hnm hR C hZ
  replace C : sv_C E X cX8_again RX8 [] := C
  show sv_J E X (gh_w E T V) sz 0 0 0 [(0, .ref a0)] []
  rw [f_X8_again] at hf
  refine sv_aload_n 0 C dX8_again_0 rfl rfl ?_
  obtain ⟨b1, hb1, hf⟩ := sv_bind_some hf
  have o_b1 : gh_is T b1 6 := gh_okr hT o_a0 rfl hb1
  refine gh_getr (d := 6) C fl_X8_18 o_a0 (by decide) (by decide) hb1 dX8_again_1 ?_
  refine sv_aload_n 0 C dX8_again_4 rfl rfl ?_
  obtain ⟨b5, hb5, hf⟩ := sv_bind_some hf
  have o_b5 : gh_is T b5 6 := gh_okr hT o_a0 rfl hb5
  refine gh_getr (d := 6) C fl_X8_22 o_a0 (by decide) (by decide) hb5 dX8_again_5 ?_
  refine gh_geti C fl_X8_78 o_b5 (by decide) (by decide) dX8_again_8 ?_
  obtain ⟨q11, hc11, hf⟩ := sv_bind_some hf
  refine gh_callV0 C mv_X8_70 (m_X6_hasRoom (sv_l X) E T sz _ _ _ _ hc11 hT o_b1) sv_sx0 o_b1 (by decide) rfl rfl rfl (Nat.le_of_ble_eq_true rfl) ⟨by rw [hR]; decide, by rw [hR]; decide⟩ ⟨by rw [hR]; decide, by rw [hR]; decide⟩ dX8_again_11 ?_
  refine sv_if_ne (tgt := 20) C dX8_again_14 (by decide) (fun c14 => ?_) (fun c14 => ?_)
  · replace hf := sv_if_f c14 hf
    refine sv_iconst (v := 0) C dX8_again_20 (by decide) ?_
    refine sv_istore_n (lv' := [(1, .int 0), (0, .ref a0)]) C dX8_again_21 rfl (by rw [hN]; decide) rfl ?_
    refine sv_sub (lv' := [(0, .ref a0), (1, .int 0)]) [1, 0] rfl ?_
    exact w_X8_again_22 C hZ hR hN hT o_a0 sv_fu _ _ hf
  · replace hf := sv_if_t c14 hf
    refine sv_ldc C kw_397 dX8_again_17 ?_
    exact sv_iret C (by cases hf; exact hZ) dX8_again_19
def f_X8_clear (T : gh_T) (V : gh_V) (a0 : Nat) : Option (gh_V) :=
  (T.2.2.1 0 a0).bind (fun b1 =>
    (f_J7_fill_53178 T V b1 0).bind (fun q5 =>
      (T.2.2.1 3 a0).bind (fun b9 =>
        (f_X5_forget T q5 b9).bind (fun q12 =>
          (T.2.2.1 5 a0).bind (fun b16 =>
            (f_X4_forget T q12 b16).bind (fun q19 =>
              (T.2.2.1 6 a0).bind (fun b23 =>
                (f_X3_forget T q19 b23).bind (fun q26 =>
                  (T.2.2.1 7 a0).bind (fun b30 =>
                    (f_X0_empty T q26 b30).bind (fun q33 =>
                      (T.2.2.1 8 a0).bind (fun b37 =>
                        some (gh_pf q33 1 b37 0))))))))))))
set_option maxHeartbeats 4000000 in
set_option maxRecDepth 100000 in
theorem m_X8_clear (l : Launch) (E : sv_E) (T : gh_T) (sz : Nat) (V : gh_V) (a0 : Nat) (q : gh_V) (hf : f_X8_clear T V a0 = some q) (hT : gh_ok T) (o_a0 : gh_is T a0 8) : sv_Met l E yX8_clear cX8_clear 1 none 2 43 [] [.ref a0] (gh_w E T V) sz none (gh_w E T q) sz 0 0 := by
  refine sv_ofJ (by decide) (Nat.le_of_ble_eq_true rfl) ?_
  intro X hX hN hnm hR C hZ
  replace C : sv_C E X cX8_clear RX8 [] := C
  show sv_J E X (gh_w E T V) sz 0 0 0 [(0, .ref a0)] []
  rw [f_X8_clear] at hf
  refine sv_aload_n 0 C dX8_clear_0 rfl rfl ?_
  obtain ⟨b1, hb1, hf⟩ := sv_bind_some hf
  have o_b1 : gh_is T b1 10 := gh_okr hT o_a0 rfl hb1
  refine gh_getr (d := 10) C fl_X8_9 o_a0 (by decide) (by decide) hb1 dX8_clear_1 ?_
  refine sv_iconst (v := 0) C dX8_clear_4 (by decide) ?_
  obtain ⟨q5, hc5, hf⟩ := sv_bind_some hf
  refine sv_callS0 C ms_X8_164 (m_J7_fill_53178 (sv_l X) E T sz _ _ _ _ hc5 hT o_b1) sv_sx0 rfl rfl (Nat.le_of_ble_eq_true rfl) ⟨by rw [hR]; decide, by rw [hR]; decide⟩ ⟨by rw [hR]; decide, by rw [hR]; decide⟩ dX8_clear_5 ?_
  refine sv_aload_n 0 C dX8_clear_8 rfl rfl ?_
  obtain ⟨b9, hb9, hf⟩ := sv_bind_some hf
  have o_b9 : gh_is T b9 5 := gh_okr hT o_a0 rfl hb9
  refine gh_getr (d := 5) C fl_X8_28 o_a0 (by decide) (by decide) hb9 dX8_clear_9 ?_
  obtain ⟨q12, hc12, hf⟩ := sv_bind_some hf
  refine gh_callV0 C mv_X8_170 (m_X5_forget (sv_l X) E T sz _ _ _ hc12 hT o_b9) sv_sx0 o_b9 (by decide) rfl rfl rfl (Nat.le_of_ble_eq_true rfl) ⟨by rw [hR]; decide, by rw [hR]; decide⟩ ⟨by rw [hR]; decide, by rw [hR]; decide⟩ dX8_clear_12 ?_
  refine sv_aload_n 0 C dX8_clear_15 rfl rfl ?_
  obtain ⟨b16, hb16, hf⟩ := sv_bind_some hf
  have o_b16 : gh_is T b16 4 := gh_okr hT o_a0 rfl hb16
  refine gh_getr (d := 4) C fl_X8_42 o_a0 (by decide) (by decide) hb16 dX8_clear_16 ?_
  obtain ⟨q19, hc19, hf⟩ := sv_bind_some hf
  refine gh_callV0 C mv_X8_173 (m_X4_forget (sv_l X) E T sz _ _ _ hc19 hT o_b16) sv_sx0 o_b16 (by decide) rfl rfl rfl (Nat.le_of_ble_eq_true rfl) ⟨by rw [hR]; decide, by rw [hR]; decide⟩ ⟨by rw [hR]; decide, by rw [hR]; decide⟩ dX8_clear_19 ?_
  refine sv_aload_n 0 C dX8_clear_22 rfl rfl ?_
  obtain ⟨b23, hb23, hf⟩ := sv_bind_some hf
  have o_b23 : gh_is T b23 3 := gh_okr hT o_a0 rfl hb23
  refine gh_getr (d := 3) C fl_X8_49 o_a0 (by decide) (by decide) hb23 dX8_clear_23 ?_
  obtain ⟨q26, hc26, hf⟩ := sv_bind_some hf
  refine gh_callV0 C mv_X8_174 (m_X3_forget (sv_l X) E T sz _ _ _ hc26 hT o_b23) sv_sx0 o_b23 (by decide) rfl rfl rfl (Nat.le_of_ble_eq_true rfl) ⟨by rw [hR]; decide, by rw [hR]; decide⟩ ⟨by rw [hR]; decide, by rw [hR]; decide⟩ dX8_clear_26 ?_
  refine sv_aload_n 0 C dX8_clear_29 rfl rfl ?_
  obtain ⟨b30, hb30, hf⟩ := sv_bind_some hf
  have o_b30 : gh_is T b30 0 := gh_okr hT o_a0 rfl hb30
  refine gh_getr (d := 0) C fl_X8_56 o_a0 (by decide) (by decide) hb30 dX8_clear_30 ?_
  obtain ⟨q33, hc33, hf⟩ := sv_bind_some hf
  refine gh_callV0 C mv_X8_175 (m_X0_empty (sv_l X) E T sz _ _ _ hc33 hT o_b30) sv_sx0 o_b30 (by decide) rfl rfl rfl (Nat.le_of_ble_eq_true rfl) ⟨by rw [hR]; decide, by rw [hR]; decide⟩ ⟨by rw [hR]; decide, by rw [hR]; decide⟩ dX8_clear_33 ?_
  refine sv_aload_n 0 C dX8_clear_36 rfl rfl ?_
  obtain ⟨b37, hb37, hf⟩ := sv_bind_some hf
  have o_b37 : gh_is T b37 2 := gh_okr hT o_a0 rfl hb37
  refine gh_getr (d := 2) C fl_X8_63 o_a0 (by decide) (by decide) hb37 dX8_clear_37 ?_
  refine sv_iconst (v := 0) C dX8_clear_40 (by decide) ?_
  refine gh_puti C fl_X8_93 o_b37 (by decide) (by decide) rfl rfl dX8_clear_41 ?_
  exact sv_vret C (by cases hf; exact hZ) dX8_clear_44
def f_X8_isInOrder (T : gh_T) (V : gh_V) (a0 : Nat) (x1 : Int32) (x2 : Int32) (x3 : Int32) : Option (Int32 × gh_V) :=
  if x3 = 1 then
    (T.2.2.1 6 a0).bind (fun b6 =>
      (f_X3_drop T V b6 x1).bind (fun q10 =>
        if q10.1 = 0 then
          some (1, q10.2)
        else
          (T.2.2.1 0 a0).bind (fun b17 =>
            sv_g (sv_inb (7 : Int32) (T.2.2.2.1 b17)) (
              sv_g (sv_inb (7 : Int32) (T.2.2.2.1 b17)) (
                some (1, gh_pa q10.2 b17 7 ((q10.2.2 b17 (7 : Int32).toNatClampNeg) + 1)))))))
  else
    (T.2.2.1 6 a0).bind (fun b30 =>
      (f_X3_awaits T V b30 x1 x2 x3).bind (fun q36 =>
        if q36.1 = 0 then
          (T.2.2.1 6 a0).bind (fun b45 =>
            (f_X3_drop T q36.2 b45 x1).bind (fun q49 =>
              (T.2.2.1 0 a0).bind (fun b54 =>
                sv_g (sv_inb (7 : Int32) (T.2.2.2.1 b54)) (
                  sv_g (sv_inb (7 : Int32) (T.2.2.2.1 b54)) (
                    some (0, gh_pa q49.2 b54 7 ((q49.2.2 b54 (7 : Int32).toNatClampNeg) + 1)))))))
        else
          some (1, q36.2)))
set_option maxHeartbeats 4000000 in
set_option maxRecDepth 100000 in
theorem m_X8_isInOrder (l : Launch) (E : sv_E) (T : gh_T) (sz : Nat) (V : gh_V) (a0 : Nat) (x1 : Int32) (x2 : Int32) (x3 : Int32) (q : Int32 × gh_V) (hf : f_X8_isInOrder T V a0 x1 x2 x3 = some q) (hT : gh_ok T) (o_a0 : gh_is T a0 8) : sv_Met l E yX8_isInOrder cX8_isInOrder 4 (some .boolean) 1 23 [] [.ref a0, .int x1, .int x2, .int x3] (gh_w E T V) sz (some (.int q.1)) (gh_w E T q.2) sz 0 0 := by
  refine sv_ofJ (by decide) (Nat.le_of_ble_eq_true rfl) ?_
  intro X hX hN hnm hR C hZ
  replace C : sv_C E X cX8_isInOrder RX8 [] := C
  show sv_J E X (gh_w E T V) sz 0 0 0 [(0, .ref a0), (1, .int x1), (2, .int x2), (3, .int x3)] []
  rw [f_X8_isInOrder] at hf
  refine sv_iload_n 3 C dX8_isInOrder_0 rfl rfl ?_
  refine sv_iconst (v := 1) C dX8_isInOrder_1 (by decide) ?_
  refine sv_icmp_ne (tgt := 29) C dX8_isInOrder_2 (by decide) (fun c2 => ?_) (fun c2 => ?_)
  · replace hf := sv_if_f c2 hf
    refine sv_aload_n 0 C dX8_isInOrder_29 rfl rfl ?_
    obtain ⟨b30, hb30, hf⟩ := sv_bind_some hf
    have o_b30 : gh_is T b30 3 := gh_okr hT o_a0 rfl hb30
    refine gh_getr (d := 3) C fl_X8_49 o_a0 (by decide) (by decide) hb30 dX8_isInOrder_30 ?_
    refine sv_iload_n 1 C dX8_isInOrder_33 rfl rfl ?_
    refine sv_iload_n 2 C dX8_isInOrder_34 rfl rfl ?_
    refine sv_iload_n 3 C dX8_isInOrder_35 rfl rfl ?_
    obtain ⟨q36, hc36, hf⟩ := sv_bind_some hf
    refine gh_callV0 C mv_X8_253 (m_X3_awaits (sv_l X) E T sz _ _ _ _ _ _ hc36 hT o_b30) sv_sx0 o_b30 (by decide) rfl rfl rfl (Nat.le_of_ble_eq_true rfl) ⟨by rw [hR]; decide, by rw [hR]; decide⟩ ⟨by rw [hR]; decide, by rw [hR]; decide⟩ dX8_isInOrder_36 ?_
    refine sv_if_eq (tgt := 44) C dX8_isInOrder_39 (by decide) (fun c39 => ?_) (fun c39 => ?_)
    · replace hf := sv_if_t c39 hf
      refine sv_aload_n 0 C dX8_isInOrder_44 rfl rfl ?_
      obtain ⟨b45, hb45, hf⟩ := sv_bind_some hf
      have o_b45 : gh_is T b45 3 := gh_okr hT o_a0 rfl hb45
      refine gh_getr (d := 3) C fl_X8_49 o_a0 (by decide) (by decide) hb45 dX8_isInOrder_45 ?_
      refine sv_iload_n 1 C dX8_isInOrder_48 rfl rfl ?_
      obtain ⟨q49, hc49, hf⟩ := sv_bind_some hf
      refine gh_callV0 C mv_X8_247 (m_X3_drop (sv_l X) E T sz _ _ _ _ hc49 hT o_b45) sv_sx0 o_b45 (by decide) rfl rfl rfl (Nat.le_of_ble_eq_true rfl) ⟨by rw [hR]; decide, by rw [hR]; decide⟩ ⟨by rw [hR]; decide, by rw [hR]; decide⟩ dX8_isInOrder_49 ?_
      refine sv_pop C dX8_isInOrder_52 rfl ?_
      refine sv_aload_n 0 C dX8_isInOrder_53 rfl rfl ?_
      obtain ⟨b54, hb54, hf⟩ := sv_bind_some hf
      have o_b54 : gh_is T b54 10 := gh_okr hT o_a0 rfl hb54
      refine gh_getr (d := 10) C fl_X8_9 o_a0 (by decide) (by decide) hb54 dX8_isInOrder_54 ?_
      refine sv_bipush (v := 7) C dX8_isInOrder_57 (by decide) ?_
      refine sv_dup2 C dX8_isInOrder_59 rfl rfl ?_
      obtain ⟨g60, hf⟩ := sv_g_some hf
      refine gh_iald C o_b54 g60 dX8_isInOrder_60 ?_
      refine sv_iconst (v := 1) C dX8_isInOrder_61 (by decide) ?_
      refine sv_iadd C dX8_isInOrder_62 ?_
      obtain ⟨g63, hf⟩ := sv_g_some hf
      refine gh_iast C o_b54 g63 dX8_isInOrder_63 ?_
      refine sv_iconst (v := 0) C dX8_isInOrder_64 (by decide) ?_
      exact sv_zret (ty := .boolean) C (by decide) (by cases hf; exact hZ) dX8_isInOrder_65
    · replace hf := sv_if_f c39 hf
      refine sv_iconst (v := 1) C dX8_isInOrder_42 (by decide) ?_
      exact sv_zret (ty := .boolean) C (by decide) (by cases hf; exact hZ) dX8_isInOrder_43
  · replace hf := sv_if_t c2 hf
    refine sv_aload_n 0 C dX8_isInOrder_5 rfl rfl ?_
    obtain ⟨b6, hb6, hf⟩ := sv_bind_some hf
    have o_b6 : gh_is T b6 3 := gh_okr hT o_a0 rfl hb6
    refine gh_getr (d := 3) C fl_X8_49 o_a0 (by decide) (by decide) hb6 dX8_isInOrder_6 ?_
    refine sv_iload_n 1 C dX8_isInOrder_9 rfl rfl ?_
    obtain ⟨q10, hc10, hf⟩ := sv_bind_some hf
    refine gh_callV0 C mv_X8_247 (m_X3_drop (sv_l X) E T sz _ _ _ _ hc10 hT o_b6) sv_sx0 o_b6 (by decide) rfl rfl rfl (Nat.le_of_ble_eq_true rfl) ⟨by rw [hR]; decide, by rw [hR]; decide⟩ ⟨by rw [hR]; decide, by rw [hR]; decide⟩ dX8_isInOrder_10 ?_
    refine sv_if_eq (tgt := 27) C dX8_isInOrder_13 (by decide) (fun c13 => ?_) (fun c13 => ?_)
    · replace hf := sv_if_t c13 hf
      refine sv_iconst (v := 1) C dX8_isInOrder_27 (by decide) ?_
      exact sv_zret (ty := .boolean) C (by decide) (by cases hf; exact hZ) dX8_isInOrder_28
    · replace hf := sv_if_f c13 hf
      refine sv_aload_n 0 C dX8_isInOrder_16 rfl rfl ?_
      obtain ⟨b17, hb17, hf⟩ := sv_bind_some hf
      have o_b17 : gh_is T b17 10 := gh_okr hT o_a0 rfl hb17
      refine gh_getr (d := 10) C fl_X8_9 o_a0 (by decide) (by decide) hb17 dX8_isInOrder_17 ?_
      refine sv_bipush (v := 7) C dX8_isInOrder_20 (by decide) ?_
      refine sv_dup2 C dX8_isInOrder_22 rfl rfl ?_
      obtain ⟨g23, hf⟩ := sv_g_some hf
      refine gh_iald C o_b17 g23 dX8_isInOrder_23 ?_
      refine sv_iconst (v := 1) C dX8_isInOrder_24 (by decide) ?_
      refine sv_iadd C dX8_isInOrder_25 ?_
      obtain ⟨g26, hf⟩ := sv_g_some hf
      refine gh_iast C o_b17 g26 dX8_isInOrder_26 ?_
      refine sv_iconst (v := 1) C dX8_isInOrder_27 (by decide) ?_
      exact sv_zret (ty := .boolean) C (by decide) (by cases hf; exact hZ) dX8_isInOrder_28
def f_X8_sixteen (T : gh_T) (V : gh_V) (x0 : Int32) : Option (Int32 × gh_V) :=
  if 10 ≤ x0 then
    some ((65 + x0) - 10, V)
  else
    some (48 + x0, V)
set_option maxHeartbeats 4000000 in
set_option maxRecDepth 100000 in
theorem m_X8_sixteen (l : Launch) (E : sv_E) (T : gh_T) (sz : Nat) (V : gh_V) (x0 : Int32) (q : Int32 × gh_V) (hf : f_X8_sixteen T V x0 = some q) (hT : gh_ok T) : sv_Met l E yX8_sixteen cX8_sixteen 1 (some .int) 0 0 [] [.int x0] (gh_w E T V) sz (some (.int q.1)) (gh_w E T q.2) sz 0 0 := by
  refine sv_ofJ (by decide) (Nat.le_of_ble_eq_true rfl) ?_
  intro X hX hN hnm hR C hZ
  replace C : sv_C E X cX8_sixteen RX8 [] := C
  show sv_J E X (gh_w E T V) sz 0 0 0 [(0, .int x0)] []
  rw [f_X8_sixteen] at hf
  refine sv_iload_n 0 C dX8_sixteen_0 rfl rfl ?_
  refine sv_bipush (v := 10) C dX8_sixteen_1 (by decide) ?_
  refine sv_icmp_ge (tgt := 13) C dX8_sixteen_3 (by decide) (fun c3 => ?_) (fun c3 => ?_)
  · replace hf := sv_if_t c3 hf
    refine sv_bipush (v := 65) C dX8_sixteen_13 (by decide) ?_
    refine sv_iload_n 0 C dX8_sixteen_15 rfl rfl ?_
    refine sv_iadd C dX8_sixteen_16 ?_
    refine sv_bipush (v := 10) C dX8_sixteen_17 (by decide) ?_
    refine sv_isub C dX8_sixteen_19 ?_
    exact sv_iret C (by cases hf; exact hZ) dX8_sixteen_20
  · replace hf := sv_if_f c3 hf
    refine sv_bipush (v := 48) C dX8_sixteen_6 (by decide) ?_
    refine sv_iload_n 0 C dX8_sixteen_8 rfl rfl ?_
    refine sv_iadd C dX8_sixteen_9 ?_
    refine sv_goto (tgt := 20) C dX8_sixteen_10 (by decide) ?_
    exact sv_iret C (by cases hf; exact hZ) dX8_sixteen_20
def f_X8_closeSentence_6 (T : gh_T) (a0 : Nat) : Nat → gh_V → Int32 → Int32 → Option (gh_V)
  | 0, _, _, _ => none
  | n + 1, V, x2, x3 =>
    (T.2.2.1 2 a0).bind (fun b8 =>
      if (V.1 1 b8) ≤ x3 then
        (T.2.2.1 2 a0).bind (fun b35 =>
          (f_X6_add T V b35 42).bind (fun q40 =>
            (T.2.2.1 2 a0).bind (fun b44 =>
              (f_X8_sixteen T q40 ((x2 >>> (4 &&& 31)) &&& 15)).bind (fun q53 =>
                (f_X6_add T q53.2 b44 q53.1).bind (fun q56 =>
                  (T.2.2.1 2 a0).bind (fun b60 =>
                    (f_X8_sixteen T q56 (x2 &&& 15)).bind (fun q67 =>
                      (f_X6_add T q67.2 b60 q67.1).bind (fun q70 =>
                        (T.2.2.1 2 a0).bind (fun b74 =>
                          (f_X6_add T q70 b74 13).bind (fun q79 =>
                            (T.2.2.1 2 a0).bind (fun b83 =>
                              (f_X6_add T q79 b83 10).bind (fun q88 =>
                                some (q88)))))))))))))
      else
        (T.2.2.1 2 a0).bind (fun b19 =>
          (f_X6_at T V b19 x3).bind (fun q23 =>
            (f_X8_closeSentence_6 T a0 n) q23.2 (x2 ^^^ q23.1) (x3 + 1))))
def f_X8_closeSentence (T : gh_T) (V : gh_V) (a0 : Nat) (x1 : Int32) : Option (gh_V) :=
  f_X8_closeSentence_6 T a0 sv_fu V 0 (x1 + 1)
set_option maxHeartbeats 4000000 in
set_option maxRecDepth 100000 in
theorem w_X8_closeSentence_6 {E : sv_E} {X : sv_X} {sz : Nat} {q : gh_V} {T : gh_T} {a0 : Nat} (C : sv_C E X cX8_closeSentence RX8 []) (hZ : sv_Z E X none none (gh_w E T q) sz 0 0) (hR : sv_R X = { frames := 1, cells := 0, slots := 0, locals := 21 }) (hN : sv_nL X = 4) (hT : gh_ok T) (o_a0 : gh_is T a0 8) : ∀ (n : Nat) (V : gh_V) (x2 : Int32) (x3 : Int32), f_X8_closeSentence_6 T a0 n V x2 x3 = some q → sv_J E X (gh_w E T V) sz 0 0 6 [(0, .ref a0), (2, .int x2), (3, .int x3)] [] := by
  intro n
  induction n with
  | zero =>
    intro V x2 x3 hf
    rw [f_X8_closeSentence_6] at hf
    cases hf
  | succ n ih =>
    intro V x2 x3 hf
    rw [f_X8_closeSentence_6] at hf
    refine sv_iload_n 2 C dX8_closeSentence_6 rfl rfl ?_
    refine sv_aload_n 0 C dX8_closeSentence_7 rfl rfl ?_
    obtain ⟨b8, hb8, hf⟩ := sv_bind_some hf
    have o_b8 : gh_is T b8 6 := gh_okr hT o_a0 rfl hb8
    refine gh_getr (d := 6) C fl_X8_22 o_a0 (by decide) (by decide) hb8 dX8_closeSentence_8 ?_
    refine gh_geti C fl_X8_78 o_b8 (by decide) (by decide) dX8_closeSentence_11 ?_
    refine sv_icmp_ge (tgt := 34) C dX8_closeSentence_14 (by decide) (fun c14 => ?_) (fun c14 => ?_)
    · replace hf := sv_if_t c14 hf
      refine sv_aload_n 0 C dX8_closeSentence_34 rfl rfl ?_
      obtain ⟨b35, hb35, hf⟩ := sv_bind_some hf
      have o_b35 : gh_is T b35 6 := gh_okr hT o_a0 rfl hb35
      refine gh_getr (d := 6) C fl_X8_22 o_a0 (by decide) (by decide) hb35 dX8_closeSentence_35 ?_
      refine sv_bipush (v := 42) C dX8_closeSentence_38 (by decide) ?_
      obtain ⟨q40, hc40, hf⟩ := sv_bind_some hf
      refine gh_callV0 C mv_X8_161 (m_X6_add (sv_l X) E T sz _ _ _ _ hc40 hT o_b35) sv_sx0 o_b35 (by decide) rfl rfl rfl (Nat.le_of_ble_eq_true rfl) ⟨by rw [hR]; decide, by rw [hR]; decide⟩ ⟨by rw [hR]; decide, by rw [hR]; decide⟩ dX8_closeSentence_40 ?_
      refine sv_aload_n 0 C dX8_closeSentence_43 rfl rfl ?_
      obtain ⟨b44, hb44, hf⟩ := sv_bind_some hf
      have o_b44 : gh_is T b44 6 := gh_okr hT o_a0 rfl hb44
      refine gh_getr (d := 6) C fl_X8_22 o_a0 (by decide) (by decide) hb44 dX8_closeSentence_44 ?_
      refine sv_iload_n 1 C dX8_closeSentence_47 rfl rfl ?_
      refine sv_iconst (v := 4) C dX8_closeSentence_48 (by decide) ?_
      refine sv_ishr C dX8_closeSentence_49 ?_
      refine sv_bipush (v := 15) C dX8_closeSentence_50 (by decide) ?_
      refine sv_iand C dX8_closeSentence_52 ?_
      obtain ⟨q53, hc53, hf⟩ := sv_bind_some hf
      refine sv_callS0 C ms_X8_275 (m_X8_sixteen (sv_l X) E T sz _ _ _ hc53 hT) sv_sx0 rfl rfl (Nat.le_of_ble_eq_true rfl) ⟨by rw [hR]; decide, by rw [hR]; decide⟩ ⟨by rw [hR]; decide, by rw [hR]; decide⟩ dX8_closeSentence_53 ?_
      obtain ⟨q56, hc56, hf⟩ := sv_bind_some hf
      refine gh_callV0 C mv_X8_161 (m_X6_add (sv_l X) E T sz _ _ _ _ hc56 hT o_b44) sv_sx0 o_b44 (by decide) rfl rfl rfl (Nat.le_of_ble_eq_true rfl) ⟨by rw [hR]; decide, by rw [hR]; decide⟩ ⟨by rw [hR]; decide, by rw [hR]; decide⟩ dX8_closeSentence_56 ?_
      refine sv_aload_n 0 C dX8_closeSentence_59 rfl rfl ?_
      obtain ⟨b60, hb60, hf⟩ := sv_bind_some hf
      have o_b60 : gh_is T b60 6 := gh_okr hT o_a0 rfl hb60
      refine gh_getr (d := 6) C fl_X8_22 o_a0 (by decide) (by decide) hb60 dX8_closeSentence_60 ?_
      refine sv_iload_n 1 C dX8_closeSentence_63 rfl rfl ?_
      refine sv_bipush (v := 15) C dX8_closeSentence_64 (by decide) ?_
      refine sv_iand C dX8_closeSentence_66 ?_
      obtain ⟨q67, hc67, hf⟩ := sv_bind_some hf
      refine sv_callS0 C ms_X8_275 (m_X8_sixteen (sv_l X) E T sz _ _ _ hc67 hT) sv_sx0 rfl rfl (Nat.le_of_ble_eq_true rfl) ⟨by rw [hR]; decide, by rw [hR]; decide⟩ ⟨by rw [hR]; decide, by rw [hR]; decide⟩ dX8_closeSentence_67 ?_
      obtain ⟨q70, hc70, hf⟩ := sv_bind_some hf
      refine gh_callV0 C mv_X8_161 (m_X6_add (sv_l X) E T sz _ _ _ _ hc70 hT o_b60) sv_sx0 o_b60 (by decide) rfl rfl rfl (Nat.le_of_ble_eq_true rfl) ⟨by rw [hR]; decide, by rw [hR]; decide⟩ ⟨by rw [hR]; decide, by rw [hR]; decide⟩ dX8_closeSentence_70 ?_
      refine sv_aload_n 0 C dX8_closeSentence_73 rfl rfl ?_
      obtain ⟨b74, hb74, hf⟩ := sv_bind_some hf
      have o_b74 : gh_is T b74 6 := gh_okr hT o_a0 rfl hb74
      refine gh_getr (d := 6) C fl_X8_22 o_a0 (by decide) (by decide) hb74 dX8_closeSentence_74 ?_
      refine sv_bipush (v := 13) C dX8_closeSentence_77 (by decide) ?_
      obtain ⟨q79, hc79, hf⟩ := sv_bind_some hf
      refine gh_callV0 C mv_X8_161 (m_X6_add (sv_l X) E T sz _ _ _ _ hc79 hT o_b74) sv_sx0 o_b74 (by decide) rfl rfl rfl (Nat.le_of_ble_eq_true rfl) ⟨by rw [hR]; decide, by rw [hR]; decide⟩ ⟨by rw [hR]; decide, by rw [hR]; decide⟩ dX8_closeSentence_79 ?_
      refine sv_aload_n 0 C dX8_closeSentence_82 rfl rfl ?_
      obtain ⟨b83, hb83, hf⟩ := sv_bind_some hf
      have o_b83 : gh_is T b83 6 := gh_okr hT o_a0 rfl hb83
      refine gh_getr (d := 6) C fl_X8_22 o_a0 (by decide) (by decide) hb83 dX8_closeSentence_83 ?_
      refine sv_bipush (v := 10) C dX8_closeSentence_86 (by decide) ?_
      obtain ⟨q88, hc88, hf⟩ := sv_bind_some hf
      refine gh_callV0 C mv_X8_161 (m_X6_add (sv_l X) E T sz _ _ _ _ hc88 hT o_b83) sv_sx0 o_b83 (by decide) rfl rfl rfl (Nat.le_of_ble_eq_true rfl) ⟨by rw [hR]; decide, by rw [hR]; decide⟩ ⟨by rw [hR]; decide, by rw [hR]; decide⟩ dX8_closeSentence_88 ?_
      exact sv_vret C (by cases hf; exact hZ) dX8_closeSentence_91
    · replace hf := sv_if_f c14 hf
      refine sv_iload_n 1 C dX8_closeSentence_17 rfl rfl ?_
      refine sv_aload_n 0 C dX8_closeSentence_18 rfl rfl ?_
      obtain ⟨b19, hb19, hf⟩ := sv_bind_some hf
      have o_b19 : gh_is T b19 6 := gh_okr hT o_a0 rfl hb19
      refine gh_getr (d := 6) C fl_X8_22 o_a0 (by decide) (by decide) hb19 dX8_closeSentence_19 ?_
      refine sv_iload_n 2 C dX8_closeSentence_22 rfl rfl ?_
      obtain ⟨q23, hc23, hf⟩ := sv_bind_some hf
      refine gh_callV0 C mv_X8_82 (m_X6_at (sv_l X) E T sz _ _ _ _ hc23 hT o_b19) sv_sx0 o_b19 (by decide) rfl rfl rfl (Nat.le_of_ble_eq_true rfl) ⟨by rw [hR]; decide, by rw [hR]; decide⟩ ⟨by rw [hR]; decide, by rw [hR]; decide⟩ dX8_closeSentence_23 ?_
      refine sv_ixor C dX8_closeSentence_26 ?_
      refine sv_istore_n (lv' := [(2, .int (x2 ^^^ q23.1)), (0, .ref a0), (3, .int x3)]) C dX8_closeSentence_27 rfl (by rw [hN]; decide) rfl ?_
      refine sv_iinc (v := x3 + 1) (lv' := [(3, .int (x3 + 1)), (2, .int (x2 ^^^ q23.1)), (0, .ref a0)]) 2 C dX8_closeSentence_28 rfl rfl (by rw [hN]; decide) rfl ?_
      refine sv_goto (tgt := 6) C dX8_closeSentence_31 (by decide) ?_
      refine sv_sub (lv' := [(0, .ref a0), (2, .int (x2 ^^^ q23.1)), (3, .int (x3 + 1))]) [2, 1, 0] rfl ?_
      exact ih _ _ _ hf
set_option maxHeartbeats 4000000 in
set_option maxRecDepth 100000 in
theorem m_X8_closeSentence (l : Launch) (E : sv_E) (T : gh_T) (sz : Nat) (V : gh_V) (a0 : Nat) (x1 : Int32) (q : gh_V) (hf : f_X8_closeSentence T V a0 x1 = some q) (hT : gh_ok T) (o_a0 : gh_is T a0 8) : sv_Met l E yX8_closeSentence cX8_closeSentence 4 none 1 21 [] [.ref a0, .int x1] (gh_w E T V) sz none (gh_w E T q) sz 0 0 := by
  refine sv_ofJ (by decide) (Nat.le_of_ble_eq_true rfl) ?_
  intro X hX hN hnm hR C hZ
  replace C : sv_C E X cX8_closeSentence RX8 [] := C
  show sv_J E X (gh_w E T V) sz 0 0 0 [(0, .ref a0), (1, .int x1)] []
  rw [f_X8_closeSentence] at hf
  refine sv_iconst (v := 0) C dX8_closeSentence_0 (by decide) ?_
  refine sv_istore_n (lv' := [(2, .int 0), (0, .ref a0), (1, .int x1)]) C dX8_closeSentence_1 rfl (by rw [hN]; decide) rfl ?_
  refine sv_iload_n 2 C dX8_closeSentence_2 rfl rfl ?_
  refine sv_iconst (v := 1) C dX8_closeSentence_3 (by decide) ?_
  refine sv_iadd C dX8_closeSentence_4 ?_
  refine sv_istore_n (lv' := [(3, .int (x1 + 1)), (2, .int 0), (0, .ref a0), (1, .int x1)]) C dX8_closeSentence_5 rfl (by rw [hN]; decide) rfl ?_
  refine sv_sub (lv' := [(0, .ref a0), (2, .int 0), (3, .int (x1 + 1))]) [2, 1, 0] rfl ?_
  exact w_X8_closeSentence_6 C hZ hR hN hT o_a0 sv_fu _ _ _ hf
def f_X8_writeSentence_104 (T : gh_T) (a0 : Nat) (t1 : List Int32) (k57 : gh_V → Int32 → Int32 → Int32 → Option (gh_V)) (V : gh_V) (x4 : Int32) (x5 : Int32) (x6 : Int32) (s0 : Int32) (as1 : Nat) : Option (gh_V) :=
  (f_X6_add T V as1 s0).bind (fun q104 =>
    k57 q104 x4 x5 (x6 + 1))
def f_X8_writeSentence_154 (T : gh_T) (a0 : Nat) (t1 : List Int32) (V : gh_V) (x5 : Int32) (s0 : Int32) (s1 : Int32) (as2 : Nat) : Option (gh_V) :=
  (f_X6_add T V as2 (s1 + s0)).bind (fun q155 =>
    (f_X8_closeSentence T q155 a0 x5).bind (fun q161 =>
      some (q161)))
def f_X8_writeSentence_57 (T : gh_T) (a0 : Nat) (t1 : List Int32) : Nat → gh_V → Int32 → Int32 → Int32 → Option (gh_V)
  | 0, _, _, _, _ => none
  | n + 1, V, x4, x5, x6 =>
    if x4 ≤ x6 then
      (T.2.2.1 9 a0).bind (fun b119 =>
        (T.2.2.1 2 a0).bind (fun b129 =>
          (f_X6_add T V b129 44).bind (fun q134 =>
            (T.2.2.1 2 a0).bind (fun b138 =>
              if ((6 * x4) - (V.1 2 b119)) ≤ 0 then
                f_X8_writeSentence_154 T a0 t1 q134 x5 0 48 b138
              else
                f_X8_writeSentence_154 T a0 t1 q134 x5 ((6 * x4) - (V.1 2 b119)) 48 b138))))
    else
      (T.2.2.1 9 a0).bind (fun b65 =>
        (f_X0_read T V b65 (6 * x6) 6).bind (fun q75 =>
          (T.2.2.1 2 a0).bind (fun b81 =>
            if 40 ≤ q75.1 then
              f_X8_writeSentence_104 T a0 t1 (f_X8_writeSentence_57 T a0 t1 n) q75.2 x4 x5 x6 (q75.1 + 56) b81
            else
              f_X8_writeSentence_104 T a0 t1 (f_X8_writeSentence_57 T a0 t1 n) q75.2 x4 x5 x6 (q75.1 + 48) b81)))
def f_X8_writeSentence_44 (T : gh_T) (a0 : Nat) (t1 : List Int32) (V : gh_V) (x3 : Int32) (x4 : Int32) (x5 : Int32) : Option (gh_V) :=
  (T.2.2.1 2 a0).bind (fun b45 =>
    (f_X6_addText T V b45 ([44, 65, 44])).bind (fun q51 =>
      f_X8_writeSentence_57 T a0 t1 sv_fu q51 x4 x5 x3))
def f_X8_writeSentence (T : gh_T) (V : gh_V) (a0 : Nat) (t1 : List Int32) (x2 : Int32) (x3 : Int32) (x4 : Int32) : Option (gh_V) :=
  (T.2.2.1 2 a0).bind (fun b1 =>
    (T.2.2.1 2 a0).bind (fun b10 =>
      (f_X6_addText T V b10 ([33, 65, 73, 86, 68, 77, 44])).bind (fun q16 =>
        (T.2.2.1 2 a0).bind (fun b20 =>
          (f_X6_addText T q16 b20 t1).bind (fun q24 =>
            if x2 = (-2147483648) then
              f_X8_writeSentence_44 T a0 t1 q24 x3 x4 (V.1 1 b1)
            else
              (T.2.2.1 2 a0).bind (fun b34 =>
                (f_X6_add T q24 b34 (48 + x2)).bind (fun q41 =>
                  f_X8_writeSentence_44 T a0 t1 q41 x3 x4 (V.1 1 b1))))))))
set_option maxHeartbeats 4000000 in
set_option maxRecDepth 100000 in
theorem w_X8_writeSentence_104 {E : sv_E} {X : sv_X} {sz : Nat} {q : gh_V} {T : gh_T} {k1 v1 : Nat} {t1 : List Int32} {a0 : Nat} (C : sv_C E X cX8_writeSentence RX8 [(k1, v1, t1)]) (hZ : sv_Z E X none none (gh_w E T q) sz 0 0) (hR : sv_R X = { frames := 5, cells := 0, slots := 0, locals := 107 }) (hN : sv_nL X = 8) (hT : gh_ok T) (o_a0 : gh_is T a0 8) {k57 : gh_V → Int32 → Int32 → Int32 → Option (gh_V)} (hk57 : ∀ (V : gh_V) (x4 : Int32) (x5 : Int32) (x6 : Int32), k57 V x4 x5 x6 = some q → sv_J E X (gh_w E T V) sz 0 0 57 [(0, .ref a0), (4, .int x4), (5, .int x5), (6, .int x6)] []) (V : gh_V) (x4 : Int32) (x5 : Int32) (x6 : Int32) (s0 : Int32) (as1 : Nat) (o_as1 : gh_is T as1 6) (hf : f_X8_writeSentence_104 T a0 t1 k57 V x4 x5 x6 s0 as1 = some q) : sv_J E X (gh_w E T V) sz 0 0 104 [(0, .ref a0), (4, .int x4), (5, .int x5), (6, .int x6)] [.int s0, .ref as1] := by
  rw [f_X8_writeSentence_104] at hf
  obtain ⟨q104, hc104, hf⟩ := sv_bind_some hf
  refine gh_callV0 C mv_X8_161 (m_X6_add (sv_l X) E T sz _ _ _ _ hc104 hT o_as1) sv_sx0 o_as1 (by decide) rfl rfl rfl (Nat.le_of_ble_eq_true rfl) ⟨by rw [hR]; decide, by rw [hR]; decide⟩ ⟨by rw [hR]; decide, by rw [hR]; decide⟩ dX8_writeSentence_104 ?_
  refine sv_iinc (v := x6 + 1) (lv' := [(6, .int (x6 + 1)), (0, .ref a0), (4, .int x4), (5, .int x5)]) 3 C dX8_writeSentence_107 rfl rfl (by rw [hN]; decide) rfl ?_
  refine sv_goto (tgt := 57) C dX8_writeSentence_110 (by decide) ?_
  refine sv_sub (lv' := [(0, .ref a0), (4, .int x4), (5, .int x5), (6, .int (x6 + 1))]) [1, 2, 3, 0] rfl ?_
  exact hk57 _ _ _ _ hf
set_option maxHeartbeats 4000000 in
set_option maxRecDepth 100000 in
theorem w_X8_writeSentence_154 {E : sv_E} {X : sv_X} {sz : Nat} {q : gh_V} {T : gh_T} {k1 v1 : Nat} {t1 : List Int32} {a0 : Nat} (C : sv_C E X cX8_writeSentence RX8 [(k1, v1, t1)]) (hZ : sv_Z E X none none (gh_w E T q) sz 0 0) (hR : sv_R X = { frames := 5, cells := 0, slots := 0, locals := 107 }) (hN : sv_nL X = 8) (hT : gh_ok T) (o_a0 : gh_is T a0 8) (V : gh_V) (x5 : Int32) (s0 : Int32) (s1 : Int32) (as2 : Nat) (o_as2 : gh_is T as2 6) (hf : f_X8_writeSentence_154 T a0 t1 V x5 s0 s1 as2 = some q) : sv_J E X (gh_w E T V) sz 0 0 154 [(0, .ref a0), (5, .int x5)] [.int s0, .int s1, .ref as2] := by
  rw [f_X8_writeSentence_154] at hf
  refine sv_iadd C dX8_writeSentence_154 ?_
  obtain ⟨q155, hc155, hf⟩ := sv_bind_some hf
  refine gh_callV0 C mv_X8_161 (m_X6_add (sv_l X) E T sz _ _ _ _ hc155 hT o_as2) sv_sx0 o_as2 (by decide) rfl rfl rfl (Nat.le_of_ble_eq_true rfl) ⟨by rw [hR]; decide, by rw [hR]; decide⟩ ⟨by rw [hR]; decide, by rw [hR]; decide⟩ dX8_writeSentence_155 ?_
  refine sv_aload_n 0 C dX8_writeSentence_158 rfl rfl ?_
  refine sv_iload 1 C dX8_writeSentence_159 rfl ?_
  obtain ⟨q161, hc161, hf⟩ := sv_bind_some hf
  refine gh_callV0 C mv_X8_272 (m_X8_closeSentence (sv_l X) E T sz _ _ _ _ hc161 hT o_a0) sv_sx0 o_a0 (by decide) rfl rfl rfl (Nat.le_of_ble_eq_true rfl) ⟨by rw [hR]; decide, by rw [hR]; decide⟩ ⟨by rw [hR]; decide, by rw [hR]; decide⟩ dX8_writeSentence_161 ?_
  exact sv_vret C (by cases hf; exact hZ) dX8_writeSentence_164
set_option maxHeartbeats 4000000 in
set_option maxRecDepth 100000 in
theorem w_X8_writeSentence_57 {E : sv_E} {X : sv_X} {sz : Nat} {q : gh_V} {T : gh_T} {k1 v1 : Nat} {t1 : List Int32} {a0 : Nat} (C : sv_C E X cX8_writeSentence RX8 [(k1, v1, t1)]) (hZ : sv_Z E X none none (gh_w E T q) sz 0 0) (hR : sv_R X = { frames := 5, cells := 0, slots := 0, locals := 107 }) (hN : sv_nL X = 8) (hT : gh_ok T) (o_a0 : gh_is T a0 8) : ∀ (n : Nat) (V : gh_V) (x4 : Int32) (x5 : Int32) (x6 : Int32), f_X8_writeSentence_57 T a0 t1 n V x4 x5 x6 = some q → sv_J E X (gh_w E T V) sz 0 0 57 [(0, .ref a0), (4, .int x4), (5, .int x5), (6, .int x6)] [] := by
  intro n
  induction n with
  | zero =>
    intro V x4 x5 x6 hf
    rw [f_X8_writeSentence_57] at hf
    cases hf
  | succ n ih =>
    intro V x4 x5 x6 hf
    rw [f_X8_writeSentence_57] at hf
    refine sv_iload 3 C dX8_writeSentence_57 rfl ?_
    refine sv_iload 1 C dX8_writeSentence_59 rfl ?_
    refine sv_icmp_ge (tgt := 113) C dX8_writeSentence_61 (by decide) (fun c61 => ?_) (fun c61 => ?_)
    · replace hf := sv_if_t c61 hf
      refine sv_bipush (v := 6) C dX8_writeSentence_113 (by decide) ?_
      refine sv_iload 1 C dX8_writeSentence_115 rfl ?_
      refine sv_imul C dX8_writeSentence_117 ?_
      refine sv_aload_n 0 C dX8_writeSentence_118 rfl rfl ?_
      obtain ⟨b119, hb119, hf⟩ := sv_bind_some hf
      have o_b119 : gh_is T b119 0 := gh_okr hT o_a0 rfl hb119
      refine gh_getr (d := 0) C fl_X8_67 o_a0 (by decide) (by decide) hb119 dX8_writeSentence_119 ?_
      refine gh_geti C fl_X8_132 o_b119 (by decide) (by decide) dX8_writeSentence_122 ?_
      refine sv_isub C dX8_writeSentence_125 ?_
      refine sv_istore (lv' := [(6, .int ((6 * x4) - (V.1 2 b119))), (0, .ref a0), (4, .int x4), (5, .int x5)]) C dX8_writeSentence_126 (by rw [hN]; decide) rfl ?_
      refine sv_aload_n 1 C dX8_writeSentence_128 rfl rfl ?_
      obtain ⟨b129, hb129, hf⟩ := sv_bind_some hf
      have o_b129 : gh_is T b129 6 := gh_okr hT o_a0 rfl hb129
      refine gh_getr (d := 6) C fl_X8_22 o_a0 (by decide) (by decide) hb129 dX8_writeSentence_129 ?_
      refine sv_bipush (v := 44) C dX8_writeSentence_132 (by decide) ?_
      obtain ⟨q134, hc134, hf⟩ := sv_bind_some hf
      refine gh_callV0 C mv_X8_161 (m_X6_add (sv_l X) E T sz _ _ _ _ hc134 hT o_b129) sv_sx0 o_b129 (by decide) rfl rfl rfl (Nat.le_of_ble_eq_true rfl) ⟨by rw [hR]; decide, by rw [hR]; decide⟩ ⟨by rw [hR]; decide, by rw [hR]; decide⟩ dX8_writeSentence_134 ?_
      refine sv_aload_n 1 C dX8_writeSentence_137 rfl rfl ?_
      obtain ⟨b138, hb138, hf⟩ := sv_bind_some hf
      have o_b138 : gh_is T b138 6 := gh_okr hT o_a0 rfl hb138
      refine gh_getr (d := 6) C fl_X8_22 o_a0 (by decide) (by decide) hb138 dX8_writeSentence_138 ?_
      refine sv_bipush (v := 48) C dX8_writeSentence_141 (by decide) ?_
      refine sv_iload 0 C dX8_writeSentence_143 rfl ?_
      refine sv_if_le (tgt := 153) C dX8_writeSentence_145 (by decide) (fun c145 => ?_) (fun c145 => ?_)
      · replace hf := sv_if_t c145 hf
        refine sv_iconst (v := 0) C dX8_writeSentence_153 (by decide) ?_
        refine sv_sub (lv' := [(0, .ref a0), (5, .int x5)]) [1, 3] rfl ?_
        exact w_X8_writeSentence_154 C hZ hR hN hT o_a0 _ _ _ _ _ o_b138 hf
      · replace hf := sv_if_f c145 hf
        refine sv_iload 0 C dX8_writeSentence_148 rfl ?_
        refine sv_goto (tgt := 154) C dX8_writeSentence_150 (by decide) ?_
        refine sv_sub (lv' := [(0, .ref a0), (5, .int x5)]) [1, 3] rfl ?_
        exact w_X8_writeSentence_154 C hZ hR hN hT o_a0 _ _ _ _ _ o_b138 hf
    · replace hf := sv_if_f c61 hf
      refine sv_aload_n 0 C dX8_writeSentence_64 rfl rfl ?_
      obtain ⟨b65, hb65, hf⟩ := sv_bind_some hf
      have o_b65 : gh_is T b65 0 := gh_okr hT o_a0 rfl hb65
      refine gh_getr (d := 0) C fl_X8_67 o_a0 (by decide) (by decide) hb65 dX8_writeSentence_65 ?_
      refine sv_bipush (v := 6) C dX8_writeSentence_68 (by decide) ?_
      refine sv_iload 3 C dX8_writeSentence_70 rfl ?_
      refine sv_imul C dX8_writeSentence_72 ?_
      refine sv_bipush (v := 6) C dX8_writeSentence_73 (by decide) ?_
      obtain ⟨q75, hc75, hf⟩ := sv_bind_some hf
      refine gh_callV0 C mv_X8_137 (m_X0_read (sv_l X) E T sz _ _ _ _ _ hc75 hT o_b65) sv_sx0 o_b65 (by decide) rfl rfl rfl (Nat.le_of_ble_eq_true rfl) ⟨by rw [hR]; decide, by rw [hR]; decide⟩ ⟨by rw [hR]; decide, by rw [hR]; decide⟩ dX8_writeSentence_75 ?_
      refine sv_istore (lv' := [(7, .int q75.1), (0, .ref a0), (4, .int x4), (5, .int x5), (6, .int x6)]) C dX8_writeSentence_78 (by rw [hN]; decide) rfl ?_
      refine sv_aload_n 1 C dX8_writeSentence_80 rfl rfl ?_
      obtain ⟨b81, hb81, hf⟩ := sv_bind_some hf
      have o_b81 : gh_is T b81 6 := gh_okr hT o_a0 rfl hb81
      refine gh_getr (d := 6) C fl_X8_22 o_a0 (by decide) (by decide) hb81 dX8_writeSentence_81 ?_
      refine sv_iload 0 C dX8_writeSentence_84 rfl ?_
      refine sv_bipush (v := 40) C dX8_writeSentence_86 (by decide) ?_
      refine sv_icmp_ge (tgt := 99) C dX8_writeSentence_88 (by decide) (fun c88 => ?_) (fun c88 => ?_)
      · replace hf := sv_if_t c88 hf
        refine sv_iload 0 C dX8_writeSentence_99 rfl ?_
        refine sv_bipush (v := 56) C dX8_writeSentence_101 (by decide) ?_
        refine sv_iadd C dX8_writeSentence_103 ?_
        refine sv_sub (lv' := [(0, .ref a0), (4, .int x4), (5, .int x5), (6, .int x6)]) [1, 2, 3, 4] rfl ?_
        exact w_X8_writeSentence_104 C hZ hR hN hT o_a0 ih _ _ _ _ _ _ o_b81 hf
      · replace hf := sv_if_f c88 hf
        refine sv_iload 0 C dX8_writeSentence_91 rfl ?_
        refine sv_bipush (v := 48) C dX8_writeSentence_93 (by decide) ?_
        refine sv_iadd C dX8_writeSentence_95 ?_
        refine sv_goto (tgt := 104) C dX8_writeSentence_96 (by decide) ?_
        refine sv_sub (lv' := [(0, .ref a0), (4, .int x4), (5, .int x5), (6, .int x6)]) [1, 2, 3, 4] rfl ?_
        exact w_X8_writeSentence_104 C hZ hR hN hT o_a0 ih _ _ _ _ _ _ o_b81 hf
set_option maxHeartbeats 4000000 in
set_option maxRecDepth 100000 in
theorem w_X8_writeSentence_44 {E : sv_E} {X : sv_X} {sz : Nat} {q : gh_V} {T : gh_T} {k1 v1 : Nat} {t1 : List Int32} {a0 : Nat} (C : sv_C E X cX8_writeSentence RX8 [(k1, v1, t1)]) (hZ : sv_Z E X none none (gh_w E T q) sz 0 0) (hR : sv_R X = { frames := 5, cells := 0, slots := 0, locals := 107 }) (hN : sv_nL X = 8) (hT : gh_ok T) (o_a0 : gh_is T a0 8) (V : gh_V) (x3 : Int32) (x4 : Int32) (x5 : Int32) (hf : f_X8_writeSentence_44 T a0 t1 V x3 x4 x5 = some q) : sv_J E X (gh_w E T V) sz 0 0 44 [(0, .ref a0), (3, .int x3), (4, .int x4), (5, .int x5)] [] := by
  rw [f_X8_writeSentence_44] at hf
  refine sv_aload_n 0 C dX8_writeSentence_44 rfl rfl ?_
  obtain ⟨b45, hb45, hf⟩ := sv_bind_some hf
  have o_b45 : gh_is T b45 6 := gh_okr hT o_a0 rfl hb45
  refine gh_getr (d := 6) C fl_X8_22 o_a0 (by decide) (by decide) hb45 dX8_writeSentence_45 ?_
  refine sv_ldcSw (i := 11) C (by rfl) dX8_writeSentence_48 ?_
  obtain ⟨q51, hc51, hf⟩ := sv_bind_some hf
  refine gh_callV0 C mv_X8_267 (m_X6_addText (sv_l X) E T sz (E.2.2.1 11) (E.2.2.2.1 11) _ _ _ _ hc51 hT o_b45) (sv_sxi (i := 11) (by rfl)) o_b45 (by decide) rfl rfl rfl (Nat.le_of_ble_eq_true rfl) ⟨by rw [hR]; decide, by rw [hR]; decide⟩ ⟨by rw [hR]; decide, by rw [hR]; decide⟩ dX8_writeSentence_51 ?_
  refine sv_iload_n 1 C dX8_writeSentence_54 rfl rfl ?_
  refine sv_istore (lv' := [(6, .int x3), (0, .ref a0), (3, .int x3), (4, .int x4), (5, .int x5)]) C dX8_writeSentence_55 (by rw [hN]; decide) rfl ?_
  refine sv_sub (lv' := [(0, .ref a0), (4, .int x4), (5, .int x5), (6, .int x3)]) [1, 3, 4, 0] rfl ?_
  exact w_X8_writeSentence_57 C hZ hR hN hT o_a0 sv_fu _ _ _ _ hf
set_option maxHeartbeats 4000000 in
set_option maxRecDepth 100000 in
theorem m_X8_writeSentence (l : Launch) (E : sv_E) (T : gh_T) (sz : Nat) (k1 v1 : Nat) (V : gh_V) (a0 : Nat) (t1 : List Int32) (x2 : Int32) (x3 : Int32) (x4 : Int32) (q : gh_V) (hf : f_X8_writeSentence T V a0 t1 x2 x3 x4 = some q) (hT : gh_ok T) (o_a0 : gh_is T a0 8) : sv_Met l E yX8_writeSentence cX8_writeSentence 8 none 5 107 [(k1, v1, t1)] [.ref a0, .ref k1, .int x2, .int x3, .int x4] (gh_w E T V) sz none (gh_w E T q) sz 0 0 := by
  refine sv_ofJ (by decide) (Nat.le_of_ble_eq_true rfl) ?_
  intro X hX hN hnm hR C hZ
  replace C : sv_C E X cX8_writeSentence RX8 [(k1, v1, t1)] := C
  show sv_J E X (gh_w E T V) sz 0 0 0 [(0, .ref a0), (1, .ref k1), (2, .int x2), (3, .int x3), (4, .int x4)] []
  rw [f_X8_writeSentence] at hf
  refine sv_aload_n 0 C dX8_writeSentence_0 rfl rfl ?_
  obtain ⟨b1, hb1, hf⟩ := sv_bind_some hf
  have o_b1 : gh_is T b1 6 := gh_okr hT o_a0 rfl hb1
  refine gh_getr (d := 6) C fl_X8_22 o_a0 (by decide) (by decide) hb1 dX8_writeSentence_1 ?_
  refine gh_geti C fl_X8_78 o_b1 (by decide) (by decide) dX8_writeSentence_4 ?_
  refine sv_istore (lv' := [(5, .int (V.1 1 b1)), (0, .ref a0), (1, .ref k1), (2, .int x2), (3, .int x3), (4, .int x4)]) C dX8_writeSentence_7 (by rw [hN]; decide) rfl ?_
  refine sv_aload_n 1 C dX8_writeSentence_9 rfl rfl ?_
  obtain ⟨b10, hb10, hf⟩ := sv_bind_some hf
  have o_b10 : gh_is T b10 6 := gh_okr hT o_a0 rfl hb10
  refine gh_getr (d := 6) C fl_X8_22 o_a0 (by decide) (by decide) hb10 dX8_writeSentence_10 ?_
  refine sv_ldcSw (i := 10) C (by rfl) dX8_writeSentence_13 ?_
  obtain ⟨q16, hc16, hf⟩ := sv_bind_some hf
  refine gh_callV0 C mv_X8_267 (m_X6_addText (sv_l X) E T sz (E.2.2.1 10) (E.2.2.2.1 10) _ _ _ _ hc16 hT o_b10) (sv_sxi (i := 10) (by rfl)) o_b10 (by decide) rfl rfl rfl (Nat.le_of_ble_eq_true rfl) ⟨by rw [hR]; decide, by rw [hR]; decide⟩ ⟨by rw [hR]; decide, by rw [hR]; decide⟩ dX8_writeSentence_16 ?_
  refine sv_aload_n 1 C dX8_writeSentence_19 rfl rfl ?_
  obtain ⟨b20, hb20, hf⟩ := sv_bind_some hf
  have o_b20 : gh_is T b20 6 := gh_okr hT o_a0 rfl hb20
  refine gh_getr (d := 6) C fl_X8_22 o_a0 (by decide) (by decide) hb20 dX8_writeSentence_20 ?_
  refine sv_aload_n 2 C dX8_writeSentence_23 rfl rfl ?_
  obtain ⟨q24, hc24, hf⟩ := sv_bind_some hf
  refine gh_callV0 C mv_X8_267 (m_X6_addText (sv_l X) E T sz k1 v1 _ _ _ _ hc24 hT o_b20) sv_sx1 o_b20 (by decide) rfl rfl rfl (Nat.le_of_ble_eq_true rfl) ⟨by rw [hR]; decide, by rw [hR]; decide⟩ ⟨by rw [hR]; decide, by rw [hR]; decide⟩ dX8_writeSentence_24 ?_
  refine sv_iload_n 3 C dX8_writeSentence_27 rfl rfl ?_
  refine sv_ldc C kw_397 dX8_writeSentence_28 ?_
  refine sv_icmp_eq (tgt := 44) C dX8_writeSentence_30 (by decide) (fun c30 => ?_) (fun c30 => ?_)
  · replace hf := sv_if_t c30 hf
    refine sv_sub (lv' := [(0, .ref a0), (3, .int x3), (4, .int x4), (5, .int (V.1 1 b1))]) [1, 4, 5, 0] rfl ?_
    exact w_X8_writeSentence_44 C hZ hR hN hT o_a0 _ _ _ _ hf
  · replace hf := sv_if_f c30 hf
    refine sv_aload_n 1 C dX8_writeSentence_33 rfl rfl ?_
    obtain ⟨b34, hb34, hf⟩ := sv_bind_some hf
    have o_b34 : gh_is T b34 6 := gh_okr hT o_a0 rfl hb34
    refine gh_getr (d := 6) C fl_X8_22 o_a0 (by decide) (by decide) hb34 dX8_writeSentence_34 ?_
    refine sv_bipush (v := 48) C dX8_writeSentence_37 (by decide) ?_
    refine sv_iload_n 3 C dX8_writeSentence_39 rfl rfl ?_
    refine sv_iadd C dX8_writeSentence_40 ?_
    obtain ⟨q41, hc41, hf⟩ := sv_bind_some hf
    refine gh_callV0 C mv_X8_161 (m_X6_add (sv_l X) E T sz _ _ _ _ hc41 hT o_b34) sv_sx0 o_b34 (by decide) rfl rfl rfl (Nat.le_of_ble_eq_true rfl) ⟨by rw [hR]; decide, by rw [hR]; decide⟩ ⟨by rw [hR]; decide, by rw [hR]; decide⟩ dX8_writeSentence_41 ?_
    refine sv_sub (lv' := [(0, .ref a0), (3, .int x3), (4, .int x4), (5, .int (V.1 1 b1))]) [1, 4, 5, 0] rfl ?_
    exact w_X8_writeSentence_44 C hZ hR hN hT o_a0 _ _ _ _ hf
