def f_X9_still (B : md_B) : Option (md_B) :=
  (f_X9_skip B 2).bind (fun q2 =>
    (f_X9_go q2 16 30 0).bind (fun q11 =>
      (f_X9_words q11 0).bind (fun q16 =>
        (f_X9_words q16 1).bind (fun q21 =>
          (f_X9_go q21 17 8 0).bind (fun q30 =>
            (f_X9_go q30 18 9 0).bind (fun q39 =>
              (f_X9_go q39 19 9 0).bind (fun q48 =>
                (f_X9_go q48 20 6 0).bind (fun q57 =>
                  (f_X9_go q57 21 6 0).bind (fun q66 =>
                    (f_X9_skip q66 4).bind (fun q71 =>
                      (f_X9_go q71 12 4 0).bind (fun q79 =>
                        (f_X9_go q79 13 5 0).bind (fun q87 =>
                          (f_X9_go q87 14 5 0).bind (fun q95 =>
                            (f_X9_go q95 15 6 0).bind (fun q104 =>
                              (f_X9_go q104 22 8 0).bind (fun q113 =>
                                (f_X9_words q113 2).bind (fun q118 =>
                                  (f_X9_skip q118 2).bind (fun q123 =>
                                    some q123)))))))))))))))))
set_option maxHeartbeats 4000000 in
set_option maxRecDepth 100000 in
theorem m_X9_still (l : Launch) (E : sv_E) (h0 : Nat) (ad : Nat → Nat) (sz : Nat) (B : md_B) (q : md_B) (hf : f_X9_still B = some q) : sv_Met l E yX9_still cX9_still 1 none 3 70 [] [.ref h0] (md_w E h0 ad B) sz none (md_w E h0 ad q) sz 0 0 := by
  refine sv_ofJ (by decide) (Nat.le_of_ble_eq_true rfl) ?_
  intro X hX hN hnm hR C hZ
  replace C : sv_C E X cX9_still RX9 [] := C
  show sv_J E X (md_w E h0 ad B) sz 0 0 0 [(0, .ref h0)] []
  rw [f_X9_still] at hf
  refine sv_aload_n 0 C dX9_still_0 rfl rfl ?_
  refine sv_iconst (v := 2) C dX9_still_1 (by decide) ?_
  obtain ⟨q2, hc2, hf⟩ := sv_bind_some hf
  refine sv_callV0 C mv_X9_327 (m_X9_skip (sv_l X) E h0 ad sz _ _ _ hc2) sv_sx0 0 rfl rfl rfl rfl (Nat.le_of_ble_eq_true rfl) ⟨by rw [hR]; decide, by rw [hR]; decide⟩ ⟨by rw [hR]; decide, by rw [hR]; decide⟩ dX9_still_2 ?_
  refine sv_aload_n 0 C dX9_still_5 rfl rfl ?_
  refine sv_bipush (v := 16) C dX9_still_6 (by decide) ?_
  refine sv_bipush (v := 30) C dX9_still_8 (by decide) ?_
  refine sv_iconst (v := 0) C dX9_still_10 (by decide) ?_
  obtain ⟨q11, hc11, hf⟩ := sv_bind_some hf
  refine sv_callV0 C mv_X9_317 (m_X9_go (sv_l X) E h0 ad sz _ _ _ _ _ hc11) sv_sx0 0 rfl rfl rfl rfl (Nat.le_of_ble_eq_true rfl) ⟨by rw [hR]; decide, by rw [hR]; decide⟩ ⟨by rw [hR]; decide, by rw [hR]; decide⟩ dX9_still_11 ?_
  refine sv_aload_n 0 C dX9_still_14 rfl rfl ?_
  refine sv_iconst (v := 0) C dX9_still_15 (by decide) ?_
  obtain ⟨q16, hc16, hf⟩ := sv_bind_some hf
  refine sv_callV0 C mv_X9_333 (m_X9_words (sv_l X) E h0 ad sz _ _ _ hc16) sv_sx0 0 rfl rfl rfl rfl (Nat.le_of_ble_eq_true rfl) ⟨by rw [hR]; decide, by rw [hR]; decide⟩ ⟨by rw [hR]; decide, by rw [hR]; decide⟩ dX9_still_16 ?_
  refine sv_aload_n 0 C dX9_still_19 rfl rfl ?_
  refine sv_iconst (v := 1) C dX9_still_20 (by decide) ?_
  obtain ⟨q21, hc21, hf⟩ := sv_bind_some hf
  refine sv_callV0 C mv_X9_333 (m_X9_words (sv_l X) E h0 ad sz _ _ _ hc21) sv_sx0 0 rfl rfl rfl rfl (Nat.le_of_ble_eq_true rfl) ⟨by rw [hR]; decide, by rw [hR]; decide⟩ ⟨by rw [hR]; decide, by rw [hR]; decide⟩ dX9_still_21 ?_
  refine sv_aload_n 0 C dX9_still_24 rfl rfl ?_
  refine sv_bipush (v := 17) C dX9_still_25 (by decide) ?_
  refine sv_bipush (v := 8) C dX9_still_27 (by decide) ?_
  refine sv_iconst (v := 0) C dX9_still_29 (by decide) ?_
  obtain ⟨q30, hc30, hf⟩ := sv_bind_some hf
  refine sv_callV0 C mv_X9_317 (m_X9_go (sv_l X) E h0 ad sz _ _ _ _ _ hc30) sv_sx0 0 rfl rfl rfl rfl (Nat.le_of_ble_eq_true rfl) ⟨by rw [hR]; decide, by rw [hR]; decide⟩ ⟨by rw [hR]; decide, by rw [hR]; decide⟩ dX9_still_30 ?_
  refine sv_aload_n 0 C dX9_still_33 rfl rfl ?_
  refine sv_bipush (v := 18) C dX9_still_34 (by decide) ?_
  refine sv_bipush (v := 9) C dX9_still_36 (by decide) ?_
  refine sv_iconst (v := 0) C dX9_still_38 (by decide) ?_
  obtain ⟨q39, hc39, hf⟩ := sv_bind_some hf
  refine sv_callV0 C mv_X9_317 (m_X9_go (sv_l X) E h0 ad sz _ _ _ _ _ hc39) sv_sx0 0 rfl rfl rfl rfl (Nat.le_of_ble_eq_true rfl) ⟨by rw [hR]; decide, by rw [hR]; decide⟩ ⟨by rw [hR]; decide, by rw [hR]; decide⟩ dX9_still_39 ?_
  refine sv_aload_n 0 C dX9_still_42 rfl rfl ?_
  refine sv_bipush (v := 19) C dX9_still_43 (by decide) ?_
  refine sv_bipush (v := 9) C dX9_still_45 (by decide) ?_
  refine sv_iconst (v := 0) C dX9_still_47 (by decide) ?_
  obtain ⟨q48, hc48, hf⟩ := sv_bind_some hf
  refine sv_callV0 C mv_X9_317 (m_X9_go (sv_l X) E h0 ad sz _ _ _ _ _ hc48) sv_sx0 0 rfl rfl rfl rfl (Nat.le_of_ble_eq_true rfl) ⟨by rw [hR]; decide, by rw [hR]; decide⟩ ⟨by rw [hR]; decide, by rw [hR]; decide⟩ dX9_still_48 ?_
  refine sv_aload_n 0 C dX9_still_51 rfl rfl ?_
  refine sv_bipush (v := 20) C dX9_still_52 (by decide) ?_
  refine sv_bipush (v := 6) C dX9_still_54 (by decide) ?_
  refine sv_iconst (v := 0) C dX9_still_56 (by decide) ?_
  obtain ⟨q57, hc57, hf⟩ := sv_bind_some hf
  refine sv_callV0 C mv_X9_317 (m_X9_go (sv_l X) E h0 ad sz _ _ _ _ _ hc57) sv_sx0 0 rfl rfl rfl rfl (Nat.le_of_ble_eq_true rfl) ⟨by rw [hR]; decide, by rw [hR]; decide⟩ ⟨by rw [hR]; decide, by rw [hR]; decide⟩ dX9_still_57 ?_
  refine sv_aload_n 0 C dX9_still_60 rfl rfl ?_
  refine sv_bipush (v := 21) C dX9_still_61 (by decide) ?_
  refine sv_bipush (v := 6) C dX9_still_63 (by decide) ?_
  refine sv_iconst (v := 0) C dX9_still_65 (by decide) ?_
  obtain ⟨q66, hc66, hf⟩ := sv_bind_some hf
  refine sv_callV0 C mv_X9_317 (m_X9_go (sv_l X) E h0 ad sz _ _ _ _ _ hc66) sv_sx0 0 rfl rfl rfl rfl (Nat.le_of_ble_eq_true rfl) ⟨by rw [hR]; decide, by rw [hR]; decide⟩ ⟨by rw [hR]; decide, by rw [hR]; decide⟩ dX9_still_66 ?_
  refine sv_aload_n 0 C dX9_still_69 rfl rfl ?_
  refine sv_iconst (v := 4) C dX9_still_70 (by decide) ?_
  obtain ⟨q71, hc71, hf⟩ := sv_bind_some hf
  refine sv_callV0 C mv_X9_327 (m_X9_skip (sv_l X) E h0 ad sz _ _ _ hc71) sv_sx0 0 rfl rfl rfl rfl (Nat.le_of_ble_eq_true rfl) ⟨by rw [hR]; decide, by rw [hR]; decide⟩ ⟨by rw [hR]; decide, by rw [hR]; decide⟩ dX9_still_71 ?_
  refine sv_aload_n 0 C dX9_still_74 rfl rfl ?_
  refine sv_bipush (v := 12) C dX9_still_75 (by decide) ?_
  refine sv_iconst (v := 4) C dX9_still_77 (by decide) ?_
  refine sv_iconst (v := 0) C dX9_still_78 (by decide) ?_
  obtain ⟨q79, hc79, hf⟩ := sv_bind_some hf
  refine sv_callV0 C mv_X9_317 (m_X9_go (sv_l X) E h0 ad sz _ _ _ _ _ hc79) sv_sx0 0 rfl rfl rfl rfl (Nat.le_of_ble_eq_true rfl) ⟨by rw [hR]; decide, by rw [hR]; decide⟩ ⟨by rw [hR]; decide, by rw [hR]; decide⟩ dX9_still_79 ?_
  refine sv_aload_n 0 C dX9_still_82 rfl rfl ?_
  refine sv_bipush (v := 13) C dX9_still_83 (by decide) ?_
  refine sv_iconst (v := 5) C dX9_still_85 (by decide) ?_
  refine sv_iconst (v := 0) C dX9_still_86 (by decide) ?_
  obtain ⟨q87, hc87, hf⟩ := sv_bind_some hf
  refine sv_callV0 C mv_X9_317 (m_X9_go (sv_l X) E h0 ad sz _ _ _ _ _ hc87) sv_sx0 0 rfl rfl rfl rfl (Nat.le_of_ble_eq_true rfl) ⟨by rw [hR]; decide, by rw [hR]; decide⟩ ⟨by rw [hR]; decide, by rw [hR]; decide⟩ dX9_still_87 ?_
  refine sv_aload_n 0 C dX9_still_90 rfl rfl ?_
  refine sv_bipush (v := 14) C dX9_still_91 (by decide) ?_
  refine sv_iconst (v := 5) C dX9_still_93 (by decide) ?_
  refine sv_iconst (v := 0) C dX9_still_94 (by decide) ?_
  obtain ⟨q95, hc95, hf⟩ := sv_bind_some hf
  refine sv_callV0 C mv_X9_317 (m_X9_go (sv_l X) E h0 ad sz _ _ _ _ _ hc95) sv_sx0 0 rfl rfl rfl rfl (Nat.le_of_ble_eq_true rfl) ⟨by rw [hR]; decide, by rw [hR]; decide⟩ ⟨by rw [hR]; decide, by rw [hR]; decide⟩ dX9_still_95 ?_
  refine sv_aload_n 0 C dX9_still_98 rfl rfl ?_
  refine sv_bipush (v := 15) C dX9_still_99 (by decide) ?_
  refine sv_bipush (v := 6) C dX9_still_101 (by decide) ?_
  refine sv_iconst (v := 0) C dX9_still_103 (by decide) ?_
  obtain ⟨q104, hc104, hf⟩ := sv_bind_some hf
  refine sv_callV0 C mv_X9_317 (m_X9_go (sv_l X) E h0 ad sz _ _ _ _ _ hc104) sv_sx0 0 rfl rfl rfl rfl (Nat.le_of_ble_eq_true rfl) ⟨by rw [hR]; decide, by rw [hR]; decide⟩ ⟨by rw [hR]; decide, by rw [hR]; decide⟩ dX9_still_104 ?_
  refine sv_aload_n 0 C dX9_still_107 rfl rfl ?_
  refine sv_bipush (v := 22) C dX9_still_108 (by decide) ?_
  refine sv_bipush (v := 8) C dX9_still_110 (by decide) ?_
  refine sv_iconst (v := 0) C dX9_still_112 (by decide) ?_
  obtain ⟨q113, hc113, hf⟩ := sv_bind_some hf
  refine sv_callV0 C mv_X9_317 (m_X9_go (sv_l X) E h0 ad sz _ _ _ _ _ hc113) sv_sx0 0 rfl rfl rfl rfl (Nat.le_of_ble_eq_true rfl) ⟨by rw [hR]; decide, by rw [hR]; decide⟩ ⟨by rw [hR]; decide, by rw [hR]; decide⟩ dX9_still_113 ?_
  refine sv_aload_n 0 C dX9_still_116 rfl rfl ?_
  refine sv_iconst (v := 2) C dX9_still_117 (by decide) ?_
  obtain ⟨q118, hc118, hf⟩ := sv_bind_some hf
  refine sv_callV0 C mv_X9_333 (m_X9_words (sv_l X) E h0 ad sz _ _ _ hc118) sv_sx0 0 rfl rfl rfl rfl (Nat.le_of_ble_eq_true rfl) ⟨by rw [hR]; decide, by rw [hR]; decide⟩ ⟨by rw [hR]; decide, by rw [hR]; decide⟩ dX9_still_118 ?_
  refine sv_aload_n 0 C dX9_still_121 rfl rfl ?_
  refine sv_iconst (v := 2) C dX9_still_122 (by decide) ?_
  obtain ⟨q123, hc123, hf⟩ := sv_bind_some hf
  refine sv_callV0 C mv_X9_327 (m_X9_skip (sv_l X) E h0 ad sz _ _ _ hc123) sv_sx0 0 rfl rfl rfl rfl (Nat.le_of_ble_eq_true rfl) ⟨by rw [hR]; decide, by rw [hR]; decide⟩ ⟨by rw [hR]; decide, by rw [hR]; decide⟩ dX9_still_123 ?_
  exact sv_vret C (by cases hf; exact hZ) dX9_still_126
def f_X9_reports (B : md_B) (x1 : Int32) (x2 : Int32) : Option (md_B) :=
  if 4 ≤ x2 then
    if x2 = 4 then
      (f_X9_go (md_pf (md_pf B 34 x1) 32 38) 11 14 0).bind (fun q67 =>
        (f_X9_go q67 12 4 0).bind (fun q75 =>
          (f_X9_go q75 13 5 0).bind (fun q83 =>
            (f_X9_go q83 14 5 0).bind (fun q91 =>
              (f_X9_go q91 15 6 0).bind (fun q100 =>
                (f_X9_go q100 10 6 0).bind (fun q109 =>
                  (f_X9_where q109).bind (fun q113 =>
                    (f_X9_skip q113 34).bind (fun q119 =>
                      some q119))))))))
    else
      if x2 = 18 then
        (f_X9_skip (md_pf (md_pf B 34 x1) 32 38) 8).bind (fun q134 =>
          (f_X9_go q134 4 10 0).bind (fun q142 =>
            (f_X9_where q142).bind (fun q146 =>
              (f_X9_way q146).bind (fun q150 =>
                (f_X9_skip q150 29).bind (fun q156 =>
                  some q156)))))
      else
        (f_X9_still (md_pf (md_pf B 34 x1) 32 38)).bind (fun q163 =>
          some q163)
  else
    (f_X9_go (md_pf (md_pf B 34 x1) 32 38) 2 4 0).bind (fun q20 =>
      (f_X9_go q20 3 8 1).bind (fun q28 =>
        (f_X9_go q28 4 10 0).bind (fun q36 =>
          (f_X9_where q36).bind (fun q40 =>
            (f_X9_way q40).bind (fun q44 =>
              (f_X9_skip q44 25).bind (fun q50 =>
                some q50))))))
set_option maxHeartbeats 4000000 in
set_option maxRecDepth 100000 in
theorem m_X9_reports (l : Launch) (E : sv_E) (h0 : Nat) (ad : Nat → Nat) (sz : Nat) (B : md_B) (x1 : Int32) (x2 : Int32) (q : md_B) (hf : f_X9_reports B x1 x2 = some q) : sv_Met l E yX9_reports cX9_reports 3 none 4 90 [] [.ref h0, .int x1, .int x2] (md_w E h0 ad B) sz none (md_w E h0 ad q) sz 0 0 := by
  refine sv_ofJ (by decide) (Nat.le_of_ble_eq_true rfl) ?_
  intro X hX hN hnm hR C hZ
  replace C : sv_C E X cX9_reports RX9 [] := C
  show sv_J E X (md_w E h0 ad B) sz 0 0 0 [(0, .ref h0), (1, .int x1), (2, .int x2)] []
  rw [f_X9_reports] at hf
  refine sv_aload_n 0 C dX9_reports_0 rfl rfl ?_
  refine sv_iload_n 1 C dX9_reports_1 rfl rfl ?_
  refine md_puti C fl_X9_300 (by decide) rfl rfl dX9_reports_2 ?_
  refine sv_aload_n 0 C dX9_reports_5 rfl rfl ?_
  refine sv_bipush (v := 38) C dX9_reports_6 (by decide) ?_
  refine md_puti C fl_X9_306 (by decide) rfl rfl dX9_reports_8 ?_
  refine sv_iload_n 2 C dX9_reports_11 rfl rfl ?_
  refine sv_iconst (v := 4) C dX9_reports_12 (by decide) ?_
  refine sv_icmp_ge (tgt := 56) C dX9_reports_13 (by decide) (fun c13 => ?_) (fun c13 => ?_)
  · replace hf := sv_if_t c13 hf
    refine sv_iload_n 2 C dX9_reports_56 rfl rfl ?_
    refine sv_iconst (v := 4) C dX9_reports_57 (by decide) ?_
    refine sv_icmp_ne (tgt := 125) C dX9_reports_58 (by decide) (fun c58 => ?_) (fun c58 => ?_)
    · replace hf := sv_if_f c58 hf
      refine sv_iload_n 2 C dX9_reports_125 rfl rfl ?_
      refine sv_bipush (v := 18) C dX9_reports_126 (by decide) ?_
      refine sv_icmp_ne (tgt := 162) C dX9_reports_128 (by decide) (fun c128 => ?_) (fun c128 => ?_)
      · replace hf := sv_if_f c128 hf
        refine sv_aload_n 0 C dX9_reports_162 rfl rfl ?_
        obtain ⟨q163, hc163, hf⟩ := sv_bind_some hf
        refine sv_callV0 C mv_X9_330 (m_X9_still (sv_l X) E h0 ad sz _ _ hc163) sv_sx0 0 rfl rfl rfl rfl (Nat.le_of_ble_eq_true rfl) ⟨by rw [hR]; decide, by rw [hR]; decide⟩ ⟨by rw [hR]; decide, by rw [hR]; decide⟩ dX9_reports_163 ?_
        exact sv_vret C (by cases hf; exact hZ) dX9_reports_166
      · replace hf := sv_if_t c128 hf
        refine sv_aload_n 0 C dX9_reports_131 rfl rfl ?_
        refine sv_bipush (v := 8) C dX9_reports_132 (by decide) ?_
        obtain ⟨q134, hc134, hf⟩ := sv_bind_some hf
        refine sv_callV0 C mv_X9_327 (m_X9_skip (sv_l X) E h0 ad sz _ _ _ hc134) sv_sx0 0 rfl rfl rfl rfl (Nat.le_of_ble_eq_true rfl) ⟨by rw [hR]; decide, by rw [hR]; decide⟩ ⟨by rw [hR]; decide, by rw [hR]; decide⟩ dX9_reports_134 ?_
        refine sv_aload_n 0 C dX9_reports_137 rfl rfl ?_
        refine sv_iconst (v := 4) C dX9_reports_138 (by decide) ?_
        refine sv_bipush (v := 10) C dX9_reports_139 (by decide) ?_
        refine sv_iconst (v := 0) C dX9_reports_141 (by decide) ?_
        obtain ⟨q142, hc142, hf⟩ := sv_bind_some hf
        refine sv_callV0 C mv_X9_317 (m_X9_go (sv_l X) E h0 ad sz _ _ _ _ _ hc142) sv_sx0 0 rfl rfl rfl rfl (Nat.le_of_ble_eq_true rfl) ⟨by rw [hR]; decide, by rw [hR]; decide⟩ ⟨by rw [hR]; decide, by rw [hR]; decide⟩ dX9_reports_142 ?_
        refine sv_aload_n 0 C dX9_reports_145 rfl rfl ?_
        obtain ⟨q146, hc146, hf⟩ := sv_bind_some hf
        refine sv_callV0 C mv_X9_321 (m_X9_where (sv_l X) E h0 ad sz _ _ hc146) sv_sx0 0 rfl rfl rfl rfl (Nat.le_of_ble_eq_true rfl) ⟨by rw [hR]; decide, by rw [hR]; decide⟩ ⟨by rw [hR]; decide, by rw [hR]; decide⟩ dX9_reports_146 ?_
        refine sv_aload_n 0 C dX9_reports_149 rfl rfl ?_
        obtain ⟨q150, hc150, hf⟩ := sv_bind_some hf
        refine sv_callV0 C mv_X9_324 (m_X9_way (sv_l X) E h0 ad sz _ _ hc150) sv_sx0 0 rfl rfl rfl rfl (Nat.le_of_ble_eq_true rfl) ⟨by rw [hR]; decide, by rw [hR]; decide⟩ ⟨by rw [hR]; decide, by rw [hR]; decide⟩ dX9_reports_150 ?_
        refine sv_aload_n 0 C dX9_reports_153 rfl rfl ?_
        refine sv_bipush (v := 29) C dX9_reports_154 (by decide) ?_
        obtain ⟨q156, hc156, hf⟩ := sv_bind_some hf
        refine sv_callV0 C mv_X9_327 (m_X9_skip (sv_l X) E h0 ad sz _ _ _ hc156) sv_sx0 0 rfl rfl rfl rfl (Nat.le_of_ble_eq_true rfl) ⟨by rw [hR]; decide, by rw [hR]; decide⟩ ⟨by rw [hR]; decide, by rw [hR]; decide⟩ dX9_reports_156 ?_
        refine sv_goto (tgt := 166) C dX9_reports_159 (by decide) ?_
        exact sv_vret C (by cases hf; exact hZ) dX9_reports_166
    · replace hf := sv_if_t c58 hf
      refine sv_aload_n 0 C dX9_reports_61 rfl rfl ?_
      refine sv_bipush (v := 11) C dX9_reports_62 (by decide) ?_
      refine sv_bipush (v := 14) C dX9_reports_64 (by decide) ?_
      refine sv_iconst (v := 0) C dX9_reports_66 (by decide) ?_
      obtain ⟨q67, hc67, hf⟩ := sv_bind_some hf
      refine sv_callV0 C mv_X9_317 (m_X9_go (sv_l X) E h0 ad sz _ _ _ _ _ hc67) sv_sx0 0 rfl rfl rfl rfl (Nat.le_of_ble_eq_true rfl) ⟨by rw [hR]; decide, by rw [hR]; decide⟩ ⟨by rw [hR]; decide, by rw [hR]; decide⟩ dX9_reports_67 ?_
      refine sv_aload_n 0 C dX9_reports_70 rfl rfl ?_
      refine sv_bipush (v := 12) C dX9_reports_71 (by decide) ?_
      refine sv_iconst (v := 4) C dX9_reports_73 (by decide) ?_
      refine sv_iconst (v := 0) C dX9_reports_74 (by decide) ?_
      obtain ⟨q75, hc75, hf⟩ := sv_bind_some hf
      refine sv_callV0 C mv_X9_317 (m_X9_go (sv_l X) E h0 ad sz _ _ _ _ _ hc75) sv_sx0 0 rfl rfl rfl rfl (Nat.le_of_ble_eq_true rfl) ⟨by rw [hR]; decide, by rw [hR]; decide⟩ ⟨by rw [hR]; decide, by rw [hR]; decide⟩ dX9_reports_75 ?_
      refine sv_aload_n 0 C dX9_reports_78 rfl rfl ?_
      refine sv_bipush (v := 13) C dX9_reports_79 (by decide) ?_
      refine sv_iconst (v := 5) C dX9_reports_81 (by decide) ?_
      refine sv_iconst (v := 0) C dX9_reports_82 (by decide) ?_
      obtain ⟨q83, hc83, hf⟩ := sv_bind_some hf
      refine sv_callV0 C mv_X9_317 (m_X9_go (sv_l X) E h0 ad sz _ _ _ _ _ hc83) sv_sx0 0 rfl rfl rfl rfl (Nat.le_of_ble_eq_true rfl) ⟨by rw [hR]; decide, by rw [hR]; decide⟩ ⟨by rw [hR]; decide, by rw [hR]; decide⟩ dX9_reports_83 ?_
      refine sv_aload_n 0 C dX9_reports_86 rfl rfl ?_
      refine sv_bipush (v := 14) C dX9_reports_87 (by decide) ?_
      refine sv_iconst (v := 5) C dX9_reports_89 (by decide) ?_
      refine sv_iconst (v := 0) C dX9_reports_90 (by decide) ?_
      obtain ⟨q91, hc91, hf⟩ := sv_bind_some hf
      refine sv_callV0 C mv_X9_317 (m_X9_go (sv_l X) E h0 ad sz _ _ _ _ _ hc91) sv_sx0 0 rfl rfl rfl rfl (Nat.le_of_ble_eq_true rfl) ⟨by rw [hR]; decide, by rw [hR]; decide⟩ ⟨by rw [hR]; decide, by rw [hR]; decide⟩ dX9_reports_91 ?_
      refine sv_aload_n 0 C dX9_reports_94 rfl rfl ?_
      refine sv_bipush (v := 15) C dX9_reports_95 (by decide) ?_
      refine sv_bipush (v := 6) C dX9_reports_97 (by decide) ?_
      refine sv_iconst (v := 0) C dX9_reports_99 (by decide) ?_
      obtain ⟨q100, hc100, hf⟩ := sv_bind_some hf
      refine sv_callV0 C mv_X9_317 (m_X9_go (sv_l X) E h0 ad sz _ _ _ _ _ hc100) sv_sx0 0 rfl rfl rfl rfl (Nat.le_of_ble_eq_true rfl) ⟨by rw [hR]; decide, by rw [hR]; decide⟩ ⟨by rw [hR]; decide, by rw [hR]; decide⟩ dX9_reports_100 ?_
      refine sv_aload_n 0 C dX9_reports_103 rfl rfl ?_
      refine sv_bipush (v := 10) C dX9_reports_104 (by decide) ?_
      refine sv_bipush (v := 6) C dX9_reports_106 (by decide) ?_
      refine sv_iconst (v := 0) C dX9_reports_108 (by decide) ?_
      obtain ⟨q109, hc109, hf⟩ := sv_bind_some hf
      refine sv_callV0 C mv_X9_317 (m_X9_go (sv_l X) E h0 ad sz _ _ _ _ _ hc109) sv_sx0 0 rfl rfl rfl rfl (Nat.le_of_ble_eq_true rfl) ⟨by rw [hR]; decide, by rw [hR]; decide⟩ ⟨by rw [hR]; decide, by rw [hR]; decide⟩ dX9_reports_109 ?_
      refine sv_aload_n 0 C dX9_reports_112 rfl rfl ?_
      obtain ⟨q113, hc113, hf⟩ := sv_bind_some hf
      refine sv_callV0 C mv_X9_321 (m_X9_where (sv_l X) E h0 ad sz _ _ hc113) sv_sx0 0 rfl rfl rfl rfl (Nat.le_of_ble_eq_true rfl) ⟨by rw [hR]; decide, by rw [hR]; decide⟩ ⟨by rw [hR]; decide, by rw [hR]; decide⟩ dX9_reports_113 ?_
      refine sv_aload_n 0 C dX9_reports_116 rfl rfl ?_
      refine sv_bipush (v := 34) C dX9_reports_117 (by decide) ?_
      obtain ⟨q119, hc119, hf⟩ := sv_bind_some hf
      refine sv_callV0 C mv_X9_327 (m_X9_skip (sv_l X) E h0 ad sz _ _ _ hc119) sv_sx0 0 rfl rfl rfl rfl (Nat.le_of_ble_eq_true rfl) ⟨by rw [hR]; decide, by rw [hR]; decide⟩ ⟨by rw [hR]; decide, by rw [hR]; decide⟩ dX9_reports_119 ?_
      refine sv_goto (tgt := 166) C dX9_reports_122 (by decide) ?_
      exact sv_vret C (by cases hf; exact hZ) dX9_reports_166
  · replace hf := sv_if_f c13 hf
    refine sv_aload_n 0 C dX9_reports_16 rfl rfl ?_
    refine sv_iconst (v := 2) C dX9_reports_17 (by decide) ?_
    refine sv_iconst (v := 4) C dX9_reports_18 (by decide) ?_
    refine sv_iconst (v := 0) C dX9_reports_19 (by decide) ?_
    obtain ⟨q20, hc20, hf⟩ := sv_bind_some hf
    refine sv_callV0 C mv_X9_317 (m_X9_go (sv_l X) E h0 ad sz _ _ _ _ _ hc20) sv_sx0 0 rfl rfl rfl rfl (Nat.le_of_ble_eq_true rfl) ⟨by rw [hR]; decide, by rw [hR]; decide⟩ ⟨by rw [hR]; decide, by rw [hR]; decide⟩ dX9_reports_20 ?_
    refine sv_aload_n 0 C dX9_reports_23 rfl rfl ?_
    refine sv_iconst (v := 3) C dX9_reports_24 (by decide) ?_
    refine sv_bipush (v := 8) C dX9_reports_25 (by decide) ?_
    refine sv_iconst (v := 1) C dX9_reports_27 (by decide) ?_
    obtain ⟨q28, hc28, hf⟩ := sv_bind_some hf
    refine sv_callV0 C mv_X9_317 (m_X9_go (sv_l X) E h0 ad sz _ _ _ _ _ hc28) sv_sx0 0 rfl rfl rfl rfl (Nat.le_of_ble_eq_true rfl) ⟨by rw [hR]; decide, by rw [hR]; decide⟩ ⟨by rw [hR]; decide, by rw [hR]; decide⟩ dX9_reports_28 ?_
    refine sv_aload_n 0 C dX9_reports_31 rfl rfl ?_
    refine sv_iconst (v := 4) C dX9_reports_32 (by decide) ?_
    refine sv_bipush (v := 10) C dX9_reports_33 (by decide) ?_
    refine sv_iconst (v := 0) C dX9_reports_35 (by decide) ?_
    obtain ⟨q36, hc36, hf⟩ := sv_bind_some hf
    refine sv_callV0 C mv_X9_317 (m_X9_go (sv_l X) E h0 ad sz _ _ _ _ _ hc36) sv_sx0 0 rfl rfl rfl rfl (Nat.le_of_ble_eq_true rfl) ⟨by rw [hR]; decide, by rw [hR]; decide⟩ ⟨by rw [hR]; decide, by rw [hR]; decide⟩ dX9_reports_36 ?_
    refine sv_aload_n 0 C dX9_reports_39 rfl rfl ?_
    obtain ⟨q40, hc40, hf⟩ := sv_bind_some hf
    refine sv_callV0 C mv_X9_321 (m_X9_where (sv_l X) E h0 ad sz _ _ hc40) sv_sx0 0 rfl rfl rfl rfl (Nat.le_of_ble_eq_true rfl) ⟨by rw [hR]; decide, by rw [hR]; decide⟩ ⟨by rw [hR]; decide, by rw [hR]; decide⟩ dX9_reports_40 ?_
    refine sv_aload_n 0 C dX9_reports_43 rfl rfl ?_
    obtain ⟨q44, hc44, hf⟩ := sv_bind_some hf
    refine sv_callV0 C mv_X9_324 (m_X9_way (sv_l X) E h0 ad sz _ _ hc44) sv_sx0 0 rfl rfl rfl rfl (Nat.le_of_ble_eq_true rfl) ⟨by rw [hR]; decide, by rw [hR]; decide⟩ ⟨by rw [hR]; decide, by rw [hR]; decide⟩ dX9_reports_44 ?_
    refine sv_aload_n 0 C dX9_reports_47 rfl rfl ?_
    refine sv_bipush (v := 25) C dX9_reports_48 (by decide) ?_
    obtain ⟨q50, hc50, hf⟩ := sv_bind_some hf
    refine sv_callV0 C mv_X9_327 (m_X9_skip (sv_l X) E h0 ad sz _ _ _ hc50) sv_sx0 0 rfl rfl rfl rfl (Nat.le_of_ble_eq_true rfl) ⟨by rw [hR]; decide, by rw [hR]; decide⟩ ⟨by rw [hR]; decide, by rw [hR]; decide⟩ dX9_reports_50 ?_
    refine sv_goto (tgt := 166) C dX9_reports_53 (by decide) ?_
    exact sv_vret C (by cases hf; exact hZ) dX9_reports_166
def f_X9_message_243 (B : md_B) (x1 : Int32) (x4 : Int32) : Option (md_B) :=
  sv_g (sv_inb ((24 * x4) + 1) 960) (
    sv_g (sv_inb ((24 * x4) + 23) 960) (
      sv_g (sv_inb ((24 * x4) + 23) 960) (
        (f_X9_reports (md_pa (md_pa B 29 ((24 * x4) + 1) x1) 29 ((24 * x4) + 23) (((md_pa B 29 ((24 * x4) + 1) x1).2 29 ((24 * x4) + 23).toNatClampNeg) + 1)) x4 x1).bind (fun q277 =>
          some q277))))
def f_X9_message_193 : Nat → md_B → Int32 → Int32 → Int32 → Int32 → Option (md_B)
  | 0, _, _, _, _, _ => none
  | n + 1, B, x1, x3, x4, x5 =>
    if 3 ≤ x5 then
      sv_g (sv_inb (24 * x4) 960) (
        sv_g (sv_inb ((24 * x4) + 23) 960) (
          f_X9_message_243 (md_pa (md_pa B 29 (24 * x4) x3) 29 ((24 * x4) + 23) 0) x1 x4))
    else
      sv_g (sv_inb ((3 * x4) + x5) 120) (
        (f_X9_message_193 n) (md_pa B 31 ((3 * x4) + x5) 0) x1 x3 x4 (x5 + 1))
def f_X9_message_162 : Nat → md_B → Int32 → Int32 → Int32 → Int32 → Option (md_B)
  | 0, _, _, _, _, _ => none
  | n + 1, B, x1, x3, x4, x5 =>
    if 24 ≤ x5 then
      f_X9_message_193 sv_fu B x1 x3 x4 0
    else
      sv_g (sv_inb ((24 * x4) + x5) 960) (
        (f_X9_message_162 n) (md_pa B 29 ((24 * x4) + x5) (-2147483648)) x1 x3 x4 (x5 + 1))
def f_X9_message_138 (B : md_B) (x1 : Int32) (x3 : Int32) (x4 : Int32) : Option (md_B) :=
  if 0 ≤ x4 then
    f_X9_message_243 B x1 x4
  else
    f_X9_message_162 sv_fu (md_pf B 28 ((B.1 28) + 1)) x1 x3 (B.1 28) 0
def f_X9_message_69 (B : md_B) (x1 : Int32) (s0 : Int32) : Option (md_B) :=
  if s0 = 0 then
    some (md_pa B 10 6 ((B.2 10 (6 : Int32).toNatClampNeg) + 1))
  else
    (f_X9_read (md_pa B 10 5 ((B.2 10 (5 : Int32).toNatClampNeg) + 1)) 8 30).bind (fun q101 =>
      (f_X9_found q101.2 q101.1).bind (fun q107 =>
        if 0 ≤ q107.1 then
          f_X9_message_138 q107.2 x1 q101.1 q107.1
        else
          if (q107.2.1 28) = 40 then
            some (md_pa q107.2 10 8 ((q107.2.2 10 (8 : Int32).toNatClampNeg) + 1))
          else
            f_X9_message_138 q107.2 x1 q101.1 q107.1))
def f_X9_message_64 (B : md_B) (x1 : Int32) : Option (md_B) :=
  f_X9_message_69 B x1 1
def f_X9_message_68 (B : md_B) (x1 : Int32) : Option (md_B) :=
  f_X9_message_69 B x1 0
def f_X9_message_49 (B : md_B) (x1 : Int32) : Option (md_B) :=
  if x1 = 5 then
    if (B.1 26) = 424 then
      f_X9_message_64 B x1
    else
      f_X9_message_68 B x1
  else
    f_X9_message_68 B x1
def f_X9_message_39 (B : md_B) (x1 : Int32) : Option (md_B) :=
  if (B.1 26) = 168 then
    f_X9_message_64 B x1
  else
    f_X9_message_49 B x1
def f_X9_message_20 (B : md_B) (s0 : Int32) : Option (md_B) :=
  (f_X9_in B s0.toInt64 1 4).bind (fun q27 =>
    if q27.1 = 0 then
      if s0 = 18 then
        f_X9_message_39 q27.2 s0
      else
        f_X9_message_49 q27.2 s0
    else
      f_X9_message_39 q27.2 s0)
def f_X9_message (B : md_B) : Option (md_B) :=
  if 38 ≤ (B.1 26) then
    (f_X9_read B 0 6).bind (fun q17 =>
      f_X9_message_20 q17.2 q17.1)
  else
    f_X9_message_20 B 0
set_option maxHeartbeats 4000000 in
set_option maxRecDepth 100000 in
theorem w_X9_message_243 {E : sv_E} {X : sv_X} {h0 : Nat} {ad : Nat → Nat} {sz : Nat} {q : md_B} (C : sv_C E X cX9_message RX9 []) (hZ : sv_Z E X none none (md_w E h0 ad q) sz 0 0) (hR : sv_R X = { frames := 5, cells := 0, slots := 0, locals := 112 }) (hN : sv_nL X = 6) (B : md_B) (x1 : Int32) (x4 : Int32) (hf : f_X9_message_243 B x1 x4 = some q) : sv_J E X (md_w E h0 ad B) sz 0 0 243 [(0, .ref h0), (1, .int x1), (4, .int x4)] [] := by
  rw [f_X9_message_243] at hf
  refine sv_aload_n 0 C dX9_message_243 rfl rfl ?_
  refine md_getr C fl_X9_55 (by decide) dX9_message_244 ?_
  refine sv_bipush (v := 24) C dX9_message_247 (by decide) ?_
  refine sv_iload 2 C dX9_message_249 rfl ?_
  refine sv_imul C dX9_message_251 ?_
  refine sv_iconst (v := 1) C dX9_message_252 (by decide) ?_
  refine sv_iadd C dX9_message_253 ?_
  refine sv_iload_n 1 C dX9_message_254 rfl rfl ?_
  obtain ⟨g255, hf⟩ := sv_g_some hf
  refine md_iast C 13 rfl g255 dX9_message_255 ?_
  refine sv_aload_n 0 C dX9_message_256 rfl rfl ?_
  refine md_getr C fl_X9_55 (by decide) dX9_message_257 ?_
  refine sv_bipush (v := 24) C dX9_message_260 (by decide) ?_
  refine sv_iload 2 C dX9_message_262 rfl ?_
  refine sv_imul C dX9_message_264 ?_
  refine sv_bipush (v := 23) C dX9_message_265 (by decide) ?_
  refine sv_iadd C dX9_message_267 ?_
  refine sv_dup2 C dX9_message_268 rfl rfl ?_
  obtain ⟨g269, hf⟩ := sv_g_some hf
  refine md_iald C 13 rfl g269 dX9_message_269 ?_
  refine sv_iconst (v := 1) C dX9_message_270 (by decide) ?_
  refine sv_iadd C dX9_message_271 ?_
  obtain ⟨g272, hf⟩ := sv_g_some hf
  refine md_iast C 13 rfl g272 dX9_message_272 ?_
  refine sv_aload_n 0 C dX9_message_273 rfl rfl ?_
  refine sv_iload 2 C dX9_message_274 rfl ?_
  refine sv_iload_n 1 C dX9_message_276 rfl rfl ?_
  obtain ⟨q277, hc277, hf⟩ := sv_bind_some hf
  refine sv_callV0 C mv_X9_297 (m_X9_reports (sv_l X) E h0 ad sz _ _ _ _ hc277) sv_sx0 0 rfl rfl rfl rfl (Nat.le_of_ble_eq_true rfl) ⟨by rw [hR]; decide, by rw [hR]; decide⟩ ⟨by rw [hR]; decide, by rw [hR]; decide⟩ dX9_message_277 ?_
  exact sv_vret C (by cases hf; exact hZ) dX9_message_280
set_option maxHeartbeats 4000000 in
set_option maxRecDepth 100000 in
theorem w_X9_message_193 {E : sv_E} {X : sv_X} {h0 : Nat} {ad : Nat → Nat} {sz : Nat} {q : md_B} (C : sv_C E X cX9_message RX9 []) (hZ : sv_Z E X none none (md_w E h0 ad q) sz 0 0) (hR : sv_R X = { frames := 5, cells := 0, slots := 0, locals := 112 }) (hN : sv_nL X = 6) : ∀ (n : Nat) (B : md_B) (x1 : Int32) (x3 : Int32) (x4 : Int32) (x5 : Int32), f_X9_message_193 n B x1 x3 x4 x5 = some q → sv_J E X (md_w E h0 ad B) sz 0 0 193 [(0, .ref h0), (1, .int x1), (3, .int x3), (4, .int x4), (5, .int x5)] [] := by
  intro n
  induction n with
  | zero =>
    intro B x1 x3 x4 x5 hf
    rw [f_X9_message_193] at hf
    cases hf
  | succ n ih =>
    intro B x1 x3 x4 x5 hf
    rw [f_X9_message_193] at hf
    refine sv_iload 4 C dX9_message_193 rfl ?_
    refine sv_iconst (v := 3) C dX9_message_195 (by decide) ?_
    refine sv_icmp_ge (tgt := 218) C dX9_message_196 (by decide) (fun c196 => ?_) (fun c196 => ?_)
    · replace hf := sv_if_t c196 hf
      refine sv_aload_n 0 C dX9_message_218 rfl rfl ?_
      refine md_getr C fl_X9_55 (by decide) dX9_message_219 ?_
      refine sv_bipush (v := 24) C dX9_message_222 (by decide) ?_
      refine sv_iload 3 C dX9_message_224 rfl ?_
      refine sv_imul C dX9_message_226 ?_
      refine sv_iload_n 2 C dX9_message_227 rfl rfl ?_
      obtain ⟨g228, hf⟩ := sv_g_some hf
      refine md_iast C 13 rfl g228 dX9_message_228 ?_
      refine sv_aload_n 0 C dX9_message_229 rfl rfl ?_
      refine md_getr C fl_X9_55 (by decide) dX9_message_230 ?_
      refine sv_bipush (v := 24) C dX9_message_233 (by decide) ?_
      refine sv_iload 3 C dX9_message_235 rfl ?_
      refine sv_imul C dX9_message_237 ?_
      refine sv_bipush (v := 23) C dX9_message_238 (by decide) ?_
      refine sv_iadd C dX9_message_240 ?_
      refine sv_iconst (v := 0) C dX9_message_241 (by decide) ?_
      obtain ⟨g242, hf⟩ := sv_g_some hf
      refine md_iast C 13 rfl g242 dX9_message_242 ?_
      refine sv_sub (lv' := [(0, .ref h0), (1, .int x1), (4, .int x4)]) [0, 1, 3] rfl ?_
      exact w_X9_message_243 C hZ hR hN _ _ _ hf
    · replace hf := sv_if_f c196 hf
      refine sv_aload_n 0 C dX9_message_199 rfl rfl ?_
      refine md_getr C fl_X9_61 (by decide) dX9_message_200 ?_
      refine sv_iconst (v := 3) C dX9_message_203 (by decide) ?_
      refine sv_iload 3 C dX9_message_204 rfl ?_
      refine sv_imul C dX9_message_206 ?_
      refine sv_iload 4 C dX9_message_207 rfl ?_
      refine sv_iadd C dX9_message_209 ?_
      refine sv_iconst (v := 0) C dX9_message_210 (by decide) ?_
      obtain ⟨g211, hf⟩ := sv_g_some hf
      refine md_iast C 15 rfl g211 dX9_message_211 ?_
      refine sv_iinc (v := x5 + 1) (lv' := [(5, .int (x5 + 1)), (0, .ref h0), (1, .int x1), (3, .int x3), (4, .int x4)]) 4 C dX9_message_212 rfl rfl (by rw [hN]; decide) rfl ?_
      refine sv_goto (tgt := 193) C dX9_message_215 (by decide) ?_
      refine sv_sub (lv' := [(0, .ref h0), (1, .int x1), (3, .int x3), (4, .int x4), (5, .int (x5 + 1))]) [1, 2, 3, 4, 0] rfl ?_
      exact ih _ _ _ _ _ hf
set_option maxHeartbeats 4000000 in
set_option maxRecDepth 100000 in
theorem w_X9_message_162 {E : sv_E} {X : sv_X} {h0 : Nat} {ad : Nat → Nat} {sz : Nat} {q : md_B} (C : sv_C E X cX9_message RX9 []) (hZ : sv_Z E X none none (md_w E h0 ad q) sz 0 0) (hR : sv_R X = { frames := 5, cells := 0, slots := 0, locals := 112 }) (hN : sv_nL X = 6) : ∀ (n : Nat) (B : md_B) (x1 : Int32) (x3 : Int32) (x4 : Int32) (x5 : Int32), f_X9_message_162 n B x1 x3 x4 x5 = some q → sv_J E X (md_w E h0 ad B) sz 0 0 162 [(0, .ref h0), (1, .int x1), (3, .int x3), (4, .int x4), (5, .int x5)] [] := by
  intro n
  induction n with
  | zero =>
    intro B x1 x3 x4 x5 hf
    rw [f_X9_message_162] at hf
    cases hf
  | succ n ih =>
    intro B x1 x3 x4 x5 hf
    rw [f_X9_message_162] at hf
    refine sv_iload 4 C dX9_message_162 rfl ?_
    refine sv_bipush (v := 24) C dX9_message_164 (by decide) ?_
    refine sv_icmp_ge (tgt := 190) C dX9_message_166 (by decide) (fun c166 => ?_) (fun c166 => ?_)
    · replace hf := sv_if_t c166 hf
      refine sv_iconst (v := 0) C dX9_message_190 (by decide) ?_
      refine sv_istore (lv' := [(5, .int 0), (0, .ref h0), (1, .int x1), (3, .int x3), (4, .int x4)]) C dX9_message_191 (by rw [hN]; decide) rfl ?_
      refine sv_sub (lv' := [(0, .ref h0), (1, .int x1), (3, .int x3), (4, .int x4), (5, .int 0)]) [1, 2, 3, 4, 0] rfl ?_
      exact w_X9_message_193 C hZ hR hN sv_fu _ _ _ _ _ hf
    · replace hf := sv_if_f c166 hf
      refine sv_aload_n 0 C dX9_message_169 rfl rfl ?_
      refine md_getr C fl_X9_55 (by decide) dX9_message_170 ?_
      refine sv_bipush (v := 24) C dX9_message_173 (by decide) ?_
      refine sv_iload 3 C dX9_message_175 rfl ?_
      refine sv_imul C dX9_message_177 ?_
      refine sv_iload 4 C dX9_message_178 rfl ?_
      refine sv_iadd C dX9_message_180 ?_
      refine sv_ldc C kw_562 dX9_message_181 ?_
      obtain ⟨g183, hf⟩ := sv_g_some hf
      refine md_iast C 13 rfl g183 dX9_message_183 ?_
      refine sv_iinc (v := x5 + 1) (lv' := [(5, .int (x5 + 1)), (0, .ref h0), (1, .int x1), (3, .int x3), (4, .int x4)]) 4 C dX9_message_184 rfl rfl (by rw [hN]; decide) rfl ?_
      refine sv_goto (tgt := 162) C dX9_message_187 (by decide) ?_
      refine sv_sub (lv' := [(0, .ref h0), (1, .int x1), (3, .int x3), (4, .int x4), (5, .int (x5 + 1))]) [1, 2, 3, 4, 0] rfl ?_
      exact ih _ _ _ _ _ hf
set_option maxHeartbeats 4000000 in
set_option maxRecDepth 100000 in
theorem w_X9_message_138 {E : sv_E} {X : sv_X} {h0 : Nat} {ad : Nat → Nat} {sz : Nat} {q : md_B} (C : sv_C E X cX9_message RX9 []) (hZ : sv_Z E X none none (md_w E h0 ad q) sz 0 0) (hR : sv_R X = { frames := 5, cells := 0, slots := 0, locals := 112 }) (hN : sv_nL X = 6) (B : md_B) (x1 : Int32) (x3 : Int32) (x4 : Int32) (hf : f_X9_message_138 B x1 x3 x4 = some q) : sv_J E X (md_w E h0 ad B) sz 0 0 138 [(0, .ref h0), (1, .int x1), (3, .int x3), (4, .int x4)] [] := by
  rw [f_X9_message_138] at hf
  refine sv_iload 3 C dX9_message_138 rfl ?_
  refine sv_if_ge (tgt := 243) C dX9_message_140 (by decide) (fun c140 => ?_) (fun c140 => ?_)
  · replace hf := sv_if_t c140 hf
    refine sv_sub (lv' := [(0, .ref h0), (1, .int x1), (4, .int x4)]) [0, 1, 3] rfl ?_
    exact w_X9_message_243 C hZ hR hN _ _ _ hf
  · replace hf := sv_if_f c140 hf
    refine sv_aload_n 0 C dX9_message_143 rfl rfl ?_
    refine md_geti C fl_X9_289 (by decide) dX9_message_144 ?_
    refine sv_istore (lv' := [(4, .int (B.1 28)), (0, .ref h0), (1, .int x1), (3, .int x3)]) C dX9_message_147 (by rw [hN]; decide) rfl ?_
    refine sv_aload_n 1 C dX9_message_149 rfl rfl ?_
    refine sv_dup C dX9_message_150 rfl ?_
    refine md_geti C fl_X9_289 (by decide) dX9_message_151 ?_
    refine sv_iconst (v := 1) C dX9_message_154 (by decide) ?_
    refine sv_iadd C dX9_message_155 ?_
    refine md_puti C fl_X9_289 (by decide) rfl rfl dX9_message_156 ?_
    refine sv_iconst (v := 0) C dX9_message_159 (by decide) ?_
    refine sv_istore (lv' := [(5, .int 0), (4, .int (B.1 28)), (0, .ref h0), (1, .int x1), (3, .int x3)]) C dX9_message_160 (by rw [hN]; decide) rfl ?_
    refine sv_sub (lv' := [(0, .ref h0), (1, .int x1), (3, .int x3), (4, .int (B.1 28)), (5, .int 0)]) [2, 3, 4, 1, 0] rfl ?_
    exact w_X9_message_162 C hZ hR hN sv_fu _ _ _ _ _ hf
set_option maxHeartbeats 4000000 in
set_option maxRecDepth 100000 in
theorem w_X9_message_69 {E : sv_E} {X : sv_X} {h0 : Nat} {ad : Nat → Nat} {sz : Nat} {q : md_B} (C : sv_C E X cX9_message RX9 []) (hZ : sv_Z E X none none (md_w E h0 ad q) sz 0 0) (hR : sv_R X = { frames := 5, cells := 0, slots := 0, locals := 112 }) (hN : sv_nL X = 6) (B : md_B) (x1 : Int32) (s0 : Int32) (hf : f_X9_message_69 B x1 s0 = some q) : sv_J E X (md_w E h0 ad B) sz 0 0 69 [(0, .ref h0), (1, .int x1)] [.int s0] := by
  rw [f_X9_message_69] at hf
  refine sv_istore_n (lv' := [(2, .int s0), (0, .ref h0), (1, .int x1)]) C dX9_message_69 rfl (by rw [hN]; decide) rfl ?_
  refine sv_iload_n 0 C dX9_message_70 rfl rfl ?_
  refine sv_if_ne (tgt := 86) C dX9_message_71 (by decide) (fun c71 => ?_) (fun c71 => ?_)
  · replace hf := sv_if_f c71 hf
    refine sv_aload_n 1 C dX9_message_86 rfl rfl ?_
    refine md_getr C fl_X9_23 (by decide) dX9_message_87 ?_
    refine sv_iconst (v := 5) C dX9_message_90 (by decide) ?_
    refine sv_dup2 C dX9_message_91 rfl rfl ?_
    refine md_iald C 3 rfl (by decide) dX9_message_92 ?_
    refine sv_iconst (v := 1) C dX9_message_93 (by decide) ?_
    refine sv_iadd C dX9_message_94 ?_
    refine md_iast C 3 rfl (by decide) dX9_message_95 ?_
    refine sv_aload_n 1 C dX9_message_96 rfl rfl ?_
    refine sv_bipush (v := 8) C dX9_message_97 (by decide) ?_
    refine sv_bipush (v := 30) C dX9_message_99 (by decide) ?_
    obtain ⟨q101, hc101, hf⟩ := sv_bind_some hf
    refine sv_callV0 C mv_X9_286 (m_X9_read (sv_l X) E h0 ad sz _ _ _ _ hc101) sv_sx0 0 rfl rfl rfl rfl (Nat.le_of_ble_eq_true rfl) ⟨by rw [hR]; decide, by rw [hR]; decide⟩ ⟨by rw [hR]; decide, by rw [hR]; decide⟩ dX9_message_101 ?_
    refine sv_istore_n (lv' := [(3, .int q101.1), (2, .int s0), (0, .ref h0), (1, .int x1)]) C dX9_message_104 rfl (by rw [hN]; decide) rfl ?_
    refine sv_aload_n 2 C dX9_message_105 rfl rfl ?_
    refine sv_iload_n 0 C dX9_message_106 rfl rfl ?_
    obtain ⟨q107, hc107, hf⟩ := sv_bind_some hf
    refine sv_callV0 C mv_X9_294 (m_X9_found (sv_l X) E h0 ad sz _ _ _ hc107) sv_sx0 0 rfl rfl rfl rfl (Nat.le_of_ble_eq_true rfl) ⟨by rw [hR]; decide, by rw [hR]; decide⟩ ⟨by rw [hR]; decide, by rw [hR]; decide⟩ dX9_message_107 ?_
    refine sv_istore (lv' := [(4, .int q107.1), (3, .int q101.1), (2, .int s0), (0, .ref h0), (1, .int x1)]) C dX9_message_110 (by rw [hN]; decide) rfl ?_
    refine sv_iload 0 C dX9_message_112 rfl ?_
    refine sv_if_ge (tgt := 138) C dX9_message_114 (by decide) (fun c114 => ?_) (fun c114 => ?_)
    · replace hf := sv_if_t c114 hf
      refine sv_sub (lv' := [(0, .ref h0), (1, .int x1), (3, .int q101.1), (4, .int q107.1)]) [3, 4, 1, 0] rfl ?_
      exact w_X9_message_138 C hZ hR hN _ _ _ _ hf
    · replace hf := sv_if_f c114 hf
      refine sv_aload_n 3 C dX9_message_117 rfl rfl ?_
      refine md_geti C fl_X9_289 (by decide) dX9_message_118 ?_
      refine sv_bipush (v := 40) C dX9_message_121 (by decide) ?_
      refine sv_icmp_ne (tgt := 138) C dX9_message_123 (by decide) (fun c123 => ?_) (fun c123 => ?_)
      · replace hf := sv_if_f c123 hf
        refine sv_sub (lv' := [(0, .ref h0), (1, .int x1), (3, .int q101.1), (4, .int q107.1)]) [3, 4, 1, 0] rfl ?_
        exact w_X9_message_138 C hZ hR hN _ _ _ _ hf
      · replace hf := sv_if_t c123 hf
        refine sv_aload_n 3 C dX9_message_126 rfl rfl ?_
        refine md_getr C fl_X9_23 (by decide) dX9_message_127 ?_
        refine sv_bipush (v := 8) C dX9_message_130 (by decide) ?_
        refine sv_dup2 C dX9_message_132 rfl rfl ?_
        refine md_iald C 3 rfl (by decide) dX9_message_133 ?_
        refine sv_iconst (v := 1) C dX9_message_134 (by decide) ?_
        refine sv_iadd C dX9_message_135 ?_
        refine md_iast C 3 rfl (by decide) dX9_message_136 ?_
        exact sv_vret C (by cases hf; exact hZ) dX9_message_137
  · replace hf := sv_if_t c71 hf
    refine sv_aload_n 1 C dX9_message_74 rfl rfl ?_
    refine md_getr C fl_X9_23 (by decide) dX9_message_75 ?_
    refine sv_bipush (v := 6) C dX9_message_78 (by decide) ?_
    refine sv_dup2 C dX9_message_80 rfl rfl ?_
    refine md_iald C 3 rfl (by decide) dX9_message_81 ?_
    refine sv_iconst (v := 1) C dX9_message_82 (by decide) ?_
    refine sv_iadd C dX9_message_83 ?_
    refine md_iast C 3 rfl (by decide) dX9_message_84 ?_
    exact sv_vret C (by cases hf; exact hZ) dX9_message_85
set_option maxHeartbeats 4000000 in
set_option maxRecDepth 100000 in
theorem w_X9_message_64 {E : sv_E} {X : sv_X} {h0 : Nat} {ad : Nat → Nat} {sz : Nat} {q : md_B} (C : sv_C E X cX9_message RX9 []) (hZ : sv_Z E X none none (md_w E h0 ad q) sz 0 0) (hR : sv_R X = { frames := 5, cells := 0, slots := 0, locals := 112 }) (hN : sv_nL X = 6) (B : md_B) (x1 : Int32) (hf : f_X9_message_64 B x1 = some q) : sv_J E X (md_w E h0 ad B) sz 0 0 64 [(0, .ref h0), (1, .int x1)] [] := by
  rw [f_X9_message_64] at hf
  refine sv_iconst (v := 1) C dX9_message_64 (by decide) ?_
  refine sv_goto (tgt := 69) C dX9_message_65 (by decide) ?_
  refine sv_sub (lv' := [(0, .ref h0), (1, .int x1)]) [0, 1] rfl ?_
  exact w_X9_message_69 C hZ hR hN _ _ _ hf
set_option maxHeartbeats 4000000 in
set_option maxRecDepth 100000 in
theorem w_X9_message_68 {E : sv_E} {X : sv_X} {h0 : Nat} {ad : Nat → Nat} {sz : Nat} {q : md_B} (C : sv_C E X cX9_message RX9 []) (hZ : sv_Z E X none none (md_w E h0 ad q) sz 0 0) (hR : sv_R X = { frames := 5, cells := 0, slots := 0, locals := 112 }) (hN : sv_nL X = 6) (B : md_B) (x1 : Int32) (hf : f_X9_message_68 B x1 = some q) : sv_J E X (md_w E h0 ad B) sz 0 0 68 [(0, .ref h0), (1, .int x1)] [] := by
  rw [f_X9_message_68] at hf
  refine sv_iconst (v := 0) C dX9_message_68 (by decide) ?_
  refine sv_sub (lv' := [(0, .ref h0), (1, .int x1)]) [0, 1] rfl ?_
  exact w_X9_message_69 C hZ hR hN _ _ _ hf
set_option maxHeartbeats 4000000 in
set_option maxRecDepth 100000 in
theorem w_X9_message_49 {E : sv_E} {X : sv_X} {h0 : Nat} {ad : Nat → Nat} {sz : Nat} {q : md_B} (C : sv_C E X cX9_message RX9 []) (hZ : sv_Z E X none none (md_w E h0 ad q) sz 0 0) (hR : sv_R X = { frames := 5, cells := 0, slots := 0, locals := 112 }) (hN : sv_nL X = 6) (B : md_B) (x1 : Int32) (hf : f_X9_message_49 B x1 = some q) : sv_J E X (md_w E h0 ad B) sz 0 0 49 [(0, .ref h0), (1, .int x1)] [] := by
  rw [f_X9_message_49] at hf
  refine sv_iload_n 1 C dX9_message_49 rfl rfl ?_
  refine sv_iconst (v := 5) C dX9_message_50 (by decide) ?_
  refine sv_icmp_ne (tgt := 68) C dX9_message_51 (by decide) (fun c51 => ?_) (fun c51 => ?_)
  · replace hf := sv_if_f c51 hf
    refine sv_sub (lv' := [(0, .ref h0), (1, .int x1)]) [0, 1] rfl ?_
    exact w_X9_message_68 C hZ hR hN _ _ hf
  · replace hf := sv_if_t c51 hf
    refine sv_aload_n 0 C dX9_message_54 rfl rfl ?_
    refine md_geti C fl_X9_277 (by decide) dX9_message_55 ?_
    refine sv_sipush (v := 424) C dX9_message_58 (by decide) ?_
    refine sv_icmp_ne (tgt := 68) C dX9_message_61 (by decide) (fun c61 => ?_) (fun c61 => ?_)
    · replace hf := sv_if_f c61 hf
      refine sv_sub (lv' := [(0, .ref h0), (1, .int x1)]) [0, 1] rfl ?_
      exact w_X9_message_68 C hZ hR hN _ _ hf
    · replace hf := sv_if_t c61 hf
      refine sv_sub (lv' := [(0, .ref h0), (1, .int x1)]) [0, 1] rfl ?_
      exact w_X9_message_64 C hZ hR hN _ _ hf
set_option maxHeartbeats 4000000 in
set_option maxRecDepth 100000 in
theorem w_X9_message_39 {E : sv_E} {X : sv_X} {h0 : Nat} {ad : Nat → Nat} {sz : Nat} {q : md_B} (C : sv_C E X cX9_message RX9 []) (hZ : sv_Z E X none none (md_w E h0 ad q) sz 0 0) (hR : sv_R X = { frames := 5, cells := 0, slots := 0, locals := 112 }) (hN : sv_nL X = 6) (B : md_B) (x1 : Int32) (hf : f_X9_message_39 B x1 = some q) : sv_J E X (md_w E h0 ad B) sz 0 0 39 [(0, .ref h0), (1, .int x1)] [] := by
  rw [f_X9_message_39] at hf
  refine sv_aload_n 0 C dX9_message_39 rfl rfl ?_
  refine md_geti C fl_X9_277 (by decide) dX9_message_40 ?_
  refine sv_sipush (v := 168) C dX9_message_43 (by decide) ?_
  refine sv_icmp_eq (tgt := 64) C dX9_message_46 (by decide) (fun c46 => ?_) (fun c46 => ?_)
  · replace hf := sv_if_t c46 hf
    refine sv_sub (lv' := [(0, .ref h0), (1, .int x1)]) [0, 1] rfl ?_
    exact w_X9_message_64 C hZ hR hN _ _ hf
  · replace hf := sv_if_f c46 hf
    refine sv_sub (lv' := [(0, .ref h0), (1, .int x1)]) [0, 1] rfl ?_
    exact w_X9_message_49 C hZ hR hN _ _ hf
set_option maxHeartbeats 4000000 in
set_option maxRecDepth 100000 in
theorem w_X9_message_20 {E : sv_E} {X : sv_X} {h0 : Nat} {ad : Nat → Nat} {sz : Nat} {q : md_B} (C : sv_C E X cX9_message RX9 []) (hZ : sv_Z E X none none (md_w E h0 ad q) sz 0 0) (hR : sv_R X = { frames := 5, cells := 0, slots := 0, locals := 112 }) (hN : sv_nL X = 6) (B : md_B) (s0 : Int32) (hf : f_X9_message_20 B s0 = some q) : sv_J E X (md_w E h0 ad B) sz 0 0 20 [(0, .ref h0)] [.int s0] := by
  rw [f_X9_message_20] at hf
  refine sv_istore_n (lv' := [(1, .int s0), (0, .ref h0)]) C dX9_message_20 rfl (by rw [hN]; decide) rfl ?_
  refine sv_iload_n 0 C dX9_message_21 rfl rfl ?_
  refine sv_i2l C dX9_message_22 ?_
  refine sv_lconst (v := 1) C dX9_message_23 (by decide) ?_
  refine sv_ldc2 C kw_741 dX9_message_24 ?_
  obtain ⟨q27, hc27, hf⟩ := sv_bind_some hf
  refine sv_callS0 C ms_X9_74 (m_X9_in (sv_l X) E h0 ad sz _ _ _ _ _ hc27) sv_sx0 rfl rfl (Nat.le_of_ble_eq_true rfl) ⟨by rw [hR]; decide, by rw [hR]; decide⟩ ⟨by rw [hR]; decide, by rw [hR]; decide⟩ dX9_message_27 ?_
  refine sv_if_ne (tgt := 39) C dX9_message_30 (by decide) (fun c30 => ?_) (fun c30 => ?_)
  · replace hf := sv_if_f c30 hf
    refine sv_sub (lv' := [(0, .ref h0), (1, .int s0)]) [1, 0] rfl ?_
    exact w_X9_message_39 C hZ hR hN _ _ hf
  · replace hf := sv_if_t c30 hf
    refine sv_iload_n 0 C dX9_message_33 rfl rfl ?_
    refine sv_bipush (v := 18) C dX9_message_34 (by decide) ?_
    refine sv_icmp_ne (tgt := 49) C dX9_message_36 (by decide) (fun c36 => ?_) (fun c36 => ?_)
    · replace hf := sv_if_f c36 hf
      refine sv_sub (lv' := [(0, .ref h0), (1, .int s0)]) [1, 0] rfl ?_
      exact w_X9_message_49 C hZ hR hN _ _ hf
    · replace hf := sv_if_t c36 hf
      refine sv_sub (lv' := [(0, .ref h0), (1, .int s0)]) [1, 0] rfl ?_
      exact w_X9_message_39 C hZ hR hN _ _ hf
set_option maxHeartbeats 4000000 in
set_option maxRecDepth 100000 in
theorem m_X9_message (l : Launch) (E : sv_E) (h0 : Nat) (ad : Nat → Nat) (sz : Nat) (B : md_B) (q : md_B) (hf : f_X9_message B = some q) : sv_Met l E yX9_message cX9_message 6 none 5 112 [] [.ref h0] (md_w E h0 ad B) sz none (md_w E h0 ad q) sz 0 0 := by
  refine sv_ofJ (by decide) (Nat.le_of_ble_eq_true rfl) ?_
  intro X hX hN hnm hR C hZ
  replace C : sv_C E X cX9_message RX9 [] := C
  show sv_J E X (md_w E h0 ad B) sz 0 0 0 [(0, .ref h0)] []
  rw [f_X9_message] at hf
  refine sv_aload_n 0 C dX9_message_0 rfl rfl ?_
  refine md_geti C fl_X9_277 (by decide) dX9_message_1 ?_
  refine sv_bipush (v := 38) C dX9_message_4 (by decide) ?_
  refine sv_icmp_ge (tgt := 13) C dX9_message_6 (by decide) (fun c6 => ?_) (fun c6 => ?_)
  · replace hf := sv_if_t c6 hf
    refine sv_aload_n 0 C dX9_message_13 rfl rfl ?_
    refine sv_iconst (v := 0) C dX9_message_14 (by decide) ?_
    refine sv_bipush (v := 6) C dX9_message_15 (by decide) ?_
    obtain ⟨q17, hc17, hf⟩ := sv_bind_some hf
    refine sv_callV0 C mv_X9_286 (m_X9_read (sv_l X) E h0 ad sz _ _ _ _ hc17) sv_sx0 0 rfl rfl rfl rfl (Nat.le_of_ble_eq_true rfl) ⟨by rw [hR]; decide, by rw [hR]; decide⟩ ⟨by rw [hR]; decide, by rw [hR]; decide⟩ dX9_message_17 ?_
    refine sv_sub (lv' := [(0, .ref h0)]) [0] rfl ?_
    exact w_X9_message_20 C hZ hR hN _ _ hf
  · replace hf := sv_if_f c6 hf
    refine sv_iconst (v := 0) C dX9_message_9 (by decide) ?_
    refine sv_goto (tgt := 20) C dX9_message_10 (by decide) ?_
    refine sv_sub (lv' := [(0, .ref h0)]) [0] rfl ?_
    exact w_X9_message_20 C hZ hR hN _ _ hf
def f_X9_parted_234 (k156 : md_B → Int32 → Int32 → Option (md_B)) (B : md_B) (x1 : Int32) (x2 : Int32) (s0 : Int32) (s1 : Int32) : Option (md_B) :=
  sv_g (sv_inb s1 35640) (
    k156 (md_pa B 24 s1 (vp_nar .boolean s0)) x1 (x2 + 1))
def f_X9_parted_188 (k156 : md_B → Int32 → Int32 → Option (md_B)) (B : md_B) (x1 : Int32) (x2 : Int32) (s0 : Int32) : Option (md_B) :=
  sv_g (sv_inb (B.1 19) 11) (
    if ((s0 >>> ((5 - (x2 - x2 / 6 * 6)) &&& 31)) &&& 1) = 1 then
      f_X9_parted_234 k156 B x1 x2 1 ((((B.1 19) * 3240) + (B.2 23 (B.1 19).toNatClampNeg)) + x2)
    else
      f_X9_parted_234 k156 B x1 x2 0 ((((B.1 19) * 3240) + (B.2 23 (B.1 19).toNatClampNeg)) + x2))
def f_X9_parted_280 : Nat → md_B → Int32 → Option (md_B)
  | 0, _, _ => none
  | n + 1, B, x2 =>
    if (B.1 26) ≤ x2 then
      sv_g (sv_inb (B.1 19) 11) (
        (f_X9_message (md_pf (md_pa B 22 (B.1 19) 0) 27 1)).bind (fun q331 =>
          some q331))
    else
      sv_g (sv_inb (((B.1 19) * 3240) + x2) 35640) (
        sv_g (sv_inb x2 3240) (
          (f_X9_parted_280 n) (md_pa B 25 x2 (vp_nar .boolean (B.2 24 (((B.1 19) * 3240) + x2).toNatClampNeg))) (x2 + 1)))
def f_X9_parted_156 : Nat → md_B → Int32 → Int32 → Option (md_B)
  | 0, _, _, _ => none
  | n + 1, B, x1, x2 =>
    if x1 ≤ x2 then
      sv_g (sv_inb (B.1 19) 11) (
        sv_g (sv_inb (B.1 19) 11) (
          if ((md_pa B 23 (B.1 19) ((B.2 23 (B.1 19).toNatClampNeg) + x1)).1 18) = ((md_pa B 23 (B.1 19) ((B.2 23 (B.1 19).toNatClampNeg) + x1)).1 17) then
            sv_g (sv_inb ((md_pa B 23 (B.1 19) ((B.2 23 (B.1 19).toNatClampNeg) + x1)).1 19) 11) (
              f_X9_parted_280 sv_fu (md_pf (md_pa B 23 (B.1 19) ((B.2 23 (B.1 19).toNatClampNeg) + x1)) 26 ((md_pa B 23 (B.1 19) ((B.2 23 (B.1 19).toNatClampNeg) + x1)).2 23 ((md_pa B 23 (B.1 19) ((B.2 23 (B.1 19).toNatClampNeg) + x1)).1 19).toNatClampNeg)) 0)
          else
            some (md_pa B 23 (B.1 19) ((B.2 23 (B.1 19).toNatClampNeg) + x1))))
    else
      (f_X9_at B 5 (x2 / 6)).bind (fun q167 =>
        if (q167.1 - 48) ≤ 40 then
          f_X9_parted_188 (f_X9_parted_156 n) q167.2 x1 x2 (q167.1 - 48)
        else
          f_X9_parted_188 (f_X9_parted_156 n) q167.2 x1 x2 ((q167.1 - 48) - 8))
def f_X9_parted_114 (B : md_B) : Option (md_B) :=
  sv_g (sv_inb (B.1 19) 11) (
    sv_g (sv_inb ((md_pa B 21 (B.1 19) (B.1 17)).1 19) 11) (
      sv_g (sv_inb ((md_pa B 21 (B.1 19) (B.1 17)).1 19) 11) (
        (f_X9_size (md_pa (md_pa B 21 (B.1 19) (B.1 17)) 22 ((md_pa B 21 (B.1 19) (B.1 17)).1 19) (((md_pa B 21 (B.1 19) (B.1 17)).2 22 ((md_pa B 21 (B.1 19) (B.1 17)).1 19).toNatClampNeg) + 1)) 5).bind (fun q144 =>
          f_X9_parted_156 sv_fu q144.2 ((6 * q144.1) - (q144.2.1 20)) 0))))
def f_X9_parted_33 (B : md_B) (s0 : Int32) (s1 : Int32) (s2 : Int32) : Option (md_B) :=
  sv_g (sv_inb s2 9) (
    sv_g (sv_inb ((md_pa B 10 s2 (s1 + s0)).1 19) 11) (
      sv_g (sv_inb ((md_pa (md_pa B 10 s2 (s1 + s0)) 22 ((md_pa B 10 s2 (s1 + s0)).1 19) 0).1 19) 11) (
        f_X9_parted_114 (md_pa (md_pa (md_pa B 10 s2 (s1 + s0)) 22 ((md_pa B 10 s2 (s1 + s0)).1 19) 0) 23 ((md_pa (md_pa B 10 s2 (s1 + s0)) 22 ((md_pa B 10 s2 (s1 + s0)).1 19) 0).1 19) 0))))
def f_X9_parted_92 (B : md_B) : Option (md_B) :=
  sv_g (sv_inb ((md_pa B 10 7 ((B.2 10 (7 : Int32).toNatClampNeg) + 1)).1 19) 11) (
    some (md_pa (md_pa B 10 7 ((B.2 10 (7 : Int32).toNatClampNeg) + 1)) 22 ((md_pa B 10 7 ((B.2 10 (7 : Int32).toNatClampNeg) + 1)).1 19) 0))
def f_X9_parted (B : md_B) : Option (md_B) :=
  if (B.1 18) = 1 then
    sv_g (sv_inb (B.1 19) 11) (
      if (B.2 22 (B.1 19).toNatClampNeg) ≤ 0 then
        f_X9_parted_33 B 0 (B.2 10 (7 : Int32).toNatClampNeg) 7
      else
        f_X9_parted_33 B 1 (B.2 10 (7 : Int32).toNatClampNeg) 7)
  else
    sv_g (sv_inb (B.1 19) 11) (
      if (B.2 21 (B.1 19).toNatClampNeg) = (B.1 17) then
        sv_g (sv_inb (B.1 19) 11) (
          if (B.2 22 (B.1 19).toNatClampNeg) = ((B.1 18) - 1) then
            f_X9_parted_114 B
          else
            f_X9_parted_92 B)
      else
        f_X9_parted_92 B)
set_option maxHeartbeats 4000000 in
set_option maxRecDepth 100000 in
theorem w_X9_parted_234 {E : sv_E} {X : sv_X} {h0 : Nat} {ad : Nat → Nat} {sz : Nat} {q : md_B} (C : sv_C E X cX9_parted RX9 []) (hZ : sv_Z E X none none (md_w E h0 ad q) sz 0 0) (hR : sv_R X = { frames := 6, cells := 0, slots := 0, locals := 137 }) (hN : sv_nL X = 5) {k156 : md_B → Int32 → Int32 → Option (md_B)} (hk156 : ∀ (B : md_B) (x1 : Int32) (x2 : Int32), k156 B x1 x2 = some q → sv_J E X (md_w E h0 ad B) sz 0 0 156 [(0, .ref h0), (1, .int x1), (2, .int x2)] []) (B : md_B) (x1 : Int32) (x2 : Int32) (s0 : Int32) (s1 : Int32) (hf : f_X9_parted_234 k156 B x1 x2 s0 s1 = some q) : sv_J E X (md_w E h0 ad B) sz 0 0 234 [(0, .ref h0), (1, .int x1), (2, .int x2)] [.int s0, .int s1, .ref (ad 24)] := by
  rw [f_X9_parted_234] at hf
  obtain ⟨g234, hf⟩ := sv_g_some hf
  refine md_zast C 11 rfl g234 dX9_parted_234 ?_
  refine sv_iinc (v := x2 + 1) (lv' := [(2, .int (x2 + 1)), (0, .ref h0), (1, .int x1)]) 2 C dX9_parted_235 rfl rfl (by rw [hN]; decide) rfl ?_
  refine sv_goto (tgt := 156) C dX9_parted_238 (by decide) ?_
  refine sv_sub (lv' := [(0, .ref h0), (1, .int x1), (2, .int (x2 + 1))]) [1, 2, 0] rfl ?_
  exact hk156 _ _ _ hf
set_option maxHeartbeats 4000000 in
set_option maxRecDepth 100000 in
theorem w_X9_parted_188 {E : sv_E} {X : sv_X} {h0 : Nat} {ad : Nat → Nat} {sz : Nat} {q : md_B} (C : sv_C E X cX9_parted RX9 []) (hZ : sv_Z E X none none (md_w E h0 ad q) sz 0 0) (hR : sv_R X = { frames := 6, cells := 0, slots := 0, locals := 137 }) (hN : sv_nL X = 5) {k156 : md_B → Int32 → Int32 → Option (md_B)} (hk156 : ∀ (B : md_B) (x1 : Int32) (x2 : Int32), k156 B x1 x2 = some q → sv_J E X (md_w E h0 ad B) sz 0 0 156 [(0, .ref h0), (1, .int x1), (2, .int x2)] []) (B : md_B) (x1 : Int32) (x2 : Int32) (s0 : Int32) (hf : f_X9_parted_188 k156 B x1 x2 s0 = some q) : sv_J E X (md_w E h0 ad B) sz 0 0 188 [(0, .ref h0), (1, .int x1), (2, .int x2)] [.int s0] := by
  rw [f_X9_parted_188] at hf
  refine sv_istore (lv' := [(4, .int s0), (0, .ref h0), (1, .int x1), (2, .int x2)]) C dX9_parted_188 (by rw [hN]; decide) rfl ?_
  refine sv_aload_n 1 C dX9_parted_190 rfl rfl ?_
  refine md_getr C fl_X9_48 (by decide) dX9_parted_191 ?_
  refine sv_aload_n 1 C dX9_parted_194 rfl rfl ?_
  refine md_geti C fl_X9_254 (by decide) dX9_parted_195 ?_
  refine sv_sipush (v := 3240) C dX9_parted_198 (by decide) ?_
  refine sv_imul C dX9_parted_201 ?_
  refine sv_aload_n 1 C dX9_parted_202 rfl rfl ?_
  refine md_getr C fl_X9_44 (by decide) dX9_parted_203 ?_
  refine sv_aload_n 1 C dX9_parted_206 rfl rfl ?_
  refine md_geti C fl_X9_254 (by decide) dX9_parted_207 ?_
  obtain ⟨g210, hf⟩ := sv_g_some hf
  refine md_iald C 10 rfl g210 dX9_parted_210 ?_
  refine sv_iadd C dX9_parted_211 ?_
  refine sv_iload_n 3 C dX9_parted_212 rfl rfl ?_
  refine sv_iadd C dX9_parted_213 ?_
  refine sv_iload 0 C dX9_parted_214 rfl ?_
  refine sv_iconst (v := 5) C dX9_parted_216 (by decide) ?_
  refine sv_iload_n 3 C dX9_parted_217 rfl rfl ?_
  refine sv_bipush (v := 6) C dX9_parted_218 (by decide) ?_
  refine sv_irem C dX9_parted_220 (by decide) ?_
  refine sv_isub C dX9_parted_221 ?_
  refine sv_ishr C dX9_parted_222 ?_
  refine sv_iconst (v := 1) C dX9_parted_223 (by decide) ?_
  refine sv_iand C dX9_parted_224 ?_
  refine sv_iconst (v := 1) C dX9_parted_225 (by decide) ?_
  refine sv_icmp_ne (tgt := 233) C dX9_parted_226 (by decide) (fun c226 => ?_) (fun c226 => ?_)
  · replace hf := sv_if_f c226 hf
    refine sv_iconst (v := 0) C dX9_parted_233 (by decide) ?_
    refine sv_sub (lv' := [(0, .ref h0), (1, .int x1), (2, .int x2)]) [1, 2, 3] rfl ?_
    exact w_X9_parted_234 C hZ hR hN hk156 _ _ _ _ _ hf
  · replace hf := sv_if_t c226 hf
    refine sv_iconst (v := 1) C dX9_parted_229 (by decide) ?_
    refine sv_goto (tgt := 234) C dX9_parted_230 (by decide) ?_
    refine sv_sub (lv' := [(0, .ref h0), (1, .int x1), (2, .int x2)]) [1, 2, 3] rfl ?_
    exact w_X9_parted_234 C hZ hR hN hk156 _ _ _ _ _ hf
set_option maxHeartbeats 4000000 in
set_option maxRecDepth 100000 in
theorem w_X9_parted_280 {E : sv_E} {X : sv_X} {h0 : Nat} {ad : Nat → Nat} {sz : Nat} {q : md_B} (C : sv_C E X cX9_parted RX9 []) (hZ : sv_Z E X none none (md_w E h0 ad q) sz 0 0) (hR : sv_R X = { frames := 6, cells := 0, slots := 0, locals := 137 }) (hN : sv_nL X = 5) : ∀ (n : Nat) (B : md_B) (x2 : Int32), f_X9_parted_280 n B x2 = some q → sv_J E X (md_w E h0 ad B) sz 0 0 280 [(0, .ref h0), (2, .int x2)] [] := by
  intro n
  induction n with
  | zero =>
    intro B x2 hf
    rw [f_X9_parted_280] at hf
    cases hf
  | succ n ih =>
    intro B x2 hf
    rw [f_X9_parted_280] at hf
    refine sv_iload_n 1 C dX9_parted_280 rfl rfl ?_
    refine sv_aload_n 0 C dX9_parted_281 rfl rfl ?_
    refine md_geti C fl_X9_277 (by decide) dX9_parted_282 ?_
    refine sv_icmp_ge (tgt := 315) C dX9_parted_285 (by decide) (fun c285 => ?_) (fun c285 => ?_)
    · replace hf := sv_if_t c285 hf
      refine sv_aload_n 0 C dX9_parted_315 rfl rfl ?_
      refine md_getr C fl_X9_41 (by decide) dX9_parted_316 ?_
      refine sv_aload_n 0 C dX9_parted_319 rfl rfl ?_
      refine md_geti C fl_X9_254 (by decide) dX9_parted_320 ?_
      refine sv_iconst (v := 0) C dX9_parted_323 (by decide) ?_
      obtain ⟨g324, hf⟩ := sv_g_some hf
      refine md_iast C 9 rfl g324 dX9_parted_324 ?_
      refine sv_aload_n 0 C dX9_parted_325 rfl rfl ?_
      refine sv_iconst (v := 1) C dX9_parted_326 (by decide) ?_
      refine md_puti C fl_X9_280 (by decide) (by decide) (by decide) dX9_parted_327 ?_
      refine sv_aload_n 0 C dX9_parted_330 rfl rfl ?_
      obtain ⟨q331, hc331, hf⟩ := sv_bind_some hf
      refine sv_callV0 C mv_X9_283 (m_X9_message (sv_l X) E h0 ad sz _ _ hc331) sv_sx0 0 rfl rfl rfl rfl (Nat.le_of_ble_eq_true rfl) ⟨by rw [hR]; decide, by rw [hR]; decide⟩ ⟨by rw [hR]; decide, by rw [hR]; decide⟩ dX9_parted_331 ?_
      exact sv_vret C (by cases hf; exact hZ) dX9_parted_334
    · replace hf := sv_if_f c285 hf
      refine sv_aload_n 0 C dX9_parted_288 rfl rfl ?_
      refine md_getr C fl_X9_52 (by decide) dX9_parted_289 ?_
      refine sv_iload_n 1 C dX9_parted_292 rfl rfl ?_
      refine sv_aload_n 0 C dX9_parted_293 rfl rfl ?_
      refine md_getr C fl_X9_48 (by decide) dX9_parted_294 ?_
      refine sv_aload_n 0 C dX9_parted_297 rfl rfl ?_
      refine md_geti C fl_X9_254 (by decide) dX9_parted_298 ?_
      refine sv_sipush (v := 3240) C dX9_parted_301 (by decide) ?_
      refine sv_imul C dX9_parted_304 ?_
      refine sv_iload_n 1 C dX9_parted_305 rfl rfl ?_
      refine sv_iadd C dX9_parted_306 ?_
      obtain ⟨g307, hf⟩ := sv_g_some hf
      refine md_zald C 11 rfl g307 dX9_parted_307 ?_
      obtain ⟨g308, hf⟩ := sv_g_some hf
      refine md_zast C 12 rfl g308 dX9_parted_308 ?_
      refine sv_iinc (v := x2 + 1) (lv' := [(2, .int (x2 + 1)), (0, .ref h0)]) 1 C dX9_parted_309 rfl rfl (by rw [hN]; decide) rfl ?_
      refine sv_goto (tgt := 280) C dX9_parted_312 (by decide) ?_
      refine sv_sub (lv' := [(0, .ref h0), (2, .int (x2 + 1))]) [1, 0] rfl ?_
      exact ih _ _ hf
set_option maxHeartbeats 4000000 in
set_option maxRecDepth 100000 in
theorem w_X9_parted_156 {E : sv_E} {X : sv_X} {h0 : Nat} {ad : Nat → Nat} {sz : Nat} {q : md_B} (C : sv_C E X cX9_parted RX9 []) (hZ : sv_Z E X none none (md_w E h0 ad q) sz 0 0) (hR : sv_R X = { frames := 6, cells := 0, slots := 0, locals := 137 }) (hN : sv_nL X = 5) : ∀ (n : Nat) (B : md_B) (x1 : Int32) (x2 : Int32), f_X9_parted_156 n B x1 x2 = some q → sv_J E X (md_w E h0 ad B) sz 0 0 156 [(0, .ref h0), (1, .int x1), (2, .int x2)] [] := by
  intro n
  induction n with
  | zero =>
    intro B x1 x2 hf
    rw [f_X9_parted_156] at hf
    cases hf
  | succ n ih =>
    intro B x1 x2 hf
    rw [f_X9_parted_156] at hf
    refine sv_iload_n 2 C dX9_parted_156 rfl rfl ?_
    refine sv_iload_n 1 C dX9_parted_157 rfl rfl ?_
    refine sv_icmp_ge (tgt := 241) C dX9_parted_158 (by decide) (fun c158 => ?_) (fun c158 => ?_)
    · replace hf := sv_if_t c158 hf
      refine sv_aload_n 0 C dX9_parted_241 rfl rfl ?_
      refine md_getr C fl_X9_44 (by decide) dX9_parted_242 ?_
      refine sv_aload_n 0 C dX9_parted_245 rfl rfl ?_
      refine md_geti C fl_X9_254 (by decide) dX9_parted_246 ?_
      refine sv_dup2 C dX9_parted_249 rfl rfl ?_
      obtain ⟨g250, hf⟩ := sv_g_some hf
      refine md_iald C 10 rfl g250 dX9_parted_250 ?_
      refine sv_iload_n 1 C dX9_parted_251 rfl rfl ?_
      refine sv_iadd C dX9_parted_252 ?_
      obtain ⟨g253, hf⟩ := sv_g_some hf
      refine md_iast C 10 rfl g253 dX9_parted_253 ?_
      refine sv_aload_n 0 C dX9_parted_254 rfl rfl ?_
      refine md_geti C fl_X9_251 (by decide) dX9_parted_255 ?_
      refine sv_aload_n 0 C dX9_parted_258 rfl rfl ?_
      refine md_geti C fl_X9_248 (by decide) dX9_parted_259 ?_
      refine sv_icmp_ne (tgt := 334) C dX9_parted_262 (by decide) (fun c262 => ?_) (fun c262 => ?_)
      · replace hf := sv_if_f c262 hf
        exact sv_vret C (by cases hf; exact hZ) dX9_parted_334
      · replace hf := sv_if_t c262 hf
        refine sv_aload_n 0 C dX9_parted_265 rfl rfl ?_
        refine sv_aload_n 0 C dX9_parted_266 rfl rfl ?_
        refine md_getr C fl_X9_44 (by decide) dX9_parted_267 ?_
        refine sv_aload_n 0 C dX9_parted_270 rfl rfl ?_
        refine md_geti C fl_X9_254 (by decide) dX9_parted_271 ?_
        obtain ⟨g274, hf⟩ := sv_g_some hf
        refine md_iald C 10 rfl g274 dX9_parted_274 ?_
        refine md_puti C fl_X9_277 (by decide) rfl rfl dX9_parted_275 ?_
        refine sv_iconst (v := 0) C dX9_parted_278 (by decide) ?_
        refine sv_istore_n (lv' := [(2, .int 0), (0, .ref h0), (1, .int x1)]) C dX9_parted_279 rfl (by rw [hN]; decide) rfl ?_
        refine sv_sub (lv' := [(0, .ref h0), (2, .int 0)]) [1, 0] rfl ?_
        exact w_X9_parted_280 C hZ hR hN sv_fu _ _ hf
    · replace hf := sv_if_f c158 hf
      refine sv_aload_n 0 C dX9_parted_161 rfl rfl ?_
      refine sv_iconst (v := 5) C dX9_parted_162 (by decide) ?_
      refine sv_iload_n 2 C dX9_parted_163 rfl rfl ?_
      refine sv_bipush (v := 6) C dX9_parted_164 (by decide) ?_
      refine sv_idiv C dX9_parted_166 (by decide) ?_
      obtain ⟨q167, hc167, hf⟩ := sv_bind_some hf
      refine sv_callV0 C mv_X9_156 (m_X9_at (sv_l X) E h0 ad sz _ _ _ _ hc167) sv_sx0 0 rfl rfl rfl rfl (Nat.le_of_ble_eq_true rfl) ⟨by rw [hR]; decide, by rw [hR]; decide⟩ ⟨by rw [hR]; decide, by rw [hR]; decide⟩ dX9_parted_167 ?_
      refine sv_bipush (v := 48) C dX9_parted_170 (by decide) ?_
      refine sv_isub C dX9_parted_172 ?_
      refine sv_istore_n (lv' := [(3, .int (q167.1 - 48)), (0, .ref h0), (1, .int x1), (2, .int x2)]) C dX9_parted_173 rfl (by rw [hN]; decide) rfl ?_
      refine sv_iload_n 0 C dX9_parted_174 rfl rfl ?_
      refine sv_bipush (v := 40) C dX9_parted_175 (by decide) ?_
      refine sv_icmp_le (tgt := 187) C dX9_parted_177 (by decide) (fun c177 => ?_) (fun c177 => ?_)
      · replace hf := sv_if_t c177 hf
        refine sv_iload_n 0 C dX9_parted_187 rfl rfl ?_
        refine sv_sub (lv' := [(0, .ref h0), (1, .int x1), (2, .int x2)]) [1, 2, 3] rfl ?_
        exact w_X9_parted_188 C hZ hR hN ih _ _ _ _ hf
      · replace hf := sv_if_f c177 hf
        refine sv_iload_n 0 C dX9_parted_180 rfl rfl ?_
        refine sv_bipush (v := 8) C dX9_parted_181 (by decide) ?_
        refine sv_isub C dX9_parted_183 ?_
        refine sv_goto (tgt := 188) C dX9_parted_184 (by decide) ?_
        refine sv_sub (lv' := [(0, .ref h0), (1, .int x1), (2, .int x2)]) [1, 2, 3] rfl ?_
        exact w_X9_parted_188 C hZ hR hN ih _ _ _ _ hf
set_option maxHeartbeats 4000000 in
set_option maxRecDepth 100000 in
theorem w_X9_parted_114 {E : sv_E} {X : sv_X} {h0 : Nat} {ad : Nat → Nat} {sz : Nat} {q : md_B} (C : sv_C E X cX9_parted RX9 []) (hZ : sv_Z E X none none (md_w E h0 ad q) sz 0 0) (hR : sv_R X = { frames := 6, cells := 0, slots := 0, locals := 137 }) (hN : sv_nL X = 5) (B : md_B) (hf : f_X9_parted_114 B = some q) : sv_J E X (md_w E h0 ad B) sz 0 0 114 [(0, .ref h0)] [] := by
  rw [f_X9_parted_114] at hf
  refine sv_aload_n 0 C dX9_parted_114 rfl rfl ?_
  refine md_getr C fl_X9_38 (by decide) dX9_parted_115 ?_
  refine sv_aload_n 0 C dX9_parted_118 rfl rfl ?_
  refine md_geti C fl_X9_254 (by decide) dX9_parted_119 ?_
  refine sv_aload_n 0 C dX9_parted_122 rfl rfl ?_
  refine md_geti C fl_X9_248 (by decide) dX9_parted_123 ?_
  obtain ⟨g126, hf⟩ := sv_g_some hf
  refine md_iast C 8 rfl g126 dX9_parted_126 ?_
  refine sv_aload_n 0 C dX9_parted_127 rfl rfl ?_
  refine md_getr C fl_X9_41 (by decide) dX9_parted_128 ?_
  refine sv_aload_n 0 C dX9_parted_131 rfl rfl ?_
  refine md_geti C fl_X9_254 (by decide) dX9_parted_132 ?_
  refine sv_dup2 C dX9_parted_135 rfl rfl ?_
  obtain ⟨g136, hf⟩ := sv_g_some hf
  refine md_iald C 9 rfl g136 dX9_parted_136 ?_
  refine sv_iconst (v := 1) C dX9_parted_137 (by decide) ?_
  refine sv_iadd C dX9_parted_138 ?_
  obtain ⟨g139, hf⟩ := sv_g_some hf
  refine md_iast C 9 rfl g139 dX9_parted_139 ?_
  refine sv_bipush (v := 6) C dX9_parted_140 (by decide) ?_
  refine sv_aload_n 0 C dX9_parted_142 rfl rfl ?_
  refine sv_iconst (v := 5) C dX9_parted_143 (by decide) ?_
  obtain ⟨q144, hc144, hf⟩ := sv_bind_some hf
  refine sv_callV0 C mv_X9_153 (m_X9_size (sv_l X) E h0 ad sz _ _ _ hc144) sv_sx0 0 rfl rfl rfl rfl (Nat.le_of_ble_eq_true rfl) ⟨by rw [hR]; decide, by rw [hR]; decide⟩ ⟨by rw [hR]; decide, by rw [hR]; decide⟩ dX9_parted_144 ?_
  refine sv_imul C dX9_parted_147 ?_
  refine sv_aload_n 0 C dX9_parted_148 rfl rfl ?_
  refine md_geti C fl_X9_259 (by decide) dX9_parted_149 ?_
  refine sv_isub C dX9_parted_152 ?_
  refine sv_istore_n (lv' := [(1, .int ((6 * q144.1) - (q144.2.1 20))), (0, .ref h0)]) C dX9_parted_153 rfl (by rw [hN]; decide) rfl ?_
  refine sv_iconst (v := 0) C dX9_parted_154 (by decide) ?_
  refine sv_istore_n (lv' := [(2, .int 0), (1, .int ((6 * q144.1) - (q144.2.1 20))), (0, .ref h0)]) C dX9_parted_155 rfl (by rw [hN]; decide) rfl ?_
  refine sv_sub (lv' := [(0, .ref h0), (1, .int ((6 * q144.1) - (q144.2.1 20))), (2, .int 0)]) [2, 1, 0] rfl ?_
  exact w_X9_parted_156 C hZ hR hN sv_fu _ _ _ hf
set_option maxHeartbeats 4000000 in
set_option maxRecDepth 100000 in
theorem w_X9_parted_33 {E : sv_E} {X : sv_X} {h0 : Nat} {ad : Nat → Nat} {sz : Nat} {q : md_B} (C : sv_C E X cX9_parted RX9 []) (hZ : sv_Z E X none none (md_w E h0 ad q) sz 0 0) (hR : sv_R X = { frames := 6, cells := 0, slots := 0, locals := 137 }) (hN : sv_nL X = 5) (B : md_B) (s0 : Int32) (s1 : Int32) (s2 : Int32) (hf : f_X9_parted_33 B s0 s1 s2 = some q) : sv_J E X (md_w E h0 ad B) sz 0 0 33 [(0, .ref h0)] [.int s0, .int s1, .int s2, .ref (ad 10)] := by
  rw [f_X9_parted_33] at hf
  refine sv_iadd C dX9_parted_33 ?_
  obtain ⟨g34, hf⟩ := sv_g_some hf
  refine md_iast C 3 rfl g34 dX9_parted_34 ?_
  refine sv_aload_n 0 C dX9_parted_35 rfl rfl ?_
  refine md_getr C fl_X9_41 (by decide) dX9_parted_36 ?_
  refine sv_aload_n 0 C dX9_parted_39 rfl rfl ?_
  refine md_geti C fl_X9_254 (by decide) dX9_parted_40 ?_
  refine sv_iconst (v := 0) C dX9_parted_43 (by decide) ?_
  obtain ⟨g44, hf⟩ := sv_g_some hf
  refine md_iast C 9 rfl g44 dX9_parted_44 ?_
  refine sv_aload_n 0 C dX9_parted_45 rfl rfl ?_
  refine md_getr C fl_X9_44 (by decide) dX9_parted_46 ?_
  refine sv_aload_n 0 C dX9_parted_49 rfl rfl ?_
  refine md_geti C fl_X9_254 (by decide) dX9_parted_50 ?_
  refine sv_iconst (v := 0) C dX9_parted_53 (by decide) ?_
  obtain ⟨g54, hf⟩ := sv_g_some hf
  refine md_iast C 10 rfl g54 dX9_parted_54 ?_
  refine sv_goto (tgt := 114) C dX9_parted_55 (by decide) ?_
  refine sv_sub (lv' := [(0, .ref h0)]) [0] rfl ?_
  exact w_X9_parted_114 C hZ hR hN _ hf
set_option maxHeartbeats 4000000 in
set_option maxRecDepth 100000 in
theorem w_X9_parted_92 {E : sv_E} {X : sv_X} {h0 : Nat} {ad : Nat → Nat} {sz : Nat} {q : md_B} (C : sv_C E X cX9_parted RX9 []) (hZ : sv_Z E X none none (md_w E h0 ad q) sz 0 0) (hR : sv_R X = { frames := 6, cells := 0, slots := 0, locals := 137 }) (hN : sv_nL X = 5) (B : md_B) (hf : f_X9_parted_92 B = some q) : sv_J E X (md_w E h0 ad B) sz 0 0 92 [(0, .ref h0)] [] := by
  rw [f_X9_parted_92] at hf
  refine sv_aload_n 0 C dX9_parted_92 rfl rfl ?_
  refine md_getr C fl_X9_23 (by decide) dX9_parted_93 ?_
  refine sv_bipush (v := 7) C dX9_parted_96 (by decide) ?_
  refine sv_dup2 C dX9_parted_98 rfl rfl ?_
  refine md_iald C 3 rfl (by decide) dX9_parted_99 ?_
  refine sv_iconst (v := 1) C dX9_parted_100 (by decide) ?_
  refine sv_iadd C dX9_parted_101 ?_
  refine md_iast C 3 rfl (by decide) dX9_parted_102 ?_
  refine sv_aload_n 0 C dX9_parted_103 rfl rfl ?_
  refine md_getr C fl_X9_41 (by decide) dX9_parted_104 ?_
  refine sv_aload_n 0 C dX9_parted_107 rfl rfl ?_
  refine md_geti C fl_X9_254 (by decide) dX9_parted_108 ?_
  refine sv_iconst (v := 0) C dX9_parted_111 (by decide) ?_
  obtain ⟨g112, hf⟩ := sv_g_some hf
  refine md_iast C 9 rfl g112 dX9_parted_112 ?_
  exact sv_vret C (by cases hf; exact hZ) dX9_parted_113
set_option maxHeartbeats 4000000 in
set_option maxRecDepth 100000 in
theorem m_X9_parted (l : Launch) (E : sv_E) (h0 : Nat) (ad : Nat → Nat) (sz : Nat) (B : md_B) (q : md_B) (hf : f_X9_parted B = some q) : sv_Met l E yX9_parted cX9_parted 5 none 6 137 [] [.ref h0] (md_w E h0 ad B) sz none (md_w E h0 ad q) sz 0 0 := by
  refine sv_ofJ (by decide) (Nat.le_of_ble_eq_true rfl) ?_
  intro X hX hN hnm hR C hZ
  replace C : sv_C E X cX9_parted RX9 [] := C
  show sv_J E X (md_w E h0 ad B) sz 0 0 0 [(0, .ref h0)] []
  rw [f_X9_parted] at hf
  refine sv_aload_n 0 C dX9_parted_0 rfl rfl ?_
  refine md_geti C fl_X9_251 (by decide) dX9_parted_1 ?_
  refine sv_iconst (v := 1) C dX9_parted_4 (by decide) ?_
  refine sv_icmp_ne (tgt := 58) C dX9_parted_5 (by decide) (fun c5 => ?_) (fun c5 => ?_)
  · replace hf := sv_if_f c5 hf
    refine sv_aload_n 0 C dX9_parted_58 rfl rfl ?_
    refine md_getr C fl_X9_38 (by decide) dX9_parted_59 ?_
    refine sv_aload_n 0 C dX9_parted_62 rfl rfl ?_
    refine md_geti C fl_X9_254 (by decide) dX9_parted_63 ?_
    obtain ⟨g66, hf⟩ := sv_g_some hf
    refine md_iald C 8 rfl g66 dX9_parted_66 ?_
    refine sv_aload_n 0 C dX9_parted_67 rfl rfl ?_
    refine md_geti C fl_X9_248 (by decide) dX9_parted_68 ?_
    refine sv_icmp_ne (tgt := 92) C dX9_parted_71 (by decide) (fun c71 => ?_) (fun c71 => ?_)
    · replace hf := sv_if_f c71 hf
      refine sv_sub (lv' := [(0, .ref h0)]) [0] rfl ?_
      exact w_X9_parted_92 C hZ hR hN _ hf
    · replace hf := sv_if_t c71 hf
      refine sv_aload_n 0 C dX9_parted_74 rfl rfl ?_
      refine md_getr C fl_X9_41 (by decide) dX9_parted_75 ?_
      refine sv_aload_n 0 C dX9_parted_78 rfl rfl ?_
      refine md_geti C fl_X9_254 (by decide) dX9_parted_79 ?_
      obtain ⟨g82, hf⟩ := sv_g_some hf
      refine md_iald C 9 rfl g82 dX9_parted_82 ?_
      refine sv_aload_n 0 C dX9_parted_83 rfl rfl ?_
      refine md_geti C fl_X9_251 (by decide) dX9_parted_84 ?_
      refine sv_iconst (v := 1) C dX9_parted_87 (by decide) ?_
      refine sv_isub C dX9_parted_88 ?_
      refine sv_icmp_eq (tgt := 114) C dX9_parted_89 (by decide) (fun c89 => ?_) (fun c89 => ?_)
      · replace hf := sv_if_t c89 hf
        refine sv_sub (lv' := [(0, .ref h0)]) [0] rfl ?_
        exact w_X9_parted_114 C hZ hR hN _ hf
      · replace hf := sv_if_f c89 hf
        refine sv_sub (lv' := [(0, .ref h0)]) [0] rfl ?_
        exact w_X9_parted_92 C hZ hR hN _ hf
  · replace hf := sv_if_t c5 hf
    refine sv_aload_n 0 C dX9_parted_8 rfl rfl ?_
    refine md_getr C fl_X9_23 (by decide) dX9_parted_9 ?_
    refine sv_bipush (v := 7) C dX9_parted_12 (by decide) ?_
    refine sv_dup2 C dX9_parted_14 rfl rfl ?_
    refine md_iald C 3 rfl (by decide) dX9_parted_15 ?_
    refine sv_aload_n 0 C dX9_parted_16 rfl rfl ?_
    refine md_getr C fl_X9_41 (by decide) dX9_parted_17 ?_
    refine sv_aload_n 0 C dX9_parted_20 rfl rfl ?_
    refine md_geti C fl_X9_254 (by decide) dX9_parted_21 ?_
    obtain ⟨g24, hf⟩ := sv_g_some hf
    refine md_iald C 9 rfl g24 dX9_parted_24 ?_
    refine sv_if_le (tgt := 32) C dX9_parted_25 (by decide) (fun c25 => ?_) (fun c25 => ?_)
    · replace hf := sv_if_t c25 hf
      refine sv_iconst (v := 0) C dX9_parted_32 (by decide) ?_
      refine sv_sub (lv' := [(0, .ref h0)]) [0] rfl ?_
      exact w_X9_parted_33 C hZ hR hN _ _ _ _ hf
    · replace hf := sv_if_f c25 hf
      refine sv_iconst (v := 1) C dX9_parted_28 (by decide) ?_
      refine sv_goto (tgt := 33) C dX9_parted_29 (by decide) ?_
      refine sv_sub (lv' := [(0, .ref h0)]) [0] rfl ?_
      exact w_X9_parted_33 C hZ hR hN _ _ _ _ hf
def f_X9_taken (B : md_B) (x1 : Int32) : Option (md_B) :=
  if x1 = 0 then
    (f_X9_keep B 0 9).bind (fun q32 =>
      some q32)
  else if x1 = 1 then
    (f_X9_keep B 0 2).bind (fun q41 =>
      (f_X9_keep q41 10 14).bind (fun q49 =>
        (f_X9_keep q49 17 17).bind (fun q57 =>
          some q57)))
  else if x1 = 2 then
    (f_X9_keep B 11 12).bind (fun q68 =>
      (f_X9_keep q68 15 17).bind (fun q76 =>
        some q76))
  else 
    (f_X9_parted B).bind (fun q83 =>
      some q83)
set_option maxHeartbeats 4000000 in
set_option maxRecDepth 100000 in
theorem m_X9_taken (l : Launch) (E : sv_E) (h0 : Nat) (ad : Nat → Nat) (sz : Nat) (B : md_B) (x1 : Int32) (q : md_B) (hf : f_X9_taken B x1 = some q) : sv_Met l E yX9_taken cX9_taken 2 none 7 161 [] [.ref h0, .int x1] (md_w E h0 ad B) sz none (md_w E h0 ad q) sz 0 0 := by
  refine sv_ofJ (by decide) (Nat.le_of_ble_eq_true rfl) ?_
  intro X hX hN hnm hR C hZ
  replace C : sv_C E X cX9_taken RX9 [] := C
  show sv_J E X (md_w E h0 ad B) sz 0 0 0 [(0, .ref h0), (1, .int x1)] []
  rw [f_X9_taken] at hf
  refine sv_iload_n 1 C dX9_taken_0 rfl rfl ?_
  by_cases c1_0 : x1 = 0
  · replace hf := sv_if_t c1_0 hf
    refine sv_tswI (v := 0) (tgt := 28) C dX9_taken_1 c1_0 (by decide) (by decide) rfl (by decide) ?_
    refine sv_aload_n 0 C dX9_taken_28 rfl rfl ?_
    refine sv_iconst (v := 0) C dX9_taken_29 (by decide) ?_
    refine sv_bipush (v := 9) C dX9_taken_30 (by decide) ?_
    obtain ⟨q32, hc32, hf⟩ := sv_bind_some hf
    refine sv_callV0 C mv_X9_270 (m_X9_keep (sv_l X) E h0 ad sz _ _ _ _ hc32) sv_sx0 0 rfl rfl rfl rfl (Nat.le_of_ble_eq_true rfl) ⟨by rw [hR]; decide, by rw [hR]; decide⟩ ⟨by rw [hR]; decide, by rw [hR]; decide⟩ dX9_taken_32 ?_
    refine sv_goto (tgt := 86) C dX9_taken_35 (by decide) ?_
    exact sv_vret C (by cases hf; exact hZ) dX9_taken_86
  · replace hf := sv_if_f c1_0 hf
    by_cases c1_1 : x1 = 1
    · replace hf := sv_if_t c1_1 hf
      refine sv_tswI (v := 1) (tgt := 38) C dX9_taken_1 c1_1 (by decide) (by decide) rfl (by decide) ?_
      refine sv_aload_n 0 C dX9_taken_38 rfl rfl ?_
      refine sv_iconst (v := 0) C dX9_taken_39 (by decide) ?_
      refine sv_iconst (v := 2) C dX9_taken_40 (by decide) ?_
      obtain ⟨q41, hc41, hf⟩ := sv_bind_some hf
      refine sv_callV0 C mv_X9_270 (m_X9_keep (sv_l X) E h0 ad sz _ _ _ _ hc41) sv_sx0 0 rfl rfl rfl rfl (Nat.le_of_ble_eq_true rfl) ⟨by rw [hR]; decide, by rw [hR]; decide⟩ ⟨by rw [hR]; decide, by rw [hR]; decide⟩ dX9_taken_41 ?_
      refine sv_aload_n 0 C dX9_taken_44 rfl rfl ?_
      refine sv_bipush (v := 10) C dX9_taken_45 (by decide) ?_
      refine sv_bipush (v := 14) C dX9_taken_47 (by decide) ?_
      obtain ⟨q49, hc49, hf⟩ := sv_bind_some hf
      refine sv_callV0 C mv_X9_270 (m_X9_keep (sv_l X) E h0 ad sz _ _ _ _ hc49) sv_sx0 0 rfl rfl rfl rfl (Nat.le_of_ble_eq_true rfl) ⟨by rw [hR]; decide, by rw [hR]; decide⟩ ⟨by rw [hR]; decide, by rw [hR]; decide⟩ dX9_taken_49 ?_
      refine sv_aload_n 0 C dX9_taken_52 rfl rfl ?_
      refine sv_bipush (v := 17) C dX9_taken_53 (by decide) ?_
      refine sv_bipush (v := 17) C dX9_taken_55 (by decide) ?_
      obtain ⟨q57, hc57, hf⟩ := sv_bind_some hf
      refine sv_callV0 C mv_X9_270 (m_X9_keep (sv_l X) E h0 ad sz _ _ _ _ hc57) sv_sx0 0 rfl rfl rfl rfl (Nat.le_of_ble_eq_true rfl) ⟨by rw [hR]; decide, by rw [hR]; decide⟩ ⟨by rw [hR]; decide, by rw [hR]; decide⟩ dX9_taken_57 ?_
      refine sv_goto (tgt := 86) C dX9_taken_60 (by decide) ?_
      exact sv_vret C (by cases hf; exact hZ) dX9_taken_86
    · replace hf := sv_if_f c1_1 hf
      by_cases c1_2 : x1 = 2
      · replace hf := sv_if_t c1_2 hf
        refine sv_tswI (v := 2) (tgt := 63) C dX9_taken_1 c1_2 (by decide) (by decide) rfl (by decide) ?_
        refine sv_aload_n 0 C dX9_taken_63 rfl rfl ?_
        refine sv_bipush (v := 11) C dX9_taken_64 (by decide) ?_
        refine sv_bipush (v := 12) C dX9_taken_66 (by decide) ?_
        obtain ⟨q68, hc68, hf⟩ := sv_bind_some hf
        refine sv_callV0 C mv_X9_270 (m_X9_keep (sv_l X) E h0 ad sz _ _ _ _ hc68) sv_sx0 0 rfl rfl rfl rfl (Nat.le_of_ble_eq_true rfl) ⟨by rw [hR]; decide, by rw [hR]; decide⟩ ⟨by rw [hR]; decide, by rw [hR]; decide⟩ dX9_taken_68 ?_
        refine sv_aload_n 0 C dX9_taken_71 rfl rfl ?_
        refine sv_bipush (v := 15) C dX9_taken_72 (by decide) ?_
        refine sv_bipush (v := 17) C dX9_taken_74 (by decide) ?_
        obtain ⟨q76, hc76, hf⟩ := sv_bind_some hf
        refine sv_callV0 C mv_X9_270 (m_X9_keep (sv_l X) E h0 ad sz _ _ _ _ hc76) sv_sx0 0 rfl rfl rfl rfl (Nat.le_of_ble_eq_true rfl) ⟨by rw [hR]; decide, by rw [hR]; decide⟩ ⟨by rw [hR]; decide, by rw [hR]; decide⟩ dX9_taken_76 ?_
        refine sv_goto (tgt := 86) C dX9_taken_79 (by decide) ?_
        exact sv_vret C (by cases hf; exact hZ) dX9_taken_86
      · replace hf := sv_if_f c1_2 hf
        have n1_0 : x1.toInt ≠ 0 := fun e => c1_0 (Int32.toInt_inj.mp (e.trans (by decide)))
        have n1_1 : x1.toInt ≠ 1 := fun e => c1_1 (Int32.toInt_inj.mp (e.trans (by decide)))
        have n1_2 : x1.toInt ≠ 2 := fun e => c1_2 (Int32.toInt_inj.mp (e.trans (by decide)))
        refine sv_tswO (tgt := 82) C dX9_taken_1 (by omega) (by decide) ?_
        refine sv_aload_n 0 C dX9_taken_82 rfl rfl ?_
        obtain ⟨q83, hc83, hf⟩ := sv_bind_some hf
        refine sv_callV0 C mv_X9_274 (m_X9_parted (sv_l X) E h0 ad sz _ _ hc83) sv_sx0 0 rfl rfl rfl rfl (Nat.le_of_ble_eq_true rfl) ⟨by rw [hR]; decide, by rw [hR]; decide⟩ ⟨by rw [hR]; decide, by rw [hR]; decide⟩ dX9_taken_83 ?_
        exact sv_vret C (by cases hf; exact hZ) dX9_taken_86
def f_X9_count_28 : Nat → md_B → Int32 → Int32 → Int32 → Option (Int32 × md_B)
  | 0, _, _, _, _ => none
  | n + 1, B, x1, x2, x3 =>
    if 11 ≤ x3 then
      if x1 = 9 then
        some (B.1 28, B)
      else if x1 = 10 then
        some (B.1 2, B)
      else if x1 = 11 then
        some (B.1 4, B)
      else if x1 = 12 then
        if (B.1 5) = 0 then
          some (0, B)
        else
          some (B.1 7, B)
      else if x1 = 13 then
        some (x2, B)
      else 
        some ((-2147483648), B)
    else
      sv_g (sv_inb x3 11) (
        (f_X9_count_28 n) B x1 (x2 + (B.2 22 x3.toNatClampNeg)) (x3 + 1))
def f_X9_count (B : md_B) (x1 : Int32) : Option (Int32 × md_B) :=
  (f_X9_in (md_pf B 0 0) x1.toInt64 0 8).bind (fun q11 =>
    if q11.1 = 0 then
      f_X9_count_28 sv_fu q11.2 x1 0 0
    else
      sv_g (sv_inb x1 9) (
        some (q11.2.2 10 x1.toNatClampNeg, q11.2)))
set_option maxHeartbeats 4000000 in
set_option maxRecDepth 100000 in
theorem w_X9_count_28 {E : sv_E} {X : sv_X} {h0 : Nat} {ad : Nat → Nat} {sz : Nat} {q : Int32 × md_B} (C : sv_C E X cX9_count RX9 []) (hZ : sv_Z E X (some .int) (some (.int q.1)) (md_w E h0 ad q.2) sz 0 0) (hR : sv_R X = { frames := 1, cells := 0, slots := 0, locals := 25 }) (hN : sv_nL X = 4) : ∀ (n : Nat) (B : md_B) (x1 : Int32) (x2 : Int32) (x3 : Int32), f_X9_count_28 n B x1 x2 x3 = some q → sv_J E X (md_w E h0 ad B) sz 0 0 28 [(0, .ref h0), (1, .int x1), (2, .int x2), (3, .int x3)] [] := by
  intro n
  induction n with
  | zero =>
    intro B x1 x2 x3 hf
    rw [f_X9_count_28] at hf
    cases hf
  | succ n ih =>
    intro B x1 x2 x3 hf
    rw [f_X9_count_28] at hf
    refine sv_iload_n 3 C dX9_count_28 rfl rfl ?_
    refine sv_bipush (v := 11) C dX9_count_29 (by decide) ?_
    refine sv_icmp_ge (tgt := 49) C dX9_count_31 (by decide) (fun c31 => ?_) (fun c31 => ?_)
    · replace hf := sv_if_t c31 hf
      refine sv_iload_n 1 C dX9_count_49 rfl rfl ?_
      by_cases c50_9 : x1 = 9
      · replace hf := sv_if_t c50_9 hf
        refine sv_tswI (v := 9) (tgt := 84) C dX9_count_50 c50_9 (by decide) (by decide) rfl (by decide) ?_
        refine sv_aload_n 0 C dX9_count_84 rfl rfl ?_
        refine md_geti C fl_X9_289 (by decide) dX9_count_85 ?_
        exact sv_iret C (by cases hf; exact hZ) dX9_count_88
      · replace hf := sv_if_f c50_9 hf
        by_cases c50_10 : x1 = 10
        · replace hf := sv_if_t c50_10 hf
          refine sv_tswI (v := 10) (tgt := 89) C dX9_count_50 c50_10 (by decide) (by decide) rfl (by decide) ?_
          refine sv_aload_n 0 C dX9_count_89 rfl rfl ?_
          refine md_geti C fl_X9_70 (by decide) dX9_count_90 ?_
          exact sv_iret C (by cases hf; exact hZ) dX9_count_93
        · replace hf := sv_if_f c50_10 hf
          by_cases c50_11 : x1 = 11
          · replace hf := sv_if_t c50_11 hf
            refine sv_tswI (v := 11) (tgt := 94) C dX9_count_50 c50_11 (by decide) (by decide) rfl (by decide) ?_
            refine sv_aload_n 0 C dX9_count_94 rfl rfl ?_
            refine md_geti C fl_X9_338 (by decide) dX9_count_95 ?_
            exact sv_iret C (by cases hf; exact hZ) dX9_count_98
          · replace hf := sv_if_f c50_11 hf
            by_cases c50_12 : x1 = 12
            · replace hf := sv_if_t c50_12 hf
              refine sv_tswI (v := 12) (tgt := 99) C dX9_count_50 c50_12 (by decide) (by decide) rfl (by decide) ?_
              refine sv_aload_n 0 C dX9_count_99 rfl rfl ?_
              refine md_geti C fl_X9_90 (by decide) dX9_count_100 ?_
              refine sv_if_ne (tgt := 110) C dX9_count_103 (by decide) (fun c103 => ?_) (fun c103 => ?_)
              · replace hf := sv_if_f c103 hf
                refine sv_aload_n 0 C dX9_count_110 rfl rfl ?_
                refine md_geti C fl_X9_93 (by decide) dX9_count_111 ?_
                exact sv_iret C (by cases hf; exact hZ) dX9_count_114
              · replace hf := sv_if_t c103 hf
                refine sv_iconst (v := 0) C dX9_count_106 (by decide) ?_
                refine sv_goto (tgt := 114) C dX9_count_107 (by decide) ?_
                exact sv_iret C (by cases hf; exact hZ) dX9_count_114
            · replace hf := sv_if_f c50_12 hf
              by_cases c50_13 : x1 = 13
              · replace hf := sv_if_t c50_13 hf
                refine sv_tswI (v := 13) (tgt := 115) C dX9_count_50 c50_13 (by decide) (by decide) rfl (by decide) ?_
                refine sv_iload_n 2 C dX9_count_115 rfl rfl ?_
                exact sv_iret C (by cases hf; exact hZ) dX9_count_116
              · replace hf := sv_if_f c50_13 hf
                have n50_9 : x1.toInt ≠ 9 := fun e => c50_9 (Int32.toInt_inj.mp (e.trans (by decide)))
                have n50_10 : x1.toInt ≠ 10 := fun e => c50_10 (Int32.toInt_inj.mp (e.trans (by decide)))
                have n50_11 : x1.toInt ≠ 11 := fun e => c50_11 (Int32.toInt_inj.mp (e.trans (by decide)))
                have n50_12 : x1.toInt ≠ 12 := fun e => c50_12 (Int32.toInt_inj.mp (e.trans (by decide)))
                have n50_13 : x1.toInt ≠ 13 := fun e => c50_13 (Int32.toInt_inj.mp (e.trans (by decide)))
                refine sv_tswO (tgt := 117) C dX9_count_50 (by omega) (by decide) ?_
                refine sv_ldc C kw_562 dX9_count_117 ?_
                exact sv_iret C (by cases hf; exact hZ) dX9_count_119
    · replace hf := sv_if_f c31 hf
      refine sv_iload_n 2 C dX9_count_34 rfl rfl ?_
      refine sv_aload_n 0 C dX9_count_35 rfl rfl ?_
      refine md_getr C fl_X9_41 (by decide) dX9_count_36 ?_
      refine sv_iload_n 3 C dX9_count_39 rfl rfl ?_
      obtain ⟨g40, hf⟩ := sv_g_some hf
      refine md_iald C 9 rfl g40 dX9_count_40 ?_
      refine sv_iadd C dX9_count_41 ?_
      refine sv_istore_n (lv' := [(2, .int (x2 + (B.2 22 x3.toNatClampNeg))), (0, .ref h0), (1, .int x1), (3, .int x3)]) C dX9_count_42 rfl (by rw [hN]; decide) rfl ?_
      refine sv_iinc (v := x3 + 1) (lv' := [(3, .int (x3 + 1)), (2, .int (x2 + (B.2 22 x3.toNatClampNeg))), (0, .ref h0), (1, .int x1)]) 3 C dX9_count_43 rfl rfl (by rw [hN]; decide) rfl ?_
      refine sv_goto (tgt := 28) C dX9_count_46 (by decide) ?_
      refine sv_sub (lv' := [(0, .ref h0), (1, .int x1), (2, .int (x2 + (B.2 22 x3.toNatClampNeg))), (3, .int (x3 + 1))]) [2, 3, 1, 0] rfl ?_
      exact ih _ _ _ _ hf
set_option maxHeartbeats 4000000 in
set_option maxRecDepth 100000 in
theorem m_X9_count (l : Launch) (E : sv_E) (h0 : Nat) (ad : Nat → Nat) (sz : Nat) (B : md_B) (x1 : Int32) (q : Int32 × md_B) (hf : f_X9_count B x1 = some q) : sv_Met l E yX9_count cX9_count 4 (some .int) 1 25 [] [.ref h0, .int x1] (md_w E h0 ad B) sz (some (.int q.1)) (md_w E h0 ad q.2) sz 0 0 := by
  refine sv_ofJ (by decide) (Nat.le_of_ble_eq_true rfl) ?_
  intro X hX hN hnm hR C hZ
  replace C : sv_C E X cX9_count RX9 [] := C
  show sv_J E X (md_w E h0 ad B) sz 0 0 0 [(0, .ref h0), (1, .int x1)] []
  rw [f_X9_count] at hf
  refine sv_aload_n 0 C dX9_count_0 rfl rfl ?_
  refine sv_iconst (v := 0) C dX9_count_1 (by decide) ?_
  refine md_puti C fl_X9_1 (by decide) rfl rfl dX9_count_2 ?_
  refine sv_iload_n 1 C dX9_count_5 rfl rfl ?_
  refine sv_i2l C dX9_count_6 ?_
  refine sv_lconst (v := 0) C dX9_count_7 (by decide) ?_
  refine sv_ldc2 C kw_789 dX9_count_8 ?_
  obtain ⟨q11, hc11, hf⟩ := sv_bind_some hf
  refine sv_callS0 C ms_X9_74 (m_X9_in (sv_l X) E h0 ad sz _ _ _ _ _ hc11) sv_sx0 rfl rfl (Nat.le_of_ble_eq_true rfl) ⟨by rw [hR]; decide, by rw [hR]; decide⟩ ⟨by rw [hR]; decide, by rw [hR]; decide⟩ dX9_count_11 ?_
  refine sv_if_eq (tgt := 24) C dX9_count_14 (by decide) (fun c14 => ?_) (fun c14 => ?_)
  · replace hf := sv_if_t c14 hf
    refine sv_iconst (v := 0) C dX9_count_24 (by decide) ?_
    refine sv_istore_n (lv' := [(2, .int 0), (0, .ref h0), (1, .int x1)]) C dX9_count_25 rfl (by rw [hN]; decide) rfl ?_
    refine sv_iconst (v := 0) C dX9_count_26 (by decide) ?_
    refine sv_istore_n (lv' := [(3, .int 0), (2, .int 0), (0, .ref h0), (1, .int x1)]) C dX9_count_27 rfl (by rw [hN]; decide) rfl ?_
    refine sv_sub (lv' := [(0, .ref h0), (1, .int x1), (2, .int 0), (3, .int 0)]) [2, 3, 1, 0] rfl ?_
    exact w_X9_count_28 C hZ hR hN sv_fu _ _ _ _ hf
  · replace hf := sv_if_f c14 hf
    refine sv_aload_n 0 C dX9_count_17 rfl rfl ?_
    refine md_getr C fl_X9_23 (by decide) dX9_count_18 ?_
    refine sv_iload_n 1 C dX9_count_21 rfl rfl ?_
    obtain ⟨g22, hf⟩ := sv_g_some hf
    refine md_iald C 3 rfl g22 dX9_count_22 ?_
    exact sv_iret C (by cases hf; exact hZ) dX9_count_23
def f_X9_fix (B : md_B) (x1 : Int32) : Option (Int32 × md_B) :=
  (f_X9_in (md_pf B 0 0) x1.toInt64 0 17).bind (fun q11 =>
    if q11.1 = 0 then
      (f_X9_refuse q11.2 1).bind (fun q28 =>
        some (q28.1, q28.2))
    else
      sv_g (sv_inb x1 18) (
        some (q11.2.2 16 x1.toNatClampNeg, q11.2)))
set_option maxHeartbeats 4000000 in
set_option maxRecDepth 100000 in
theorem m_X9_fix (l : Launch) (E : sv_E) (h0 : Nat) (ad : Nat → Nat) (sz : Nat) (B : md_B) (x1 : Int32) (q : Int32 × md_B) (hf : f_X9_fix B x1 = some q) : sv_Met l E yX9_fix cX9_fix 2 (some .int) 1 25 [] [.ref h0, .int x1] (md_w E h0 ad B) sz (some (.int q.1)) (md_w E h0 ad q.2) sz 0 0 := by
  refine sv_ofJ (by decide) (Nat.le_of_ble_eq_true rfl) ?_
  intro X hX hN hnm hR C hZ
  replace C : sv_C E X cX9_fix RX9 [] := C
  show sv_J E X (md_w E h0 ad B) sz 0 0 0 [(0, .ref h0), (1, .int x1)] []
  rw [f_X9_fix] at hf
  refine sv_aload_n 0 C dX9_fix_0 rfl rfl ?_
  refine sv_iconst (v := 0) C dX9_fix_1 (by decide) ?_
  refine md_puti C fl_X9_1 (by decide) rfl rfl dX9_fix_2 ?_
  refine sv_iload_n 1 C dX9_fix_5 rfl rfl ?_
  refine sv_i2l C dX9_fix_6 ?_
  refine sv_lconst (v := 0) C dX9_fix_7 (by decide) ?_
  refine sv_ldc2 C kw_791 dX9_fix_8 ?_
  obtain ⟨q11, hc11, hf⟩ := sv_bind_some hf
  refine sv_callS0 C ms_X9_74 (m_X9_in (sv_l X) E h0 ad sz _ _ _ _ _ hc11) sv_sx0 rfl rfl (Nat.le_of_ble_eq_true rfl) ⟨by rw [hR]; decide, by rw [hR]; decide⟩ ⟨by rw [hR]; decide, by rw [hR]; decide⟩ dX9_fix_11 ?_
  refine sv_if_eq (tgt := 26) C dX9_fix_14 (by decide) (fun c14 => ?_) (fun c14 => ?_)
  · replace hf := sv_if_t c14 hf
    refine sv_aload_n 0 C dX9_fix_26 rfl rfl ?_
    refine sv_iconst (v := 1) C dX9_fix_27 (by decide) ?_
    obtain ⟨q28, hc28, hf⟩ := sv_bind_some hf
    refine sv_callV0 C mv_X9_343 (m_X9_refuse (sv_l X) E h0 ad sz _ _ _ hc28) sv_sx0 0 rfl rfl rfl rfl (Nat.le_of_ble_eq_true rfl) ⟨by rw [hR]; decide, by rw [hR]; decide⟩ ⟨by rw [hR]; decide, by rw [hR]; decide⟩ dX9_fix_28 ?_
    exact sv_iret C (by cases hf; exact hZ) dX9_fix_31
  · replace hf := sv_if_f c14 hf
    refine sv_aload_n 0 C dX9_fix_17 rfl rfl ?_
    refine md_getr C fl_X9_35 (by decide) dX9_fix_18 ?_
    refine sv_iload_n 1 C dX9_fix_21 rfl rfl ?_
    obtain ⟨g22, hf⟩ := sv_g_some hf
    refine md_iald C 7 rfl g22 dX9_fix_22 ?_
    refine sv_goto (tgt := 31) C dX9_fix_23 (by decide) ?_
    exact sv_iret C (by cases hf; exact hZ) dX9_fix_31
def f_X9_find (B : md_B) (x1 : Int32) : Option (Int32 × md_B) :=
  (f_X9_found (md_pf B 0 0) x1).bind (fun q7 =>
    some (q7.1, q7.2))
set_option maxHeartbeats 4000000 in
set_option maxRecDepth 100000 in
theorem m_X9_find (l : Launch) (E : sv_E) (h0 : Nat) (ad : Nat → Nat) (sz : Nat) (B : md_B) (x1 : Int32) (q : Int32 × md_B) (hf : f_X9_find B x1 = some q) : sv_Met l E yX9_find cX9_find 2 (some .int) 1 22 [] [.ref h0, .int x1] (md_w E h0 ad B) sz (some (.int q.1)) (md_w E h0 ad q.2) sz 0 0 := by
  refine sv_ofJ (by decide) (Nat.le_of_ble_eq_true rfl) ?_
  intro X hX hN hnm hR C hZ
  replace C : sv_C E X cX9_find RX9 [] := C
  show sv_J E X (md_w E h0 ad B) sz 0 0 0 [(0, .ref h0), (1, .int x1)] []
  rw [f_X9_find] at hf
  refine sv_aload_n 0 C dX9_find_0 rfl rfl ?_
  refine sv_iconst (v := 0) C dX9_find_1 (by decide) ?_
  refine md_puti C fl_X9_1 (by decide) rfl rfl dX9_find_2 ?_
  refine sv_aload_n 0 C dX9_find_5 rfl rfl ?_
  refine sv_iload_n 1 C dX9_find_6 rfl rfl ?_
  obtain ⟨q7, hc7, hf⟩ := sv_bind_some hf
  refine sv_callV0 C mv_X9_294 (m_X9_found (sv_l X) E h0 ad sz _ _ _ hc7) sv_sx0 0 rfl rfl rfl rfl (Nat.le_of_ble_eq_true rfl) ⟨by rw [hR]; decide, by rw [hR]; decide⟩ ⟨by rw [hR]; decide, by rw [hR]; decide⟩ dX9_find_7 ?_
  exact sv_iret C (by cases hf; exact hZ) dX9_find_10
def f_X9_vessel_47 (B : md_B) : Option (Int32 × md_B) :=
  (f_X9_refuse B 1).bind (fun q49 =>
    some (q49.1, q49.2))
def f_X9_vessel_53 (B : md_B) (x1 : Int32) (x2 : Int32) : Option (Int32 × md_B) :=
  if 24 ≤ x2 then
    sv_g (sv_inb (((3 * x1) + x2) - 30) 120) (
      some (B.2 31 (((3 * x1) + x2) - 30).toNatClampNeg, B))
  else
    sv_g (sv_inb ((24 * x1) + x2) 960) (
      some (B.2 29 ((24 * x1) + x2).toNatClampNeg, B))
def f_X9_vessel (B : md_B) (x1 : Int32) (x2 : Int32) : Option (Int32 × md_B) :=
  (f_X9_in (md_pf B 0 0) x1.toInt64 0 ((((md_pf B 0 0).1 28) - 1).toInt64)).bind (fun q15 =>
    if q15.1 = 0 then
      f_X9_vessel_47 q15.2
    else
      (f_X9_in q15.2 x2.toInt64 0 23).bind (fun q27 =>
        if q27.1 = 0 then
          (f_X9_in q27.2 x2.toInt64 30 32).bind (fun q41 =>
            if q41.1 = 0 then
              f_X9_vessel_47 q41.2
            else
              f_X9_vessel_53 q41.2 x1 x2)
        else
          f_X9_vessel_53 q27.2 x1 x2))
set_option maxHeartbeats 4000000 in
set_option maxRecDepth 100000 in
theorem w_X9_vessel_47 {E : sv_E} {X : sv_X} {h0 : Nat} {ad : Nat → Nat} {sz : Nat} {q : Int32 × md_B} (C : sv_C E X cX9_vessel RX9 []) (hZ : sv_Z E X (some .int) (some (.int q.1)) (md_w E h0 ad q.2) sz 0 0) (hR : sv_R X = { frames := 1, cells := 0, slots := 0, locals := 25 }) (hN : sv_nL X = 3) (B : md_B) (hf : f_X9_vessel_47 B = some q) : sv_J E X (md_w E h0 ad B) sz 0 0 47 [(0, .ref h0)] [] := by
  rw [f_X9_vessel_47] at hf
  refine sv_aload_n 0 C dX9_vessel_47 rfl rfl ?_
  refine sv_iconst (v := 1) C dX9_vessel_48 (by decide) ?_
  obtain ⟨q49, hc49, hf⟩ := sv_bind_some hf
  refine sv_callV0 C mv_X9_343 (m_X9_refuse (sv_l X) E h0 ad sz _ _ _ hc49) sv_sx0 0 rfl rfl rfl rfl (Nat.le_of_ble_eq_true rfl) ⟨by rw [hR]; decide, by rw [hR]; decide⟩ ⟨by rw [hR]; decide, by rw [hR]; decide⟩ dX9_vessel_49 ?_
  exact sv_iret C (by cases hf; exact hZ) dX9_vessel_52
set_option maxHeartbeats 4000000 in
set_option maxRecDepth 100000 in
theorem w_X9_vessel_53 {E : sv_E} {X : sv_X} {h0 : Nat} {ad : Nat → Nat} {sz : Nat} {q : Int32 × md_B} (C : sv_C E X cX9_vessel RX9 []) (hZ : sv_Z E X (some .int) (some (.int q.1)) (md_w E h0 ad q.2) sz 0 0) (hR : sv_R X = { frames := 1, cells := 0, slots := 0, locals := 25 }) (hN : sv_nL X = 3) (B : md_B) (x1 : Int32) (x2 : Int32) (hf : f_X9_vessel_53 B x1 x2 = some q) : sv_J E X (md_w E h0 ad B) sz 0 0 53 [(0, .ref h0), (1, .int x1), (2, .int x2)] [] := by
  rw [f_X9_vessel_53] at hf
  refine sv_iload_n 2 C dX9_vessel_53 rfl rfl ?_
  refine sv_bipush (v := 24) C dX9_vessel_54 (by decide) ?_
  refine sv_icmp_ge (tgt := 73) C dX9_vessel_56 (by decide) (fun c56 => ?_) (fun c56 => ?_)
  · replace hf := sv_if_t c56 hf
    refine sv_aload_n 0 C dX9_vessel_73 rfl rfl ?_
    refine md_getr C fl_X9_61 (by decide) dX9_vessel_74 ?_
    refine sv_iconst (v := 3) C dX9_vessel_77 (by decide) ?_
    refine sv_iload_n 1 C dX9_vessel_78 rfl rfl ?_
    refine sv_imul C dX9_vessel_79 ?_
    refine sv_iload_n 2 C dX9_vessel_80 rfl rfl ?_
    refine sv_iadd C dX9_vessel_81 ?_
    refine sv_bipush (v := 30) C dX9_vessel_82 (by decide) ?_
    refine sv_isub C dX9_vessel_84 ?_
    obtain ⟨g85, hf⟩ := sv_g_some hf
    refine md_iald C 15 rfl g85 dX9_vessel_85 ?_
    exact sv_iret C (by cases hf; exact hZ) dX9_vessel_86
  · replace hf := sv_if_f c56 hf
    refine sv_aload_n 0 C dX9_vessel_59 rfl rfl ?_
    refine md_getr C fl_X9_55 (by decide) dX9_vessel_60 ?_
    refine sv_bipush (v := 24) C dX9_vessel_63 (by decide) ?_
    refine sv_iload_n 1 C dX9_vessel_65 rfl rfl ?_
    refine sv_imul C dX9_vessel_66 ?_
    refine sv_iload_n 2 C dX9_vessel_67 rfl rfl ?_
    refine sv_iadd C dX9_vessel_68 ?_
    obtain ⟨g69, hf⟩ := sv_g_some hf
    refine md_iald C 13 rfl g69 dX9_vessel_69 ?_
    refine sv_goto (tgt := 86) C dX9_vessel_70 (by decide) ?_
    exact sv_iret C (by cases hf; exact hZ) dX9_vessel_86
set_option maxHeartbeats 4000000 in
set_option maxRecDepth 100000 in
theorem m_X9_vessel (l : Launch) (E : sv_E) (h0 : Nat) (ad : Nat → Nat) (sz : Nat) (B : md_B) (x1 : Int32) (x2 : Int32) (q : Int32 × md_B) (hf : f_X9_vessel B x1 x2 = some q) : sv_Met l E yX9_vessel cX9_vessel 3 (some .int) 1 25 [] [.ref h0, .int x1, .int x2] (md_w E h0 ad B) sz (some (.int q.1)) (md_w E h0 ad q.2) sz 0 0 := by
  refine sv_ofJ (by decide) (Nat.le_of_ble_eq_true rfl) ?_
  intro X hX hN hnm hR C hZ
  replace C : sv_C E X cX9_vessel RX9 [] := C
  show sv_J E X (md_w E h0 ad B) sz 0 0 0 [(0, .ref h0), (1, .int x1), (2, .int x2)] []
  rw [f_X9_vessel] at hf
  refine sv_aload_n 0 C dX9_vessel_0 rfl rfl ?_
  refine sv_iconst (v := 0) C dX9_vessel_1 (by decide) ?_
  refine md_puti C fl_X9_1 (by decide) rfl rfl dX9_vessel_2 ?_
  refine sv_iload_n 1 C dX9_vessel_5 rfl rfl ?_
  refine sv_i2l C dX9_vessel_6 ?_
  refine sv_lconst (v := 0) C dX9_vessel_7 (by decide) ?_
  refine sv_aload_n 0 C dX9_vessel_8 rfl rfl ?_
  refine md_geti C fl_X9_289 (by decide) dX9_vessel_9 ?_
  refine sv_iconst (v := 1) C dX9_vessel_12 (by decide) ?_
  refine sv_isub C dX9_vessel_13 ?_
  refine sv_i2l C dX9_vessel_14 ?_
  obtain ⟨q15, hc15, hf⟩ := sv_bind_some hf
  refine sv_callS0 C ms_X9_74 (m_X9_in (sv_l X) E h0 ad sz _ _ _ _ _ hc15) sv_sx0 rfl rfl (Nat.le_of_ble_eq_true rfl) ⟨by rw [hR]; decide, by rw [hR]; decide⟩ ⟨by rw [hR]; decide, by rw [hR]; decide⟩ dX9_vessel_15 ?_
  refine sv_if_eq (tgt := 47) C dX9_vessel_18 (by decide) (fun c18 => ?_) (fun c18 => ?_)
  · replace hf := sv_if_t c18 hf
    refine sv_sub (lv' := [(0, .ref h0)]) [0] rfl ?_
    exact w_X9_vessel_47 C hZ hR hN _ hf
  · replace hf := sv_if_f c18 hf
    refine sv_iload_n 2 C dX9_vessel_21 rfl rfl ?_
    refine sv_i2l C dX9_vessel_22 ?_
    refine sv_lconst (v := 0) C dX9_vessel_23 (by decide) ?_
    refine sv_ldc2 C kw_796 dX9_vessel_24 ?_
    obtain ⟨q27, hc27, hf⟩ := sv_bind_some hf
    refine sv_callS0 C ms_X9_74 (m_X9_in (sv_l X) E h0 ad sz _ _ _ _ _ hc27) sv_sx0 rfl rfl (Nat.le_of_ble_eq_true rfl) ⟨by rw [hR]; decide, by rw [hR]; decide⟩ ⟨by rw [hR]; decide, by rw [hR]; decide⟩ dX9_vessel_27 ?_
    refine sv_if_ne (tgt := 53) C dX9_vessel_30 (by decide) (fun c30 => ?_) (fun c30 => ?_)
    · replace hf := sv_if_f c30 hf
      refine sv_sub (lv' := [(0, .ref h0), (1, .int x1), (2, .int x2)]) [0, 1, 2] rfl ?_
      exact w_X9_vessel_53 C hZ hR hN _ _ _ hf
    · replace hf := sv_if_t c30 hf
      refine sv_iload_n 2 C dX9_vessel_33 rfl rfl ?_
      refine sv_i2l C dX9_vessel_34 ?_
      refine sv_ldc2 C kw_797 dX9_vessel_35 ?_
      refine sv_ldc2 C kw_776 dX9_vessel_38 ?_
      obtain ⟨q41, hc41, hf⟩ := sv_bind_some hf
      refine sv_callS0 C ms_X9_74 (m_X9_in (sv_l X) E h0 ad sz _ _ _ _ _ hc41) sv_sx0 rfl rfl (Nat.le_of_ble_eq_true rfl) ⟨by rw [hR]; decide, by rw [hR]; decide⟩ ⟨by rw [hR]; decide, by rw [hR]; decide⟩ dX9_vessel_41 ?_
      refine sv_if_ne (tgt := 53) C dX9_vessel_44 (by decide) (fun c44 => ?_) (fun c44 => ?_)
      · replace hf := sv_if_f c44 hf
        refine sv_sub (lv' := [(0, .ref h0), (1, .int x1), (2, .int x2)]) [0, 1, 2] rfl ?_
        exact w_X9_vessel_53 C hZ hR hN _ _ _ hf
      · replace hf := sv_if_t c44 hf
        refine sv_sub (lv' := [(0, .ref h0)]) [0] rfl ?_
        exact w_X9_vessel_47 C hZ hR hN _ hf
def f_X9_letter (B : md_B) (x1 : Int32) (x2 : Int32) (x3 : Int32) : Option (Int32 × md_B) :=
  (f_X9_in (md_pf B 0 0) x1.toInt64 0 ((((md_pf B 0 0).1 28) - 1).toInt64)).bind (fun q15 =>
    if q15.1 = 0 then
      some ((-2147483648), q15.2)
    else
      (f_X9_in q15.2 x2.toInt64 0 2).bind (fun q27 =>
        if q27.1 = 0 then
          some ((-2147483648), q27.2)
        else
          sv_g (sv_inb ((3 * x1) + x2) 120) (
            (f_X9_in q27.2 x3.toInt64 0 (((q27.2.2 31 ((3 * x1) + x2).toNatClampNeg) - 1).toInt64)).bind (fun q49 =>
              if q49.1 = 0 then
                some ((-2147483648), q49.2)
              else
                sv_g (sv_inb (((60 * x1) + (20 * x2)) + x3) 2400) (
                  some (q49.2.2 30 (((60 * x1) + (20 * x2)) + x3).toNatClampNeg, q49.2))))))
set_option maxHeartbeats 4000000 in
set_option maxRecDepth 100000 in
theorem m_X9_letter (l : Launch) (E : sv_E) (h0 : Nat) (ad : Nat → Nat) (sz : Nat) (B : md_B) (x1 : Int32) (x2 : Int32) (x3 : Int32) (q : Int32 × md_B) (hf : f_X9_letter B x1 x2 x3 = some q) : sv_Met l E yX9_letter cX9_letter 4 (some .int) 1 25 [] [.ref h0, .int x1, .int x2, .int x3] (md_w E h0 ad B) sz (some (.int q.1)) (md_w E h0 ad q.2) sz 0 0 := by
  refine sv_ofJ (by decide) (Nat.le_of_ble_eq_true rfl) ?_
  intro X hX hN hnm hR C hZ
  replace C : sv_C E X cX9_letter RX9 [] := C
  show sv_J E X (md_w E h0 ad B) sz 0 0 0 [(0, .ref h0), (1, .int x1), (2, .int x2), (3, .int x3)] []
  rw [f_X9_letter] at hf
  refine sv_aload_n 0 C dX9_letter_0 rfl rfl ?_
  refine sv_iconst (v := 0) C dX9_letter_1 (by decide) ?_
  refine md_puti C fl_X9_1 (by decide) rfl rfl dX9_letter_2 ?_
  refine sv_iload_n 1 C dX9_letter_5 rfl rfl ?_
  refine sv_i2l C dX9_letter_6 ?_
  refine sv_lconst (v := 0) C dX9_letter_7 (by decide) ?_
  refine sv_aload_n 0 C dX9_letter_8 rfl rfl ?_
  refine md_geti C fl_X9_289 (by decide) dX9_letter_9 ?_
  refine sv_iconst (v := 1) C dX9_letter_12 (by decide) ?_
  refine sv_isub C dX9_letter_13 ?_
  refine sv_i2l C dX9_letter_14 ?_
  obtain ⟨q15, hc15, hf⟩ := sv_bind_some hf
  refine sv_callS0 C ms_X9_74 (m_X9_in (sv_l X) E h0 ad sz _ _ _ _ _ hc15) sv_sx0 rfl rfl (Nat.le_of_ble_eq_true rfl) ⟨by rw [hR]; decide, by rw [hR]; decide⟩ ⟨by rw [hR]; decide, by rw [hR]; decide⟩ dX9_letter_15 ?_
  refine sv_if_eq (tgt := 55) C dX9_letter_18 (by decide) (fun c18 => ?_) (fun c18 => ?_)
  · replace hf := sv_if_t c18 hf
    refine sv_ldc C kw_562 dX9_letter_55 ?_
    exact sv_iret C (by cases hf; exact hZ) dX9_letter_57
  · replace hf := sv_if_f c18 hf
    refine sv_iload_n 2 C dX9_letter_21 rfl rfl ?_
    refine sv_i2l C dX9_letter_22 ?_
    refine sv_lconst (v := 0) C dX9_letter_23 (by decide) ?_
    refine sv_ldc2 C kw_798 dX9_letter_24 ?_
    obtain ⟨q27, hc27, hf⟩ := sv_bind_some hf
    refine sv_callS0 C ms_X9_74 (m_X9_in (sv_l X) E h0 ad sz _ _ _ _ _ hc27) sv_sx0 rfl rfl (Nat.le_of_ble_eq_true rfl) ⟨by rw [hR]; decide, by rw [hR]; decide⟩ ⟨by rw [hR]; decide, by rw [hR]; decide⟩ dX9_letter_27 ?_
    refine sv_if_eq (tgt := 55) C dX9_letter_30 (by decide) (fun c30 => ?_) (fun c30 => ?_)
    · replace hf := sv_if_t c30 hf
      refine sv_ldc C kw_562 dX9_letter_55 ?_
      exact sv_iret C (by cases hf; exact hZ) dX9_letter_57
    · replace hf := sv_if_f c30 hf
      refine sv_iload_n 3 C dX9_letter_33 rfl rfl ?_
      refine sv_i2l C dX9_letter_34 ?_
      refine sv_lconst (v := 0) C dX9_letter_35 (by decide) ?_
      refine sv_aload_n 0 C dX9_letter_36 rfl rfl ?_
      refine md_getr C fl_X9_61 (by decide) dX9_letter_37 ?_
      refine sv_iconst (v := 3) C dX9_letter_40 (by decide) ?_
      refine sv_iload_n 1 C dX9_letter_41 rfl rfl ?_
      refine sv_imul C dX9_letter_42 ?_
      refine sv_iload_n 2 C dX9_letter_43 rfl rfl ?_
      refine sv_iadd C dX9_letter_44 ?_
      obtain ⟨g45, hf⟩ := sv_g_some hf
      refine md_iald C 15 rfl g45 dX9_letter_45 ?_
      refine sv_iconst (v := 1) C dX9_letter_46 (by decide) ?_
      refine sv_isub C dX9_letter_47 ?_
      refine sv_i2l C dX9_letter_48 ?_
      obtain ⟨q49, hc49, hf⟩ := sv_bind_some hf
      refine sv_callS0 C ms_X9_74 (m_X9_in (sv_l X) E h0 ad sz _ _ _ _ _ hc49) sv_sx0 rfl rfl (Nat.le_of_ble_eq_true rfl) ⟨by rw [hR]; decide, by rw [hR]; decide⟩ ⟨by rw [hR]; decide, by rw [hR]; decide⟩ dX9_letter_49 ?_
      refine sv_if_ne (tgt := 58) C dX9_letter_52 (by decide) (fun c52 => ?_) (fun c52 => ?_)
      · replace hf := sv_if_f c52 hf
        refine sv_aload_n 0 C dX9_letter_58 rfl rfl ?_
        refine md_getr C fl_X9_58 (by decide) dX9_letter_59 ?_
        refine sv_bipush (v := 60) C dX9_letter_62 (by decide) ?_
        refine sv_iload_n 1 C dX9_letter_64 rfl rfl ?_
        refine sv_imul C dX9_letter_65 ?_
        refine sv_bipush (v := 20) C dX9_letter_66 (by decide) ?_
        refine sv_iload_n 2 C dX9_letter_68 rfl rfl ?_
        refine sv_imul C dX9_letter_69 ?_
        refine sv_iadd C dX9_letter_70 ?_
        refine sv_iload_n 3 C dX9_letter_71 rfl rfl ?_
        refine sv_iadd C dX9_letter_72 ?_
        obtain ⟨g73, hf⟩ := sv_g_some hf
        refine md_iald C 14 rfl g73 dX9_letter_73 ?_
        exact sv_iret C (by cases hf; exact hZ) dX9_letter_74
      · replace hf := sv_if_t c52 hf
        refine sv_ldc C kw_562 dX9_letter_55 ?_
        exact sv_iret C (by cases hf; exact hZ) dX9_letter_57
def f_X9_bits_42 (B : md_B) : Option (Int32 × md_B) :=
  (f_X9_refuse B 1).bind (fun q44 =>
    some (q44.1, q44.2))
def f_X9_bits (B : md_B) (x1 : Int32) (x2 : Int32) : Option (Int32 × md_B) :=
  if ((md_pf B 0 0).1 27) = 0 then
    f_X9_bits_42 (md_pf B 0 0)
  else
    (f_X9_in (md_pf B 0 0) x2.toInt64 1 32).bind (fun q18 =>
      if q18.1 = 0 then
        f_X9_bits_42 q18.2
      else
        if x1 < 0 then
          f_X9_bits_42 q18.2
        else
          if (lg_cmp (x1.toInt64 + x2.toInt64) ((q18.2.1 26).toInt64)) ≤ 0 then
            (f_X9_read q18.2 x1 x2).bind (fun q51 =>
              some (q51.1, q51.2))
          else
            f_X9_bits_42 q18.2)
set_option maxHeartbeats 4000000 in
set_option maxRecDepth 100000 in
theorem w_X9_bits_42 {E : sv_E} {X : sv_X} {h0 : Nat} {ad : Nat → Nat} {sz : Nat} {q : Int32 × md_B} (C : sv_C E X cX9_bits RX9 []) (hZ : sv_Z E X (some .int) (some (.int q.1)) (md_w E h0 ad q.2) sz 0 0) (hR : sv_R X = { frames := 1, cells := 0, slots := 0, locals := 25 }) (hN : sv_nL X = 3) (B : md_B) (hf : f_X9_bits_42 B = some q) : sv_J E X (md_w E h0 ad B) sz 0 0 42 [(0, .ref h0)] [] := by
  rw [f_X9_bits_42] at hf
  refine sv_aload_n 0 C dX9_bits_42 rfl rfl ?_
  refine sv_iconst (v := 1) C dX9_bits_43 (by decide) ?_
  obtain ⟨q44, hc44, hf⟩ := sv_bind_some hf
  refine sv_callV0 C mv_X9_343 (m_X9_refuse (sv_l X) E h0 ad sz _ _ _ hc44) sv_sx0 0 rfl rfl rfl rfl (Nat.le_of_ble_eq_true rfl) ⟨by rw [hR]; decide, by rw [hR]; decide⟩ ⟨by rw [hR]; decide, by rw [hR]; decide⟩ dX9_bits_44 ?_
  exact sv_iret C (by cases hf; exact hZ) dX9_bits_47
set_option maxHeartbeats 4000000 in
set_option maxRecDepth 100000 in
theorem m_X9_bits (l : Launch) (E : sv_E) (h0 : Nat) (ad : Nat → Nat) (sz : Nat) (B : md_B) (x1 : Int32) (x2 : Int32) (q : Int32 × md_B) (hf : f_X9_bits B x1 x2 = some q) : sv_Met l E yX9_bits cX9_bits 3 (some .int) 1 25 [] [.ref h0, .int x1, .int x2] (md_w E h0 ad B) sz (some (.int q.1)) (md_w E h0 ad q.2) sz 0 0 := by
  refine sv_ofJ (by decide) (Nat.le_of_ble_eq_true rfl) ?_
  intro X hX hN hnm hR C hZ
  replace C : sv_C E X cX9_bits RX9 [] := C
  show sv_J E X (md_w E h0 ad B) sz 0 0 0 [(0, .ref h0), (1, .int x1), (2, .int x2)] []
  rw [f_X9_bits] at hf
  refine sv_aload_n 0 C dX9_bits_0 rfl rfl ?_
  refine sv_iconst (v := 0) C dX9_bits_1 (by decide) ?_
  refine md_puti C fl_X9_1 (by decide) rfl rfl dX9_bits_2 ?_
  refine sv_aload_n 0 C dX9_bits_5 rfl rfl ?_
  refine md_geti C fl_X9_280 (by decide) dX9_bits_6 ?_
  refine sv_if_eq (tgt := 42) C dX9_bits_9 (by decide) (fun c9 => ?_) (fun c9 => ?_)
  · replace hf := sv_if_t c9 hf
    refine sv_sub (lv' := [(0, .ref h0)]) [0] rfl ?_
    exact w_X9_bits_42 C hZ hR hN _ hf
  · replace hf := sv_if_f c9 hf
    refine sv_iload_n 2 C dX9_bits_12 rfl rfl ?_
    refine sv_i2l C dX9_bits_13 ?_
    refine sv_lconst (v := 1) C dX9_bits_14 (by decide) ?_
    refine sv_ldc2 C kw_776 dX9_bits_15 ?_
    obtain ⟨q18, hc18, hf⟩ := sv_bind_some hf
    refine sv_callS0 C ms_X9_74 (m_X9_in (sv_l X) E h0 ad sz _ _ _ _ _ hc18) sv_sx0 rfl rfl (Nat.le_of_ble_eq_true rfl) ⟨by rw [hR]; decide, by rw [hR]; decide⟩ ⟨by rw [hR]; decide, by rw [hR]; decide⟩ dX9_bits_18 ?_
    refine sv_if_eq (tgt := 42) C dX9_bits_21 (by decide) (fun c21 => ?_) (fun c21 => ?_)
    · replace hf := sv_if_t c21 hf
      refine sv_sub (lv' := [(0, .ref h0)]) [0] rfl ?_
      exact w_X9_bits_42 C hZ hR hN _ hf
    · replace hf := sv_if_f c21 hf
      refine sv_iload_n 1 C dX9_bits_24 rfl rfl ?_
      refine sv_if_lt (tgt := 42) C dX9_bits_25 (by decide) (fun c25 => ?_) (fun c25 => ?_)
      · replace hf := sv_if_t c25 hf
        refine sv_sub (lv' := [(0, .ref h0)]) [0] rfl ?_
        exact w_X9_bits_42 C hZ hR hN _ hf
      · replace hf := sv_if_f c25 hf
        refine sv_iload_n 1 C dX9_bits_28 rfl rfl ?_
        refine sv_i2l C dX9_bits_29 ?_
        refine sv_iload_n 2 C dX9_bits_30 rfl rfl ?_
        refine sv_i2l C dX9_bits_31 ?_
        refine sv_ladd C dX9_bits_32 ?_
        refine sv_aload_n 0 C dX9_bits_33 rfl rfl ?_
        refine md_geti C fl_X9_277 (by decide) dX9_bits_34 ?_
        refine sv_i2l C dX9_bits_37 ?_
        refine sv_lcmp C dX9_bits_38 ?_
        refine sv_if_le (tgt := 48) C dX9_bits_39 (by decide) (fun c39 => ?_) (fun c39 => ?_)
        · replace hf := sv_if_t c39 hf
          refine sv_aload_n 0 C dX9_bits_48 rfl rfl ?_
          refine sv_iload_n 1 C dX9_bits_49 rfl rfl ?_
          refine sv_iload_n 2 C dX9_bits_50 rfl rfl ?_
          obtain ⟨q51, hc51, hf⟩ := sv_bind_some hf
          refine sv_callV0 C mv_X9_286 (m_X9_read (sv_l X) E h0 ad sz _ _ _ _ hc51) sv_sx0 0 rfl rfl rfl rfl (Nat.le_of_ble_eq_true rfl) ⟨by rw [hR]; decide, by rw [hR]; decide⟩ ⟨by rw [hR]; decide, by rw [hR]; decide⟩ dX9_bits_51 ?_
          exact sv_iret C (by cases hf; exact hZ) dX9_bits_54
        · replace hf := sv_if_f c39 hf
          refine sv_sub (lv' := [(0, .ref h0)]) [0] rfl ?_
          exact w_X9_bits_42 C hZ hR hN _ hf
def f_X9_write_37 (B : md_B) (s0 : Int32) : Option (md_B) :=
  some (md_pf B 37 s0)
def f_X9_write (B : md_B) (x1 : Int32) : Option (md_B) :=
  sv_g (sv_inb (B.1 4) 200) (
    if x1 = 33 then
      f_X9_write_37 (md_pf (md_pa B 3 (B.1 4) x1) 4 (((md_pa B 3 (B.1 4) x1).1 4) + 1)) 0
    else
      f_X9_write_37 (md_pf (md_pa B 3 (B.1 4) x1) 4 (((md_pa B 3 (B.1 4) x1).1 4) + 1)) (((md_pf (md_pa B 3 (B.1 4) x1) 4 (((md_pa B 3 (B.1 4) x1).1 4) + 1)).1 37) ^^^ x1))
set_option maxHeartbeats 4000000 in
set_option maxRecDepth 100000 in
theorem w_X9_write_37 {E : sv_E} {X : sv_X} {h0 : Nat} {ad : Nat → Nat} {sz : Nat} {q : md_B} (C : sv_C E X cX9_write RX9 []) (hZ : sv_Z E X none none (md_w E h0 ad q) sz 0 0) (hR : sv_R X = { frames := 0, cells := 0, slots := 0, locals := 0 }) (hN : sv_nL X = 2) (B : md_B) (s0 : Int32) (hf : f_X9_write_37 B s0 = some q) : sv_J E X (md_w E h0 ad B) sz 0 0 37 [] [.int s0, .ref h0] := by
  rw [f_X9_write_37] at hf
  refine md_puti C fl_X9_355 (by decide) rfl rfl dX9_write_37 ?_
  exact sv_vret C (by cases hf; exact hZ) dX9_write_40
set_option maxHeartbeats 4000000 in
set_option maxRecDepth 100000 in
theorem m_X9_write (l : Launch) (E : sv_E) (h0 : Nat) (ad : Nat → Nat) (sz : Nat) (B : md_B) (x1 : Int32) (q : md_B) (hf : f_X9_write B x1 = some q) : sv_Met l E yX9_write cX9_write 2 none 0 0 [] [.ref h0, .int x1] (md_w E h0 ad B) sz none (md_w E h0 ad q) sz 0 0 := by
  refine sv_ofJ (by decide) (Nat.le_of_ble_eq_true rfl) ?_
  intro X hX hN hnm hR C hZ
  replace C : sv_C E X cX9_write RX9 [] := C
  show sv_J E X (md_w E h0 ad B) sz 0 0 0 [(0, .ref h0), (1, .int x1)] []
  rw [f_X9_write] at hf
  refine sv_aload_n 0 C dX9_write_0 rfl rfl ?_
  refine md_getr C fl_X9_17 (by decide) dX9_write_1 ?_
  refine sv_aload_n 0 C dX9_write_4 rfl rfl ?_
  refine md_geti C fl_X9_338 (by decide) dX9_write_5 ?_
  refine sv_iload_n 1 C dX9_write_8 rfl rfl ?_
  obtain ⟨g9, hf⟩ := sv_g_some hf
  refine md_iast C 1 rfl g9 dX9_write_9 ?_
  refine sv_aload_n 0 C dX9_write_10 rfl rfl ?_
  refine sv_dup C dX9_write_11 rfl ?_
  refine md_geti C fl_X9_338 (by decide) dX9_write_12 ?_
  refine sv_iconst (v := 1) C dX9_write_15 (by decide) ?_
  refine sv_iadd C dX9_write_16 ?_
  refine md_puti C fl_X9_338 (by decide) rfl rfl dX9_write_17 ?_
  refine sv_aload_n 0 C dX9_write_20 rfl rfl ?_
  refine sv_iload_n 1 C dX9_write_21 rfl rfl ?_
  refine sv_bipush (v := 33) C dX9_write_22 (by decide) ?_
  refine sv_icmp_ne (tgt := 31) C dX9_write_24 (by decide) (fun c24 => ?_) (fun c24 => ?_)
  · replace hf := sv_if_f c24 hf
    refine sv_aload_n 0 C dX9_write_31 rfl rfl ?_
    refine md_geti C fl_X9_355 (by decide) dX9_write_32 ?_
    refine sv_iload_n 1 C dX9_write_35 rfl rfl ?_
    refine sv_ixor C dX9_write_36 ?_
    refine sv_sub (lv' := []) [] rfl ?_
    exact w_X9_write_37 C hZ hR hN _ _ hf
  · replace hf := sv_if_t c24 hf
    refine sv_iconst (v := 0) C dX9_write_27 (by decide) ?_
    refine sv_goto (tgt := 37) C dX9_write_28 (by decide) ?_
    refine sv_sub (lv' := []) [] rfl ?_
    exact w_X9_write_37 C hZ hR hN _ _ hf
def f_X9_hexOf (B : md_B) (x0 : Int32) : Option (Int32 × md_B) :=
  if 10 ≤ x0 then
    some ((65 + x0) - 10, B)
  else
    some (48 + x0, B)
set_option maxHeartbeats 4000000 in
set_option maxRecDepth 100000 in
theorem m_X9_hexOf (l : Launch) (E : sv_E) (h0 : Nat) (ad : Nat → Nat) (sz : Nat) (B : md_B) (x0 : Int32) (q : Int32 × md_B) (hf : f_X9_hexOf B x0 = some q) : sv_Met l E yX9_hexOf cX9_hexOf 1 (some .int) 0 0 [] [.int x0] (md_w E h0 ad B) sz (some (.int q.1)) (md_w E h0 ad q.2) sz 0 0 := by
  refine sv_ofJ (by decide) (Nat.le_of_ble_eq_true rfl) ?_
  intro X hX hN hnm hR C hZ
  replace C : sv_C E X cX9_hexOf RX9 [] := C
  show sv_J E X (md_w E h0 ad B) sz 0 0 0 [(0, .int x0)] []
  rw [f_X9_hexOf] at hf
  refine sv_iload_n 0 C dX9_hexOf_0 rfl rfl ?_
  refine sv_bipush (v := 10) C dX9_hexOf_1 (by decide) ?_
  refine sv_icmp_ge (tgt := 13) C dX9_hexOf_3 (by decide) (fun c3 => ?_) (fun c3 => ?_)
  · replace hf := sv_if_t c3 hf
    refine sv_bipush (v := 65) C dX9_hexOf_13 (by decide) ?_
    refine sv_iload_n 0 C dX9_hexOf_15 rfl rfl ?_
    refine sv_iadd C dX9_hexOf_16 ?_
    refine sv_bipush (v := 10) C dX9_hexOf_17 (by decide) ?_
    refine sv_isub C dX9_hexOf_19 ?_
    exact sv_iret C (by cases hf; exact hZ) dX9_hexOf_20
  · replace hf := sv_if_f c3 hf
    refine sv_bipush (v := 48) C dX9_hexOf_6 (by decide) ?_
    refine sv_iload_n 0 C dX9_hexOf_8 rfl rfl ?_
    refine sv_iadd C dX9_hexOf_9 ?_
    refine sv_goto (tgt := 20) C dX9_hexOf_10 (by decide) ?_
    exact sv_iret C (by cases hf; exact hZ) dX9_hexOf_20
def f_X9_out (B : md_B) (x1 : Int32) : Option (Int32 × md_B) :=
  (f_X9_in (md_pf B 0 0) x1.toInt64 0 ((((md_pf B 0 0).1 4) - 1).toInt64)).bind (fun q15 =>
    if q15.1 = 0 then
      some ((-2147483648), q15.2)
    else
      sv_g (sv_inb x1 200) (
        some (q15.2.2 3 x1.toNatClampNeg, q15.2)))
set_option maxHeartbeats 4000000 in
set_option maxRecDepth 100000 in
theorem m_X9_out (l : Launch) (E : sv_E) (h0 : Nat) (ad : Nat → Nat) (sz : Nat) (B : md_B) (x1 : Int32) (q : Int32 × md_B) (hf : f_X9_out B x1 = some q) : sv_Met l E yX9_out cX9_out 2 (some .int) 1 25 [] [.ref h0, .int x1] (md_w E h0 ad B) sz (some (.int q.1)) (md_w E h0 ad q.2) sz 0 0 := by
  refine sv_ofJ (by decide) (Nat.le_of_ble_eq_true rfl) ?_
  intro X hX hN hnm hR C hZ
  replace C : sv_C E X cX9_out RX9 [] := C
  show sv_J E X (md_w E h0 ad B) sz 0 0 0 [(0, .ref h0), (1, .int x1)] []
  rw [f_X9_out] at hf
  refine sv_aload_n 0 C dX9_out_0 rfl rfl ?_
  refine sv_iconst (v := 0) C dX9_out_1 (by decide) ?_
  refine md_puti C fl_X9_1 (by decide) rfl rfl dX9_out_2 ?_
  refine sv_iload_n 1 C dX9_out_5 rfl rfl ?_
  refine sv_i2l C dX9_out_6 ?_
  refine sv_lconst (v := 0) C dX9_out_7 (by decide) ?_
  refine sv_aload_n 0 C dX9_out_8 rfl rfl ?_
  refine md_geti C fl_X9_338 (by decide) dX9_out_9 ?_
  refine sv_iconst (v := 1) C dX9_out_12 (by decide) ?_
  refine sv_isub C dX9_out_13 ?_
  refine sv_i2l C dX9_out_14 ?_
  obtain ⟨q15, hc15, hf⟩ := sv_bind_some hf
  refine sv_callS0 C ms_X9_74 (m_X9_in (sv_l X) E h0 ad sz _ _ _ _ _ hc15) sv_sx0 rfl rfl (Nat.le_of_ble_eq_true rfl) ⟨by rw [hR]; decide, by rw [hR]; decide⟩ ⟨by rw [hR]; decide, by rw [hR]; decide⟩ dX9_out_15 ?_
  refine sv_if_eq (tgt := 30) C dX9_out_18 (by decide) (fun c18 => ?_) (fun c18 => ?_)
  · replace hf := sv_if_t c18 hf
    refine sv_ldc C kw_562 dX9_out_30 ?_
    exact sv_iret C (by cases hf; exact hZ) dX9_out_32
  · replace hf := sv_if_f c18 hf
    refine sv_aload_n 0 C dX9_out_21 rfl rfl ?_
    refine md_getr C fl_X9_17 (by decide) dX9_out_22 ?_
    refine sv_iload_n 1 C dX9_out_25 rfl rfl ?_
    obtain ⟨g26, hf⟩ := sv_g_some hf
    refine md_iald C 1 rfl g26 dX9_out_26 ?_
    refine sv_goto (tgt := 32) C dX9_out_27 (by decide) ?_
    exact sv_iret C (by cases hf; exact hZ) dX9_out_32
def f_X9_again_25 : Nat → md_B → Int32 → Option (Int32 × md_B)
  | 0, _, _ => none
  | n + 1, B, x1 =>
    if (B.1 4) ≤ x1 then
      some (B.1 2, B)
    else
      sv_g (sv_inb x1 200) (
        sv_g (sv_inb (B.1 2) 2000) (
          (f_X9_again_25 n) (md_pf (md_pa B 1 (B.1 2) (B.2 3 x1.toNatClampNeg)) 2 (((md_pa B 1 (B.1 2) (B.2 3 x1.toNatClampNeg)).1 2) + 1)) (x1 + 1)))
def f_X9_again (B : md_B) : Option (Int32 × md_B) :=
  if (((md_pf B 0 0).1 2) + ((md_pf B 0 0).1 4)) ≤ 2000 then
    f_X9_again_25 sv_fu (md_pf B 0 0) 0
  else
    some ((-2147483648), md_pf B 0 0)
set_option maxHeartbeats 4000000 in
set_option maxRecDepth 100000 in
theorem w_X9_again_25 {E : sv_E} {X : sv_X} {h0 : Nat} {ad : Nat → Nat} {sz : Nat} {q : Int32 × md_B} (C : sv_C E X cX9_again RX9 []) (hZ : sv_Z E X (some .int) (some (.int q.1)) (md_w E h0 ad q.2) sz 0 0) (hR : sv_R X = { frames := 0, cells := 0, slots := 0, locals := 0 }) (hN : sv_nL X = 2) : ∀ (n : Nat) (B : md_B) (x1 : Int32), f_X9_again_25 n B x1 = some q → sv_J E X (md_w E h0 ad B) sz 0 0 25 [(0, .ref h0), (1, .int x1)] [] := by
  intro n
  induction n with
  | zero =>
    intro B x1 hf
    rw [f_X9_again_25] at hf
    cases hf
  | succ n ih =>
    intro B x1 hf
    rw [f_X9_again_25] at hf
    refine sv_iload_n 1 C dX9_again_25 rfl rfl ?_
    refine sv_aload_n 0 C dX9_again_26 rfl rfl ?_
    refine md_geti C fl_X9_338 (by decide) dX9_again_27 ?_
    refine sv_icmp_ge (tgt := 64) C dX9_again_30 (by decide) (fun c30 => ?_) (fun c30 => ?_)
    · replace hf := sv_if_t c30 hf
      refine sv_aload_n 0 C dX9_again_64 rfl rfl ?_
      refine md_geti C fl_X9_70 (by decide) dX9_again_65 ?_
      exact sv_iret C (by cases hf; exact hZ) dX9_again_68
    · replace hf := sv_if_f c30 hf
      refine sv_aload_n 0 C dX9_again_33 rfl rfl ?_
      refine md_getr C fl_X9_13 (by decide) dX9_again_34 ?_
      refine sv_aload_n 0 C dX9_again_37 rfl rfl ?_
      refine md_geti C fl_X9_70 (by decide) dX9_again_38 ?_
      refine sv_aload_n 0 C dX9_again_41 rfl rfl ?_
      refine md_getr C fl_X9_17 (by decide) dX9_again_42 ?_
      refine sv_iload_n 1 C dX9_again_45 rfl rfl ?_
      obtain ⟨g46, hf⟩ := sv_g_some hf
      refine md_iald C 1 rfl g46 dX9_again_46 ?_
      obtain ⟨g47, hf⟩ := sv_g_some hf
      refine md_iast C 0 rfl g47 dX9_again_47 ?_
      refine sv_aload_n 0 C dX9_again_48 rfl rfl ?_
      refine sv_dup C dX9_again_49 rfl ?_
      refine md_geti C fl_X9_70 (by decide) dX9_again_50 ?_
      refine sv_iconst (v := 1) C dX9_again_53 (by decide) ?_
      refine sv_iadd C dX9_again_54 ?_
      refine md_puti C fl_X9_70 (by decide) rfl rfl dX9_again_55 ?_
      refine sv_iinc (v := x1 + 1) (lv' := [(1, .int (x1 + 1)), (0, .ref h0)]) 1 C dX9_again_58 rfl rfl (by rw [hN]; decide) rfl ?_
      refine sv_goto (tgt := 25) C dX9_again_61 (by decide) ?_
      refine sv_sub (lv' := [(0, .ref h0), (1, .int (x1 + 1))]) [1, 0] rfl ?_
      exact ih _ _ hf
set_option maxHeartbeats 4000000 in
set_option maxRecDepth 100000 in
theorem m_X9_again (l : Launch) (E : sv_E) (h0 : Nat) (ad : Nat → Nat) (sz : Nat) (B : md_B) (q : Int32 × md_B) (hf : f_X9_again B = some q) : sv_Met l E yX9_again cX9_again 2 (some .int) 0 0 [] [.ref h0] (md_w E h0 ad B) sz (some (.int q.1)) (md_w E h0 ad q.2) sz 0 0 := by
  refine sv_ofJ (by decide) (Nat.le_of_ble_eq_true rfl) ?_
  intro X hX hN hnm hR C hZ
  replace C : sv_C E X cX9_again RX9 [] := C
  show sv_J E X (md_w E h0 ad B) sz 0 0 0 [(0, .ref h0)] []
  rw [f_X9_again] at hf
  refine sv_aload_n 0 C dX9_again_0 rfl rfl ?_
  refine sv_iconst (v := 0) C dX9_again_1 (by decide) ?_
  refine md_puti C fl_X9_1 (by decide) rfl rfl dX9_again_2 ?_
  refine sv_aload_n 0 C dX9_again_5 rfl rfl ?_
  refine md_geti C fl_X9_70 (by decide) dX9_again_6 ?_
  refine sv_aload_n 0 C dX9_again_9 rfl rfl ?_
  refine md_geti C fl_X9_338 (by decide) dX9_again_10 ?_
  refine sv_iadd C dX9_again_13 ?_
  refine sv_sipush (v := 2000) C dX9_again_14 (by decide) ?_
  refine sv_icmp_le (tgt := 23) C dX9_again_17 (by decide) (fun c17 => ?_) (fun c17 => ?_)
  · replace hf := sv_if_t c17 hf
    refine sv_iconst (v := 0) C dX9_again_23 (by decide) ?_
    refine sv_istore_n (lv' := [(1, .int 0), (0, .ref h0)]) C dX9_again_24 rfl (by rw [hN]; decide) rfl ?_
    refine sv_sub (lv' := [(0, .ref h0), (1, .int 0)]) [1, 0] rfl ?_
    exact w_X9_again_25 C hZ hR hN sv_fu _ _ hf
  · replace hf := sv_if_f c17 hf
    refine sv_ldc C kw_562 dX9_again_20 ?_
    exact sv_iret C (by cases hf; exact hZ) dX9_again_22
def f_X9_clear (B : md_B) : Option (md_B) :=
  (f_X9_forget (md_pf B 0 0)).bind (fun q6 =>
    some q6)
set_option maxHeartbeats 4000000 in
set_option maxRecDepth 100000 in
theorem m_X9_clear (l : Launch) (E : sv_E) (h0 : Nat) (ad : Nat → Nat) (sz : Nat) (B : md_B) (q : md_B) (hf : f_X9_clear B = some q) : sv_Met l E yX9_clear cX9_clear 1 none 1 21 [] [.ref h0] (md_w E h0 ad B) sz none (md_w E h0 ad q) sz 0 0 := by
  refine sv_ofJ (by decide) (Nat.le_of_ble_eq_true rfl) ?_
  intro X hX hN hnm hR C hZ
  replace C : sv_C E X cX9_clear RX9 [] := C
  show sv_J E X (md_w E h0 ad B) sz 0 0 0 [(0, .ref h0)] []
  rw [f_X9_clear] at hf
  refine sv_aload_n 0 C dX9_clear_0 rfl rfl ?_
  refine sv_iconst (v := 0) C dX9_clear_1 (by decide) ?_
  refine md_puti C fl_X9_1 (by decide) rfl rfl dX9_clear_2 ?_
  refine sv_aload_n 0 C dX9_clear_5 rfl rfl ?_
  obtain ⟨q6, hc6, hf⟩ := sv_bind_some hf
  refine sv_callV0 C mv_X9_67 (m_X9_forget (sv_l X) E h0 ad sz _ _ hc6) sv_sx0 0 rfl rfl rfl rfl (Nat.le_of_ble_eq_true rfl) ⟨by rw [hR]; decide, by rw [hR]; decide⟩ ⟨by rw [hR]; decide, by rw [hR]; decide⟩ dX9_clear_6 ?_
  exact sv_vret C (by cases hf; exact hZ) dX9_clear_9
