def f_X9_reports (B : md_B) (x1 : Int32) (x2 : Int32) : Option (md_B) :=
  if 4 ≤ x2 then
    if x2 = 4 then
      (f_X9_go (md_pf (md_pf B 34 x1) 32 38) 11 14 0).bind (fun q67 =>
        (f_X9_go q67 12 4 0).bind (fun q75 =>
          (f_X9_go q75 13 5 0).bind (fun q83 =>
            (f_X9_go q83 14 5 0).bind (fun q91 =>
              (f_X9_go q91 15 6 0).bind (fun q100 =>
                (f_X9_go q100 10 6 0).bind (fun q109 =>
                  (f_X9_where q109).bind (fun q113 =>
                    (f_X9_skip q113 34).bind (fun q119 =>
                      some (q119)))))))))
    else
      if x2 = 18 then
        (f_X9_skip (md_pf (md_pf B 34 x1) 32 38) 8).bind (fun q134 =>
          (f_X9_go q134 4 10 0).bind (fun q142 =>
            (f_X9_where q142).bind (fun q146 =>
              (f_X9_way q146).bind (fun q150 =>
                (f_X9_skip q150 29).bind (fun q156 =>
                  some (q156))))))
      else
        (f_X9_still (md_pf (md_pf B 34 x1) 32 38)).bind (fun q163 =>
          some (q163))
  else
    (f_X9_go (md_pf (md_pf B 34 x1) 32 38) 2 4 0).bind (fun q20 =>
      (f_X9_go q20 3 8 1).bind (fun q28 =>
        (f_X9_go q28 4 10 0).bind (fun q36 =>
          (f_X9_where q36).bind (fun q40 =>
            (f_X9_way q40).bind (fun q44 =>
              (f_X9_skip q44 25).bind (fun q50 =>
                some (q50)))))))
set_option maxHeartbeats 4000000 in
set_option maxRecDepth 100000 in
theorem m_X9_reports (l : Launch) (E : sv_E) (h0 : Nat) (ad : Nat → Nat) (sz : Nat) (B : md_B) (x1 : Int32) (x2 : Int32) (q : md_B) (hf : f_X9_reports B x1 x2 = some q) : sv_Met l E yX9_reports cX9_reports 3 none 4 90 [] [.ref h0, .int x1, .int x2] (md_w E h0 ad B) sz none (md_w E h0 ad q) sz 0 0 := by
  refine sv_ofJ (by decide) (Nat.le_of_ble_eq_true rfl) ?_
  intro X hX hN hnm hR C hZ
  replace C : sv_C E X cX9_reports RX9 [] := C
  show sv_J E X (md_w E h0 ad B) sz 0 0 0 [(0, .ref h0), (1, .int x1), (2, .int x2)] []
  rw [f_X9_reports] at hf
  refine sv_aload_n 0 C dX9_reports_0 rfl rfl ?_
  refine sv_iload_n 1 C dX9_reports_1 rfl rfl ?_
  refine md_puti C fl_X9_300 (by decide) rfl rfl dX9_reports_2 ?_
  refine sv_aload_n 0 C dX9_reports_5 rfl rfl ?_
  refine sv_bipush (v := 38) C dX9_reports_6 (by decide) ?_
  refine md_puti C fl_X9_306 (by decide) rfl rfl dX9_reports_8 ?_
  refine sv_iload_n 2 C dX9_reports_11 rfl rfl ?_
  refine sv_iconst (v := 4) C dX9_reports_12 (by decide) ?_
  refine sv_icmp_ge (tgt := 56) C dX9_reports_13 (by decide) (fun c13 => ?_) (fun c13 => ?_)
  · replace hf := sv_if_t c13 hf
    refine sv_iload_n 2 C dX9_reports_56 rfl rfl ?_
    refine sv_iconst (v := 4) C dX9_reports_57 (by decide) ?_
    refine sv_icmp_ne (tgt := 125) C dX9_reports_58 (by decide) (fun c58 => ?_) (fun c58 => ?_)
    · replace hf := sv_if_f c58 hf
      refine sv_iload_n 2 C dX9_reports_125 rfl rfl ?_
      refine sv_bipush (v := 18) C dX9_reports_126 (by decide) ?_
      refine sv_icmp_ne (tgt := 162) C dX9_reports_128 (by decide) (fun c128 => ?_) (fun c128 => ?_)
      · replace hf := sv_if_f c128 hf
        refine sv_aload_n 0 C dX9_reports_162 rfl rfl ?_
        obtain ⟨q163, hc163, hf⟩ := sv_bind_some hf
        refine sv_callV0 C mv_X9_330 (m_X9_still (sv_l X) E h0 ad sz _ _ hc163) sv_sx0 0 rfl rfl rfl rfl (Nat.le_of_ble_eq_true rfl) ⟨by rw [hR]; decide, by rw [hR]; decide⟩ ⟨by rw [hR]; decide, by rw [hR]; decide⟩ dX9_reports_163 ?_
        exact sv_vret C (by cases hf; exact hZ) dX9_reports_166
      · replace hf := sv_if_t c128 hf
        refine sv_aload_n 0 C dX9_reports_131 rfl rfl ?_
        refine sv_bipush (v := 8) C dX9_reports_132 (by decide) ?_
        obtain ⟨q134, hc134, hf⟩ := sv_bind_some hf
        refine sv_callV0 C mv_X9_327 (m_X9_skip (sv_l X) E h0 ad sz _ _ _ hc134) sv_sx0 0 rfl rfl rfl rfl (Nat.le_of_ble_eq_true rfl) ⟨by rw [hR]; decide, by rw [hR]; decide⟩ ⟨by rw [hR]; decide, by rw [hR]; decide⟩ dX9_reports_134 ?_
        refine sv_aload_n 0 C dX9_reports_137 rfl rfl ?_
        refine sv_iconst (v := 4) C dX9_reports_138 (by decide) ?_
        refine sv_bipush (v := 10) C dX9_reports_139 (by decide) ?_
        refine sv_iconst (v := 0) C dX9_reports_141 (by decide) ?_
        obtain ⟨q142, hc142, hf⟩ := sv_bind_some hf
        refine sv_callV0 C mv_X9_317 (m_X9_go (sv_l X) E h0 ad sz _ _ _ _ _ hc142) sv_sx0 0 rfl rfl rfl rfl (Nat.le_of_ble_eq_true rfl) ⟨by rw [hR]; decide, by rw [hR]; decide⟩ ⟨by rw [hR]; decide, by rw [hR]; decide⟩ dX9_reports_142 ?_
        refine sv_aload_n 0 C dX9_reports_145 rfl rfl ?_
        obtain ⟨q146, hc146, hf⟩ := sv_bind_some hf
        refine sv_callV0 C mv_X9_321 (m_X9_where (sv_l X) E h0 ad sz _ _ hc146) sv_sx0 0 rfl rfl rfl rfl (Nat.le_of_ble_eq_true rfl) ⟨by rw [hR]; decide, by rw [hR]; decide⟩ ⟨by rw [hR]; decide, by rw [hR]; decide⟩ dX9_reports_146 ?_
        refine sv_aload_n 0 C dX9_reports_149 rfl rfl ?_
        obtain ⟨q150, hc150, hf⟩ := sv_bind_some hf
        refine sv_callV0 C mv_X9_324 (m_X9_way (sv_l X) E h0 ad sz _ _ hc150) sv_sx0 0 rfl rfl rfl rfl (Nat.le_of_ble_eq_true rfl) ⟨by rw [hR]; decide, by rw [hR]; decide⟩ ⟨by rw [hR]; decide, by rw [hR]; decide⟩ dX9_reports_150 ?_
        refine sv_aload_n 0 C dX9_reports_153 rfl rfl ?_
        refine sv_bipush (v := 29) C dX9_reports_154 (by decide) ?_
        obtain ⟨q156, hc156, hf⟩ := sv_bind_some hf
        refine sv_callV0 C mv_X9_327 (m_X9_skip (sv_l X) E h0 ad sz _ _ _ hc156) sv_sx0 0 rfl rfl rfl rfl (Nat.le_of_ble_eq_true rfl) ⟨by rw [hR]; decide, by rw [hR]; decide⟩ ⟨by rw [hR]; decide, by rw [hR]; decide⟩ dX9_reports_156 ?_
        refine sv_goto (tgt := 166) C dX9_reports_159 (by decide) ?_
        exact sv_vret C (by cases hf; exact hZ) dX9_reports_166
    · replace hf := sv_if_t c58 hf
      refine sv_aload_n 0 C dX9_reports_61 rfl rfl ?_
      refine sv_bipush (v := 11) C dX9_reports_62 (by decide) ?_
      refine sv_bipush (v := 14) C dX9_reports_64 (by decide) ?_
      refine sv_iconst (v := 0) C dX9_reports_66 (by decide) ?_
      obtain ⟨q67, hc67, hf⟩ := sv_bind_some hf
      refine sv_callV0 C mv_X9_317 (m_X9_go (sv_l X) E h0 ad sz _ _ _ _ _ hc67) sv_sx0 0 rfl rfl rfl rfl (Nat.le_of_ble_eq_true rfl) ⟨by rw [hR]; decide, by rw [hR]; decide⟩ ⟨by rw [hR]; decide, by rw [hR]; decide⟩ dX9_reports_67 ?_
      refine sv_aload_n 0 C dX9_reports_70 rfl rfl ?_
      refine sv_bipush (v := 12) C dX9_reports_71 (by decide) ?_
      refine sv_iconst (v := 4) C dX9_reports_73 (by decide) ?_
      refine sv_iconst (v := 0) C dX9_reports_74 (by decide) ?_
      obtain ⟨q75, hc75, hf⟩ := sv_bind_some hf
      refine sv_callV0 C mv_X9_317 (m_X9_go (sv_l X) E h0 ad sz _ _ _ _ _ hc75) sv_sx0 0 rfl rfl rfl rfl (Nat.le_of_ble_eq_true rfl) ⟨by rw [hR]; decide, by rw [hR]; decide⟩ ⟨by rw [hR]; decide, by rw [hR]; decide⟩ dX9_reports_75 ?_
      refine sv_aload_n 0 C dX9_reports_78 rfl rfl ?_
      refine sv_bipush (v := 13) C dX9_reports_79 (by decide) ?_
      refine sv_iconst (v := 5) C dX9_reports_81 (by decide) ?_
      refine sv_iconst (v := 0) C dX9_reports_82 (by decide) ?_
      obtain ⟨q83, hc83, hf⟩ := sv_bind_some hf
      refine sv_callV0 C mv_X9_317 (m_X9_go (sv_l X) E h0 ad sz _ _ _ _ _ hc83) sv_sx0 0 rfl rfl rfl rfl (Nat.le_of_ble_eq_true rfl) ⟨by rw [hR]; decide, by rw [hR]; decide⟩ ⟨by rw [hR]; decide, by rw [hR]; decide⟩ dX9_reports_83 ?_
      refine sv_aload_n 0 C dX9_reports_86 rfl rfl ?_
      refine sv_bipush (v := 14) C dX9_reports_87 (by decide) ?_
      refine sv_iconst (v := 5) C dX9_reports_89 (by decide) ?_
      refine sv_iconst (v := 0) C dX9_reports_90 (by decide) ?_
      obtain ⟨q91, hc91, hf⟩ := sv_bind_some hf
      refine sv_callV0 C mv_X9_317 (m_X9_go (sv_l X) E h0 ad sz _ _ _ _ _ hc91) sv_sx0 0 rfl rfl rfl rfl (Nat.le_of_ble_eq_true rfl) ⟨by rw [hR]; decide, by rw [hR]; decide⟩ ⟨by rw [hR]; decide, by rw [hR]; decide⟩ dX9_reports_91 ?_
      refine sv_aload_n 0 C dX9_reports_94 rfl rfl ?_
      refine sv_bipush (v := 15) C dX9_reports_95 (by decide) ?_
      refine sv_bipush (v := 6) C dX9_reports_97 (by decide) ?_
      refine sv_iconst (v := 0) C dX9_reports_99 (by decide) ?_
      obtain ⟨q100, hc100, hf⟩ := sv_bind_some hf
      refine sv_callV0 C mv_X9_317 (m_X9_go (sv_l X) E h0 ad sz _ _ _ _ _ hc100) sv_sx0 0 rfl rfl rfl rfl (Nat.le_of_ble_eq_true rfl) ⟨by rw [hR]; decide, by rw [hR]; decide⟩ ⟨by rw [hR]; decide, by rw [hR]; decide⟩ dX9_reports_100 ?_
      refine sv_aload_n 0 C dX9_reports_103 rfl rfl ?_
      refine sv_bipush (v := 10) C dX9_reports_104 (by decide) ?_
      refine sv_bipush (v := 6) C dX9_reports_106 (by decide) ?_
      refine sv_iconst (v := 0) C dX9_reports_108 (by decide) ?_
      obtain ⟨q109, hc109, hf⟩ := sv_bind_some hf
      refine sv_callV0 C mv_X9_317 (m_X9_go (sv_l X) E h0 ad sz _ _ _ _ _ hc109) sv_sx0 0 rfl rfl rfl rfl (Nat.le_of_ble_eq_true rfl) ⟨by rw [hR]; decide, by rw [hR]; decide⟩ ⟨by rw [hR]; decide, by rw [hR]; decide⟩ dX9_reports_109 ?_
      refine sv_aload_n 0 C dX9_reports_112 rfl rfl ?_
      obtain ⟨q113, hc113, hf⟩ := sv_bind_some hf
      refine sv_callV0 C mv_X9_321 (m_X9_where (sv_l X) E h0 ad sz _ _ hc113) sv_sx0 0 rfl rfl rfl rfl (Nat.le_of_ble_eq_true rfl) ⟨by rw [hR]; decide, by rw [hR]; decide⟩ ⟨by rw [hR]; decide, by rw [hR]; decide⟩ dX9_reports_113 ?_
      refine sv_aload_n 0 C dX9_reports_116 rfl rfl ?_
      refine sv_bipush (v := 34) C dX9_reports_117 (by decide) ?_
      obtain ⟨q119, hc119, hf⟩ := sv_bind_some hf
      refine sv_callV0 C mv_X9_327 (m_X9_skip (sv_l X) E h0 ad sz _ _ _ hc119) sv_sx0 0 rfl rfl rfl rfl (Nat.le_of_ble_eq_true rfl) ⟨by rw [hR]; decide, by rw [hR]; decide⟩ ⟨by rw [hR]; decide, by rw [hR]; decide⟩ dX9_reports_119 ?_
      refine sv_goto (tgt := 166) C dX9_reports_122 (by decide) ?_
      exact sv_vret C (by cases hf; exact hZ) dX9_reports_166
  · replace hf := sv_if_f c13 hf
    refine sv_aload_n 0 C dX9_reports_16 rfl rfl ?_
    refine sv_iconst (v := 2) C dX9_reports_17 (by decide) ?_
    refine sv_iconst (v := 4) C dX9_reports_18 (by decide) ?_
    refine sv_iconst (v := 0) C dX9_reports_19 (by decide) ?_
    obtain ⟨q20, hc20, hf⟩ := sv_bind_some hf
    refine sv_callV0 C mv_X9_317 (m_X9_go (sv_l X) E h0 ad sz _ _ _ _ _ hc20) sv_sx0 0 rfl rfl rfl rfl (Nat.le_of_ble_eq_true rfl) ⟨by rw [hR]; decide, by rw [hR]; decide⟩ ⟨by rw [hR]; decide, by rw [hR]; decide⟩ dX9_reports_20 ?_
    refine sv_aload_n 0 C dX9_reports_23 rfl rfl ?_
    refine sv_iconst (v := 3) C dX9_reports_24 (by decide) ?_
    refine sv_bipush (v := 8) C dX9_reports_25 (by decide) ?_
    refine sv_iconst (v := 1) C dX9_reports_27 (by decide) ?_
    obtain ⟨q28, hc28, hf⟩ := sv_bind_some hf
    refine sv_callV0 C mv_X9_317 (m_X9_go (sv_l X) E h0 ad sz _ _ _ _ _ hc28) sv_sx0 0 rfl rfl rfl rfl (Nat.le_of_ble_eq_true rfl) ⟨by rw [hR]; decide, by rw [hR]; decide⟩ ⟨by rw [hR]; decide, by rw [hR]; decide⟩ dX9_reports_28 ?_
    refine sv_aload_n 0 C dX9_reports_31 rfl rfl ?_
    refine sv_iconst (v := 4) C dX9_reports_32 (by decide) ?_
    refine sv_bipush (v := 10) C dX9_reports_33 (by decide) ?_
    refine sv_iconst (v := 0) C dX9_reports_35 (by decide) ?_
    obtain ⟨q36, hc36, hf⟩ := sv_bind_some hf
    refine sv_callV0 C mv_X9_317 (m_X9_go (sv_l X) E h0 ad sz _ _ _ _ _ hc36) sv_sx0 0 rfl rfl rfl rfl (Nat.le_of_ble_eq_true rfl) ⟨by rw [hR]; decide, by rw [hR]; decide⟩ ⟨by rw [hR]; decide, by rw [hR]; decide⟩ dX9_reports_36 ?_
    refine sv_aload_n 0 C dX9_reports_39 rfl rfl ?_
    obtain ⟨q40, hc40, hf⟩ := sv_bind_some hf
    refine sv_callV0 C mv_X9_321 (m_X9_where (sv_l X) E h0 ad sz _ _ hc40) sv_sx0 0 rfl rfl rfl rfl (Nat.le_of_ble_eq_true rfl) ⟨by rw [hR]; decide, by rw [hR]; decide⟩ ⟨by rw [hR]; decide, by rw [hR]; decide⟩ dX9_reports_40 ?_
    refine sv_aload_n 0 C dX9_reports_43 rfl rfl ?_
    obtain ⟨q44, hc44, hf⟩ := sv_bind_some hf
    refine sv_callV0 C mv_X9_324 (m_X9_way (sv_l X) E h0 ad sz _ _ hc44) sv_sx0 0 rfl rfl rfl rfl (Nat.le_of_ble_eq_true rfl) ⟨by rw [hR]; decide, by rw [hR]; decide⟩ ⟨by rw [hR]; decide, by rw [hR]; decide⟩ dX9_reports_44 ?_
    refine sv_aload_n 0 C dX9_reports_47 rfl rfl ?_
    refine sv_bipush (v := 25) C dX9_reports_48 (by decide) ?_
    obtain ⟨q50, hc50, hf⟩ := sv_bind_some hf
    refine sv_callV0 C mv_X9_327 (m_X9_skip (sv_l X) E h0 ad sz _ _ _ hc50) sv_sx0 0 rfl rfl rfl rfl (Nat.le_of_ble_eq_true rfl) ⟨by rw [hR]; decide, by rw [hR]; decide⟩ ⟨by rw [hR]; decide, by rw [hR]; decide⟩ dX9_reports_50 ?_
    refine sv_goto (tgt := 166) C dX9_reports_53 (by decide) ?_
    exact sv_vret C (by cases hf; exact hZ) dX9_reports_166
def f_X9_message_243 (B : md_B) (x1 : Int32) (x4 : Int32) : Option (md_B) :=
  sv_g (sv_inb ((24 * x4) + 1) 960) (
    sv_g (sv_inb ((24 * x4) + 23) 960) (
      sv_g (sv_inb ((24 * x4) + 23) 960) (
        (f_X9_reports (md_pa (md_pa B 29 ((24 * x4) + 1) x1) 29 ((24 * x4) + 23) (((md_pa B 29 ((24 * x4) + 1) x1).2 29 ((24 * x4) + 23).toNatClampNeg) + 1)) x4 x1).bind (fun q277 =>
          some (q277)))))
def f_X9_message_193 : Nat → md_B → Int32 → Int32 → Int32 → Int32 → Option (md_B)
  | 0, _, _, _, _, _ => none
  | n + 1, B, x1, x3, x4, x5 =>
    if 3 ≤ x5 then
      sv_g (sv_inb (24 * x4) 960) (
        sv_g (sv_inb ((24 * x4) + 23) 960) (
          f_X9_message_243 (md_pa (md_pa B 29 (24 * x4) x3) 29 ((24 * x4) + 23) 0) x1 x4))
    else
      sv_g (sv_inb ((3 * x4) + x5) 120) (
        (f_X9_message_193 n) (md_pa B 31 ((3 * x4) + x5) 0) x1 x3 x4 (x5 + 1))
def f_X9_message_162 : Nat → md_B → Int32 → Int32 → Int32 → Int32 → Option (md_B)
  | 0, _, _, _, _, _ => none
  | n + 1, B, x1, x3, x4, x5 =>
    if 24 ≤ x5 then
      f_X9_message_193 sv_fu B x1 x3 x4 0
    else
      sv_g (sv_inb ((24 * x4) + x5) 960) (
        (f_X9_message_162 n) (md_pa B 29 ((24 * x4) + x5) (-2147483648)) x1 x3 x4 (x5 + 1))
def f_X9_message_138 (B : md_B) (x1 : Int32) (x3 : Int32) (x4 : Int32) : Option (md_B) :=
  if 0 ≤ x4 then
    f_X9_message_243 B x1 x4
  else
    f_X9_message_162 sv_fu (md_pf B 28 ((B.1 28) + 1)) x1 x3 (B.1 28) 0
def f_X9_message_69 (B : md_B) (x1 : Int32) (s0 : Int32) : Option (md_B) :=
  if s0 = 0 then
    some (md_pa B 10 6 ((B.2 10 (6 : Int32).toNatClampNeg) + 1))
  else
    (f_X9_read (md_pa B 10 5 ((B.2 10 (5 : Int32).toNatClampNeg) + 1)) 8 30).bind (fun q101 =>
      (f_X9_found q101.2 q101.1).bind (fun q107 =>
        if 0 ≤ q107.1 then
          f_X9_message_138 q107.2 x1 q101.1 q107.1
        else
          if (q107.2.1 28) = 40 then
            some (md_pa q107.2 10 8 ((q107.2.2 10 (8 : Int32).toNatClampNeg) + 1))
          else
            f_X9_message_138 q107.2 x1 q101.1 q107.1))
def f_X9_message_64 (B : md_B) (x1 : Int32) : Option (md_B) :=
  f_X9_message_69 B x1 1
def f_X9_message_68 (B : md_B) (x1 : Int32) : Option (md_B) :=
  f_X9_message_69 B x1 0
def f_X9_message_49 (B : md_B) (x1 : Int32) : Option (md_B) :=
  if x1 = 5 then
    if (B.1 26) = 424 then
      f_X9_message_64 B x1
    else
      f_X9_message_68 B x1
  else
    f_X9_message_68 B x1
def f_X9_message_39 (B : md_B) (x1 : Int32) : Option (md_B) :=
  if (B.1 26) = 168 then
    f_X9_message_64 B x1
  else
    f_X9_message_49 B x1
def f_X9_message_20 (B : md_B) (s0 : Int32) : Option (md_B) :=
  (f_X9_in B s0.toInt64 1 4).bind (fun q27 =>
    if q27.1 = 0 then
      if s0 = 18 then
        f_X9_message_39 q27.2 s0
      else
        f_X9_message_49 q27.2 s0
    else
      f_X9_message_39 q27.2 s0)
def f_X9_message (B : md_B) : Option (md_B) :=
  if 38 ≤ (B.1 26) then
    (f_X9_read B 0 6).bind (fun q17 =>
      f_X9_message_20 q17.2 q17.1)
  else
    f_X9_message_20 B 0
set_option maxHeartbeats 4000000 in
set_option maxRecDepth 100000 in
theorem w_X9_message_243 {E : sv_E} {X : sv_X} {sz : Nat} {q : md_B} {h0 : Nat} {ad : Nat → Nat} (C : sv_C E X cX9_message RX9 []) (hZ : sv_Z E X none none (md_w E h0 ad q) sz 0 0) (hR : sv_R X = { frames := 5, cells := 0, slots := 0, locals := 112 }) (hN : sv_nL X = 6) (B : md_B) (x1 : Int32) (x4 : Int32) (hf : f_X9_message_243 B x1 x4 = some q) : sv_J E X (md_w E h0 ad B) sz 0 0 243 [(0, .ref h0), (1, .int x1), (4, .int x4)] [] := by
  rw [f_X9_message_243] at hf
  refine sv_aload_n 0 C dX9_message_243 rfl rfl ?_
  refine md_getr C fl_X9_55 (by decide) dX9_message_244 ?_
  refine sv_bipush (v := 24) C dX9_message_247 (by decide) ?_
  refine sv_iload 2 C dX9_message_249 rfl ?_
  refine sv_imul C dX9_message_251 ?_
  refine sv_iconst (v := 1) C dX9_message_252 (by decide) ?_
  refine sv_iadd C dX9_message_253 ?_
  refine sv_iload_n 1 C dX9_message_254 rfl rfl ?_
  obtain ⟨g255, hf⟩ := sv_g_some hf
  refine md_iast C 13 rfl g255 dX9_message_255 ?_
  refine sv_aload_n 0 C dX9_message_256 rfl rfl ?_
  refine md_getr C fl_X9_55 (by decide) dX9_message_257 ?_
  refine sv_bipush (v := 24) C dX9_message_260 (by decide) ?_
  refine sv_iload 2 C dX9_message_262 rfl ?_
  refine sv_imul C dX9_message_264 ?_
  refine sv_bipush (v := 23) C dX9_message_265 (by decide) ?_
  refine sv_iadd C dX9_message_267 ?_
  refine sv_dup2 C dX9_message_268 rfl rfl ?_
  obtain ⟨g269, hf⟩ := sv_g_some hf
  refine md_iald C 13 rfl g269 dX9_message_269 ?_
  refine sv_iconst (v := 1) C dX9_message_270 (by decide) ?_
  refine sv_iadd C dX9_message_271 ?_
  obtain ⟨g272, hf⟩ := sv_g_some hf
  refine md_iast C 13 rfl g272 dX9_message_272 ?_
  refine sv_aload_n 0 C dX9_message_273 rfl rfl ?_
  refine sv_iload 2 C dX9_message_274 rfl ?_
  refine sv_iload_n 1 C dX9_message_276 rfl rfl ?_
  obtain ⟨q277, hc277, hf⟩ := sv_bind_some hf
  refine sv_callV0 C mv_X9_297 (m_X9_reports (sv_l X) E h0 ad sz _ _ _ _ hc277) sv_sx0 0 rfl rfl rfl rfl (Nat.le_of_ble_eq_true rfl) ⟨by rw [hR]; decide, by rw [hR]; decide⟩ ⟨by rw [hR]; decide, by rw [hR]; decide⟩ dX9_message_277 ?_
  exact sv_vret C (by cases hf; exact hZ) dX9_message_280
set_option maxHeartbeats 4000000 in
set_option maxRecDepth 100000 in
theorem w_X9_message_193 {E : sv_E} {X : sv_X} {sz : Nat} {q : md_B} {h0 : Nat} {ad : Nat → Nat} (C : sv_C E X cX9_message RX9 []) (hZ : sv_Z E X none none (md_w E h0 ad q) sz 0 0) (hR : sv_R X = { frames := 5, cells := 0, slots := 0, locals := 112 }) (hN : sv_nL X = 6) : ∀ (n : Nat) (B : md_B) (x1 : Int32) (x3 : Int32) (x4 : Int32) (x5 : Int32), f_X9_message_193 n B x1 x3 x4 x5 = some q → sv_J E X (md_w E h0 ad B) sz 0 0 193 [(0, .ref h0), (1, .int x1), (3, .int x3), (4, .int x4), (5, .int x5)] [] := by
  intro n
  induction n with
  | zero =>
    intro B x1 x3 x4 x5 hf
    rw [f_X9_message_193] at hf
    cases hf
  | succ n ih =>
    intro B x1 x3 x4 x5 hf
    rw [f_X9_message_193] at hf
    refine sv_iload 4 C dX9_message_193 rfl ?_
    refine sv_iconst (v := 3) C dX9_message_195 (by decide) ?_
    refine sv_icmp_ge (tgt := 218) C dX9_message_196 (by decide) (fun c196 => ?_) (fun c196 => ?_)
    · replace hf := sv_if_t c196 hf
      refine sv_aload_n 0 C dX9_message_218 rfl rfl ?_
      refine md_getr C fl_X9_55 (by decide) dX9_message_219 ?_
      refine sv_bipush (v := 24) C dX9_message_222 (by decide) ?_
      refine sv_iload 3 C dX9_message_224 rfl ?_
      refine sv_imul C dX9_message_226 ?_
      refine sv_iload_n 2 C dX9_message_227 rfl rfl ?_
      obtain ⟨g228, hf⟩ := sv_g_some hf
      refine md_iast C 13 rfl g228 dX9_message_228 ?_
      refine sv_aload_n 0 C dX9_message_229 rfl rfl ?_
      refine md_getr C fl_X9_55 (by decide) dX9_message_230 ?_
      refine sv_bipush (v := 24) C dX9_message_233 (by decide) ?_
      refine sv_iload 3 C dX9_message_235 rfl ?_
      refine sv_imul C dX9_message_237 ?_
      refine sv_bipush (v := 23) C dX9_message_238 (by decide) ?_
      refine sv_iadd C dX9_message_240 ?_
      refine sv_iconst (v := 0) C dX9_message_241 (by decide) ?_
      obtain ⟨g242, hf⟩ := sv_g_some hf
      refine md_iast C 13 rfl g242 dX9_message_242 ?_
      refine sv_sub (lv' := [(0, .ref h0), (1, .int x1), (4, .int x4)]) [0, 1, 3] rfl ?_
      exact w_X9_message_243 C hZ hR hN _ _ _ hf
    · replace hf := sv_if_f c196 hf
      refine sv_aload_n 0 C dX9_message_199 rfl rfl ?_
      refine md_getr C fl_X9_61 (by decide) dX9_message_200 ?_
      refine sv_iconst (v := 3) C dX9_message_203 (by decide) ?_
      refine sv_iload 3 C dX9_message_204 rfl ?_
      refine sv_imul C dX9_message_206 ?_
      refine sv_iload 4 C dX9_message_207 rfl ?_
      refine sv_iadd C dX9_message_209 ?_
      refine sv_iconst (v := 0) C dX9_message_210 (by decide) ?_
      obtain ⟨g211, hf⟩ := sv_g_some hf
      refine md_iast C 15 rfl g211 dX9_message_211 ?_
      refine sv_iinc (v := x5 + 1) (lv' := [(5, .int (x5 + 1)), (0, .ref h0), (1, .int x1), (3, .int x3), (4, .int x4)]) 4 C dX9_message_212 rfl rfl (by rw [hN]; decide) rfl ?_
      refine sv_goto (tgt := 193) C dX9_message_215 (by decide) ?_
      refine sv_sub (lv' := [(0, .ref h0), (1, .int x1), (3, .int x3), (4, .int x4), (5, .int (x5 + 1))]) [1, 2, 3, 4, 0] rfl ?_
      exact ih _ _ _ _ _ hf
set_option maxHeartbeats 4000000 in
set_option maxRecDepth 100000 in
theorem w_X9_message_162 {E : sv_E} {X : sv_X} {sz : Nat} {q : md_B} {h0 : Nat} {ad : Nat → Nat} (C : sv_C E X cX9_message RX9 []) (hZ : sv_Z E X none none (md_w E h0 ad q) sz 0 0) (hR : sv_R X = { frames := 5, cells := 0, slots := 0, locals := 112 }) (hN : sv_nL X = 6) : ∀ (n : Nat) (B : md_B) (x1 : Int32) (x3 : Int32) (x4 : Int32) (x5 : Int32), f_X9_message_162 n B x1 x3 x4 x5 = some q → sv_J E X (md_w E h0 ad B) sz 0 0 162 [(0, .ref h0), (1, .int x1), (3, .int x3), (4, .int x4), (5, .int x5)] [] := by
  intro n
  induction n with
  | zero =>
    intro B x1 x3 x4 x5 hf
    rw [f_X9_message_162] at hf
    cases hf
  | succ n ih =>
    intro B x1 x3 x4 x5 hf
    rw [f_X9_message_162] at hf
    refine sv_iload 4 C dX9_message_162 rfl ?_
    refine sv_bipush (v := 24) C dX9_message_164 (by decide) ?_
    refine sv_icmp_ge (tgt := 190) C dX9_message_166 (by decide) (fun c166 => ?_) (fun c166 => ?_)
    · replace hf := sv_if_t c166 hf
      refine sv_iconst (v := 0) C dX9_message_190 (by decide) ?_
      refine sv_istore (lv' := [(5, .int 0), (0, .ref h0), (1, .int x1), (3, .int x3), (4, .int x4)]) C dX9_message_191 (by rw [hN]; decide) rfl ?_
      refine sv_sub (lv' := [(0, .ref h0), (1, .int x1), (3, .int x3), (4, .int x4), (5, .int 0)]) [1, 2, 3, 4, 0] rfl ?_
      exact w_X9_message_193 C hZ hR hN sv_fu _ _ _ _ _ hf
    · replace hf := sv_if_f c166 hf
      refine sv_aload_n 0 C dX9_message_169 rfl rfl ?_
      refine md_getr C fl_X9_55 (by decide) dX9_message_170 ?_
      refine sv_bipush (v := 24) C dX9_message_173 (by decide) ?_
      refine sv_iload 3 C dX9_message_175 rfl ?_
      refine sv_imul C dX9_message_177 ?_
      refine sv_iload 4 C dX9_message_178 rfl ?_
      refine sv_iadd C dX9_message_180 ?_
      refine sv_ldc C kw_562 dX9_message_181 ?_
      obtain ⟨g183, hf⟩ := sv_g_some hf
      refine md_iast C 13 rfl g183 dX9_message_183 ?_
      refine sv_iinc (v := x5 + 1) (lv' := [(5, .int (x5 + 1)), (0, .ref h0), (1, .int x1), (3, .int x3), (4, .int x4)]) 4 C dX9_message_184 rfl rfl (by rw [hN]; decide) rfl ?_
      refine sv_goto (tgt := 162) C dX9_message_187 (by decide) ?_
      refine sv_sub (lv' := [(0, .ref h0), (1, .int x1), (3, .int x3), (4, .int x4), (5, .int (x5 + 1))]) [1, 2, 3, 4, 0] rfl ?_
      exact ih _ _ _ _ _ hf
set_option maxHeartbeats 4000000 in
set_option maxRecDepth 100000 in
theorem w_X9_message_138 {E : sv_E} {X : sv_X} {sz : Nat} {q : md_B} {h0 : Nat} {ad : Nat → Nat} (C : sv_C E X cX9_message RX9 []) (hZ : sv_Z E X none none (md_w E h0 ad q) sz 0 0) (hR : sv_R X = { frames := 5, cells := 0, slots := 0, locals := 112 }) (hN : sv_nL X = 6) (B : md_B) (x1 : Int32) (x3 : Int32) (x4 : Int32) (hf : f_X9_message_138 B x1 x3 x4 = some q) : sv_J E X (md_w E h0 ad B) sz 0 0 138 [(0, .ref h0), (1, .int x1), (3, .int x3), (4, .int x4)] [] := by
  rw [f_X9_message_138] at hf
  refine sv_iload 3 C dX9_message_138 rfl ?_
  refine sv_if_ge (tgt := 243) C dX9_message_140 (by decide) (fun c140 => ?_) (fun c140 => ?_)
  · replace hf := sv_if_t c140 hf
    refine sv_sub (lv' := [(0, .ref h0), (1, .int x1), (4, .int x4)]) [0, 1, 3] rfl ?_
    exact w_X9_message_243 C hZ hR hN _ _ _ hf
  · replace hf := sv_if_f c140 hf
    refine sv_aload_n 0 C dX9_message_143 rfl rfl ?_
    refine md_geti C fl_X9_289 (by decide) dX9_message_144 ?_
    refine sv_istore (lv' := [(4, .int (B.1 28)), (0, .ref h0), (1, .int x1), (3, .int x3)]) C dX9_message_147 (by rw [hN]; decide) rfl ?_
    refine sv_aload_n 1 C dX9_message_149 rfl rfl ?_
    refine sv_dup C dX9_message_150 rfl ?_
    refine md_geti C fl_X9_289 (by decide) dX9_message_151 ?_
    refine sv_iconst (v := 1) C dX9_message_154 (by decide) ?_
    refine sv_iadd C dX9_message_155 ?_
    refine md_puti C fl_X9_289 (by decide) rfl rfl dX9_message_156 ?_
    refine sv_iconst (v := 0) C dX9_message_159 (by decide) ?_
    refine sv_istore (lv' := [(5, .int 0), (4, .int (B.1 28)), (0, .ref h0), (1, .int x1), (3, .int x3)]) C dX9_message_160 (by rw [hN]; decide) rfl ?_
    refine sv_sub (lv' := [(0, .ref h0), (1, .int x1), (3, .int x3), (4, .int (B.1 28)), (5, .int 0)]) [2, 3, 4, 1, 0] rfl ?_
    exact w_X9_message_162 C hZ hR hN sv_fu _ _ _ _ _ hf
set_option maxHeartbeats 4000000 in
set_option maxRecDepth 100000 in
theorem w_X9_message_69 {E : sv_E} {X : sv_X} {sz : Nat} {q : md_B} {h0 : Nat} {ad : Nat → Nat} (C : sv_C E X cX9_message RX9 []) (hZ : sv_Z E X none none (md_w E h0 ad q) sz 0 0) (hR : sv_R X = { frames := 5, cells := 0, slots := 0, locals := 112 }) (hN : sv_nL X = 6) (B : md_B) (x1 : Int32) (s0 : Int32) (hf : f_X9_message_69 B x1 s0 = some q) : sv_J E X (md_w E h0 ad B) sz 0 0 69 [(0, .ref h0), (1, .int x1)] [.int s0] := by
  rw [f_X9_message_69] at hf
  refine sv_istore_n (lv' := [(2, .int s0), (0, .ref h0), (1, .int x1)]) C dX9_message_69 rfl (by rw [hN]; decide) rfl ?_
  refine sv_iload_n 0 C dX9_message_70 rfl rfl ?_
  refine sv_if_ne (tgt := 86) C dX9_message_71 (by decide) (fun c71 => ?_) (fun c71 => ?_)
  · replace hf := sv_if_f c71 hf
    refine sv_aload_n 1 C dX9_message_86 rfl rfl ?_
    refine md_getr C fl_X9_23 (by decide) dX9_message_87 ?_
    refine sv_iconst (v := 5) C dX9_message_90 (by decide) ?_
    refine sv_dup2 C dX9_message_91 rfl rfl ?_
    refine md_iald C 3 rfl (by decide) dX9_message_92 ?_
    refine sv_iconst (v := 1) C dX9_message_93 (by decide) ?_
    refine sv_iadd C dX9_message_94 ?_
    refine md_iast C 3 rfl (by decide) dX9_message_95 ?_
    refine sv_aload_n 1 C dX9_message_96 rfl rfl ?_
    refine sv_bipush (v := 8) C dX9_message_97 (by decide) ?_
    refine sv_bipush (v := 30) C dX9_message_99 (by decide) ?_
    obtain ⟨q101, hc101, hf⟩ := sv_bind_some hf
    refine sv_callV0 C mv_X9_286 (m_X9_read (sv_l X) E h0 ad sz _ _ _ _ hc101) sv_sx0 0 rfl rfl rfl rfl (Nat.le_of_ble_eq_true rfl) ⟨by rw [hR]; decide, by rw [hR]; decide⟩ ⟨by rw [hR]; decide, by rw [hR]; decide⟩ dX9_message_101 ?_
    refine sv_istore_n (lv' := [(3, .int q101.1), (2, .int s0), (0, .ref h0), (1, .int x1)]) C dX9_message_104 rfl (by rw [hN]; decide) rfl ?_
    refine sv_aload_n 2 C dX9_message_105 rfl rfl ?_
    refine sv_iload_n 0 C dX9_message_106 rfl rfl ?_
    obtain ⟨q107, hc107, hf⟩ := sv_bind_some hf
    refine sv_callV0 C mv_X9_294 (m_X9_found (sv_l X) E h0 ad sz _ _ _ hc107) sv_sx0 0 rfl rfl rfl rfl (Nat.le_of_ble_eq_true rfl) ⟨by rw [hR]; decide, by rw [hR]; decide⟩ ⟨by rw [hR]; decide, by rw [hR]; decide⟩ dX9_message_107 ?_
    refine sv_istore (lv' := [(4, .int q107.1), (3, .int q101.1), (2, .int s0), (0, .ref h0), (1, .int x1)]) C dX9_message_110 (by rw [hN]; decide) rfl ?_
    refine sv_iload 0 C dX9_message_112 rfl ?_
    refine sv_if_ge (tgt := 138) C dX9_message_114 (by decide) (fun c114 => ?_) (fun c114 => ?_)
    · replace hf := sv_if_t c114 hf
      refine sv_sub (lv' := [(0, .ref h0), (1, .int x1), (3, .int q101.1), (4, .int q107.1)]) [3, 4, 1, 0] rfl ?_
      exact w_X9_message_138 C hZ hR hN _ _ _ _ hf
    · replace hf := sv_if_f c114 hf
      refine sv_aload_n 3 C dX9_message_117 rfl rfl ?_
      refine md_geti C fl_X9_289 (by decide) dX9_message_118 ?_
      refine sv_bipush (v := 40) C dX9_message_121 (by decide) ?_
      refine sv_icmp_ne (tgt := 138) C dX9_message_123 (by decide) (fun c123 => ?_) (fun c123 => ?_)
      · replace hf := sv_if_f c123 hf
        refine sv_sub (lv' := [(0, .ref h0), (1, .int x1), (3, .int q101.1), (4, .int q107.1)]) [3, 4, 1, 0] rfl ?_
        exact w_X9_message_138 C hZ hR hN _ _ _ _ hf
      · replace hf := sv_if_t c123 hf
        refine sv_aload_n 3 C dX9_message_126 rfl rfl ?_
        refine md_getr C fl_X9_23 (by decide) dX9_message_127 ?_
        refine sv_bipush (v := 8) C dX9_message_130 (by decide) ?_
        refine sv_dup2 C dX9_message_132 rfl rfl ?_
        refine md_iald C 3 rfl (by decide) dX9_message_133 ?_
        refine sv_iconst (v := 1) C dX9_message_134 (by decide) ?_
        refine sv_iadd C dX9_message_135 ?_
        refine md_iast C 3 rfl (by decide) dX9_message_136 ?_
        exact sv_vret C (by cases hf; exact hZ) dX9_message_137
  · replace hf := sv_if_t c71 hf
    refine sv_aload_n 1 C dX9_message_74 rfl rfl ?_
    refine md_getr C fl_X9_23 (by decide) dX9_message_75 ?_
    refine sv_bipush (v := 6) C dX9_message_78 (by decide) ?_
    refine sv_dup2 C dX9_message_80 rfl rfl ?_
    refine md_iald C 3 rfl (by decide) dX9_message_81 ?_
    refine sv_iconst (v := 1) C dX9_message_82 (by decide) ?_
    refine sv_iadd C dX9_message_83 ?_
    refine md_iast C 3 rfl (by decide) dX9_message_84 ?_
    exact sv_vret C (by cases hf; exact hZ) dX9_message_85
set_option maxHeartbeats 4000000 in
set_option maxRecDepth 100000 in
theorem w_X9_message_64 {E : sv_E} {X : sv_X} {sz : Nat} {q : md_B} {h0 : Nat} {ad : Nat → Nat} (C : sv_C E X cX9_message RX9 []) (hZ : sv_Z E X none none (md_w E h0 ad q) sz 0 0) (hR : sv_R X = { frames := 5, cells := 0, slots := 0, locals := 112 }) (hN : sv_nL X = 6) (B : md_B) (x1 : Int32) (hf : f_X9_message_64 B x1 = some q) : sv_J E X (md_w E h0 ad B) sz 0 0 64 [(0, .ref h0), (1, .int x1)] [] := by
  rw [f_X9_message_64] at hf
  refine sv_iconst (v := 1) C dX9_message_64 (by decide) ?_
  refine sv_goto (tgt := 69) C dX9_message_65 (by decide) ?_
  refine sv_sub (lv' := [(0, .ref h0), (1, .int x1)]) [0, 1] rfl ?_
  exact w_X9_message_69 C hZ hR hN _ _ _ hf
set_option maxHeartbeats 4000000 in
set_option maxRecDepth 100000 in
theorem w_X9_message_68 {E : sv_E} {X : sv_X} {sz : Nat} {q : md_B} {h0 : Nat} {ad : Nat → Nat} (C : sv_C E X cX9_message RX9 []) (hZ : sv_Z E X none none (md_w E h0 ad q) sz 0 0) (hR : sv_R X = { frames := 5, cells := 0, slots := 0, locals := 112 }) (hN : sv_nL X = 6) (B : md_B) (x1 : Int32) (hf : f_X9_message_68 B x1 = some q) : sv_J E X (md_w E h0 ad B) sz 0 0 68 [(0, .ref h0), (1, .int x1)] [] := by
  rw [f_X9_message_68] at hf
  refine sv_iconst (v := 0) C dX9_message_68 (by decide) ?_
  refine sv_sub (lv' := [(0, .ref h0), (1, .int x1)]) [0, 1] rfl ?_
  exact w_X9_message_69 C hZ hR hN _ _ _ hf
set_option maxHeartbeats 4000000 in
set_option maxRecDepth 100000 in
theorem w_X9_message_49 {E : sv_E} {X : sv_X} {sz : Nat} {q : md_B} {h0 : Nat} {ad : Nat → Nat} (C : sv_C E X cX9_message RX9 []) (hZ : sv_Z E X none none (md_w E h0 ad q) sz 0 0) (hR : sv_R X = { frames := 5, cells := 0, slots := 0, locals := 112 }) (hN : sv_nL X = 6) (B : md_B) (x1 : Int32) (hf : f_X9_message_49 B x1 = some q) : sv_J E X (md_w E h0 ad B) sz 0 0 49 [(0, .ref h0), (1, .int x1)] [] := by
  rw [f_X9_message_49] at hf
  refine sv_iload_n 1 C dX9_message_49 rfl rfl ?_
  refine sv_iconst (v := 5) C dX9_message_50 (by decide) ?_
  refine sv_icmp_ne (tgt := 68) C dX9_message_51 (by decide) (fun c51 => ?_) (fun c51 => ?_)
  · replace hf := sv_if_f c51 hf
    refine sv_sub (lv' := [(0, .ref h0), (1, .int x1)]) [0, 1] rfl ?_
    exact w_X9_message_68 C hZ hR hN _ _ hf
  · replace hf := sv_if_t c51 hf
    refine sv_aload_n 0 C dX9_message_54 rfl rfl ?_
    refine md_geti C fl_X9_277 (by decide) dX9_message_55 ?_
    refine sv_sipush (v := 424) C dX9_message_58 (by decide) ?_
    refine sv_icmp_ne (tgt := 68) C dX9_message_61 (by decide) (fun c61 => ?_) (fun c61 => ?_)
    · replace hf := sv_if_f c61 hf
      refine sv_sub (lv' := [(0, .ref h0), (1, .int x1)]) [0, 1] rfl ?_
      exact w_X9_message_68 C hZ hR hN _ _ hf
    · replace hf := sv_if_t c61 hf
      refine sv_sub (lv' := [(0, .ref h0), (1, .int x1)]) [0, 1] rfl ?_
      exact w_X9_message_64 C hZ hR hN _ _ hf
set_option maxHeartbeats 4000000 in
set_option maxRecDepth 100000 in
theorem w_X9_message_39 {E : sv_E} {X : sv_X} {sz : Nat} {q : md_B} {h0 : Nat} {ad : Nat → Nat} (C : sv_C E X cX9_message RX9 []) (hZ : sv_Z E X none none (md_w E h0 ad q) sz 0 0) (hR : sv_R X = { frames := 5, cells := 0, slots := 0, locals := 112 }) (hN : sv_nL X = 6) (B : md_B) (x1 : Int32) (hf : f_X9_message_39 B x1 = some q) : sv_J E X (md_w E h0 ad B) sz 0 0 39 [(0, .ref h0), (1, .int x1)] [] := by
  rw [f_X9_message_39] at hf
  refine sv_aload_n 0 C dX9_message_39 rfl rfl ?_
  refine md_geti C fl_X9_277 (by decide) dX9_message_40 ?_
  refine sv_sipush (v := 168) C dX9_message_43 (by decide) ?_
  refine sv_icmp_eq (tgt := 64) C dX9_message_46 (by decide) (fun c46 => ?_) (fun c46 => ?_)
  · replace hf := sv_if_t c46 hf
    refine sv_sub (lv' := [(0, .ref h0), (1, .int x1)]) [0, 1] rfl ?_
    exact w_X9_message_64 C hZ hR hN _ _ hf
  · replace hf := sv_if_f c46 hf
    refine sv_sub (lv' := [(0, .ref h0), (1, .int x1)]) [0, 1] rfl ?_
    exact w_X9_message_49 C hZ hR hN _ _ hf
set_option maxHeartbeats 4000000 in
set_option maxRecDepth 100000 in
theorem w_X9_message_20 {E : sv_E} {X : sv_X} {sz : Nat} {q : md_B} {h0 : Nat} {ad : Nat → Nat} (C : sv_C E X cX9_message RX9 []) (hZ : sv_Z E X none none (md_w E h0 ad q) sz 0 0) (hR : sv_R X = { frames := 5, cells := 0, slots := 0, locals := 112 }) (hN : sv_nL X = 6) (B : md_B) (s0 : Int32) (hf : f_X9_message_20 B s0 = some q) : sv_J E X (md_w E h0 ad B) sz 0 0 20 [(0, .ref h0)] [.int s0] := by
  rw [f_X9_message_20] at hf
  refine sv_istore_n (lv' := [(1, .int s0), (0, .ref h0)]) C dX9_message_20 rfl (by rw [hN]; decide) rfl ?_
  refine sv_iload_n 0 C dX9_message_21 rfl rfl ?_
  refine sv_i2l C dX9_message_22 ?_
  refine sv_lconst (v := 1) C dX9_message_23 (by decide) ?_
  refine sv_ldc2 C kw_741 dX9_message_24 ?_
  obtain ⟨q27, hc27, hf⟩ := sv_bind_some hf
  refine sv_callS0 C ms_X9_74 (m_X9_in (sv_l X) E h0 ad sz _ _ _ _ _ hc27) sv_sx0 rfl rfl (Nat.le_of_ble_eq_true rfl) ⟨by rw [hR]; decide, by rw [hR]; decide⟩ ⟨by rw [hR]; decide, by rw [hR]; decide⟩ dX9_message_27 ?_
  refine sv_if_ne (tgt := 39) C dX9_message_30 (by decide) (fun c30 => ?_) (fun c30 => ?_)
  · replace hf := sv_if_f c30 hf
    refine sv_sub (lv' := [(0, .ref h0), (1, .int s0)]) [1, 0] rfl ?_
    exact w_X9_message_39 C hZ hR hN _ _ hf
  · replace hf := sv_if_t c30 hf
    refine sv_iload_n 0 C dX9_message_33 rfl rfl ?_
    refine sv_bipush (v := 18) C dX9_message_34 (by decide) ?_
    refine sv_icmp_ne (tgt := 49) C dX9_message_36 (by decide) (fun c36 => ?_) (fun c36 => ?_)
    · replace hf := sv_if_f c36 hf
      refine sv_sub (lv' := [(0, .ref h0), (1, .int s0)]) [1, 0] rfl ?_
      exact w_X9_message_49 C hZ hR hN _ _ hf
    · replace hf := sv_if_t c36 hf
      refine sv_sub (lv' := [(0, .ref h0), (1, .int s0)]) [1, 0] rfl ?_
      exact w_X9_message_39 C hZ hR hN _ _ hf
set_option maxHeartbeats 4000000 in
set_option maxRecDepth 100000 in
theorem m_X9_message (l : Launch) (E : sv_E) (h0 : Nat) (ad : Nat → Nat) (sz : Nat) (B : md_B) (q : md_B) (hf : f_X9_message B = some q) : sv_Met l E yX9_message cX9_message 6 none 5 112 [] [.ref h0] (md_w E h0 ad B) sz none (md_w E h0 ad q) sz 0 0 := by
  refine sv_ofJ (by decide) (Nat.le_of_ble_eq_true rfl) ?_
  intro X hX hN hnm hR C hZ
  replace C : sv_C E X cX9_message RX9 [] := C
  show sv_J E X (md_w E h0 ad B) sz 0 0 0 [(0, .ref h0)] []
  rw [f_X9_message] at hf
  refine sv_aload_n 0 C dX9_message_0 rfl rfl ?_
  refine md_geti C fl_X9_277 (by decide) dX9_message_1 ?_
  refine sv_bipush (v := 38) C dX9_message_4 (by decide) ?_
  refine sv_icmp_ge (tgt := 13) C dX9_message_6 (by decide) (fun c6 => ?_) (fun c6 => ?_)
  · replace hf := sv_if_t c6 hf
    refine sv_aload_n 0 C dX9_message_13 rfl rfl ?_
    refine sv_iconst (v := 0) C dX9_message_14 (by decide) ?_
    refine sv_bipush (v := 6) C dX9_message_15 (by decide) ?_
    obtain ⟨q17, hc17, hf⟩ := sv_bind_some hf
    refine sv_callV0 C mv_X9_286 (m_X9_read (sv_l X) E h0 ad sz _ _ _ _ hc17) sv_sx0 0 rfl rfl rfl rfl (Nat.le_of_ble_eq_true rfl) ⟨by rw [hR]; decide, by rw [hR]; decide⟩ ⟨by rw [hR]; decide, by rw [hR]; decide⟩ dX9_message_17 ?_
    refine sv_sub (lv' := [(0, .ref h0)]) [0] rfl ?_
    exact w_X9_message_20 C hZ hR hN _ _ hf
  · replace hf := sv_if_f c6 hf
    refine sv_iconst (v := 0) C dX9_message_9 (by decide) ?_
    refine sv_goto (tgt := 20) C dX9_message_10 (by decide) ?_
    refine sv_sub (lv' := [(0, .ref h0)]) [0] rfl ?_
    exact w_X9_message_20 C hZ hR hN _ _ hf
def f_X9_parted_234 (k156 : md_B → Int32 → Int32 → Option (md_B)) (B : md_B) (x1 : Int32) (x2 : Int32) (s0 : Int32) (s1 : Int32) : Option (md_B) :=
  sv_g (sv_inb s1 35640) (
    k156 (md_pa B 24 s1 (vp_nar .boolean s0)) x1 (x2 + 1))
def f_X9_parted_188 (k156 : md_B → Int32 → Int32 → Option (md_B)) (B : md_B) (x1 : Int32) (x2 : Int32) (s0 : Int32) : Option (md_B) :=
  sv_g (sv_inb (B.1 19) 11) (
    if ((s0 >>> ((5 - (x2 - x2 / 6 * 6)) &&& 31)) &&& 1) = 1 then
      f_X9_parted_234 k156 B x1 x2 1 ((((B.1 19) * 3240) + (B.2 23 (B.1 19).toNatClampNeg)) + x2)
    else
      f_X9_parted_234 k156 B x1 x2 0 ((((B.1 19) * 3240) + (B.2 23 (B.1 19).toNatClampNeg)) + x2))
def f_X9_parted_280 : Nat → md_B → Int32 → Option (md_B)
  | 0, _, _ => none
  | n + 1, B, x2 =>
    if (B.1 26) ≤ x2 then
      sv_g (sv_inb (B.1 19) 11) (
        (f_X9_message (md_pf (md_pa B 22 (B.1 19) 0) 27 1)).bind (fun q331 =>
          some (q331)))
    else
      sv_g (sv_inb (((B.1 19) * 3240) + x2) 35640) (
        sv_g (sv_inb x2 3240) (
          (f_X9_parted_280 n) (md_pa B 25 x2 (vp_nar .boolean (B.2 24 (((B.1 19) * 3240) + x2).toNatClampNeg))) (x2 + 1)))
def f_X9_parted_156 : Nat → md_B → Int32 → Int32 → Option (md_B)
  | 0, _, _, _ => none
  | n + 1, B, x1, x2 =>
    if x1 ≤ x2 then
      sv_g (sv_inb (B.1 19) 11) (
        sv_g (sv_inb (B.1 19) 11) (
          if ((md_pa B 23 (B.1 19) ((B.2 23 (B.1 19).toNatClampNeg) + x1)).1 18) = ((md_pa B 23 (B.1 19) ((B.2 23 (B.1 19).toNatClampNeg) + x1)).1 17) then
            sv_g (sv_inb ((md_pa B 23 (B.1 19) ((B.2 23 (B.1 19).toNatClampNeg) + x1)).1 19) 11) (
              f_X9_parted_280 sv_fu (md_pf (md_pa B 23 (B.1 19) ((B.2 23 (B.1 19).toNatClampNeg) + x1)) 26 ((md_pa B 23 (B.1 19) ((B.2 23 (B.1 19).toNatClampNeg) + x1)).2 23 ((md_pa B 23 (B.1 19) ((B.2 23 (B.1 19).toNatClampNeg) + x1)).1 19).toNatClampNeg)) 0)
          else
            some (md_pa B 23 (B.1 19) ((B.2 23 (B.1 19).toNatClampNeg) + x1))))
    else
      (f_X9_at B 5 (x2 / 6)).bind (fun q167 =>
        if (q167.1 - 48) ≤ 40 then
          f_X9_parted_188 (f_X9_parted_156 n) q167.2 x1 x2 (q167.1 - 48)
        else
          f_X9_parted_188 (f_X9_parted_156 n) q167.2 x1 x2 ((q167.1 - 48) - 8))
def f_X9_parted_114 (B : md_B) : Option (md_B) :=
  sv_g (sv_inb (B.1 19) 11) (
    sv_g (sv_inb ((md_pa B 21 (B.1 19) (B.1 17)).1 19) 11) (
      sv_g (sv_inb ((md_pa B 21 (B.1 19) (B.1 17)).1 19) 11) (
        (f_X9_size (md_pa (md_pa B 21 (B.1 19) (B.1 17)) 22 ((md_pa B 21 (B.1 19) (B.1 17)).1 19) (((md_pa B 21 (B.1 19) (B.1 17)).2 22 ((md_pa B 21 (B.1 19) (B.1 17)).1 19).toNatClampNeg) + 1)) 5).bind (fun q144 =>
          f_X9_parted_156 sv_fu q144.2 ((6 * q144.1) - (q144.2.1 20)) 0))))
def f_X9_parted_33 (B : md_B) (s0 : Int32) (s1 : Int32) (s2 : Int32) : Option (md_B) :=
  sv_g (sv_inb s2 9) (
    sv_g (sv_inb ((md_pa B 10 s2 (s1 + s0)).1 19) 11) (
      sv_g (sv_inb ((md_pa (md_pa B 10 s2 (s1 + s0)) 22 ((md_pa B 10 s2 (s1 + s0)).1 19) 0).1 19) 11) (
        f_X9_parted_114 (md_pa (md_pa (md_pa B 10 s2 (s1 + s0)) 22 ((md_pa B 10 s2 (s1 + s0)).1 19) 0) 23 ((md_pa (md_pa B 10 s2 (s1 + s0)) 22 ((md_pa B 10 s2 (s1 + s0)).1 19) 0).1 19) 0))))
def f_X9_parted_92 (B : md_B) : Option (md_B) :=
  sv_g (sv_inb ((md_pa B 10 7 ((B.2 10 (7 : Int32).toNatClampNeg) + 1)).1 19) 11) (
    some (md_pa (md_pa B 10 7 ((B.2 10 (7 : Int32).toNatClampNeg) + 1)) 22 ((md_pa B 10 7 ((B.2 10 (7 : Int32).toNatClampNeg) + 1)).1 19) 0))
def f_X9_parted (B : md_B) : Option (md_B) :=
  if (B.1 18) = 1 then
    sv_g (sv_inb (B.1 19) 11) (
      if (B.2 22 (B.1 19).toNatClampNeg) ≤ 0 then
        f_X9_parted_33 B 0 (B.2 10 (7 : Int32).toNatClampNeg) 7
      else
        f_X9_parted_33 B 1 (B.2 10 (7 : Int32).toNatClampNeg) 7)
  else
    sv_g (sv_inb (B.1 19) 11) (
      if (B.2 21 (B.1 19).toNatClampNeg) = (B.1 17) then
        sv_g (sv_inb (B.1 19) 11) (
          if (B.2 22 (B.1 19).toNatClampNeg) = ((B.1 18) - 1) then
            f_X9_parted_114 B
          else
            f_X9_parted_92 B)
      else
        f_X9_parted_92 B)
set_option maxHeartbeats 4000000 in
set_option maxRecDepth 100000 in
theorem w_X9_parted_234 {E : sv_E} {X : sv_X} {sz : Nat} {q : md_B} {h0 : Nat} {ad : Nat → Nat} (C : sv_C E X cX9_parted RX9 []) (hZ : sv_Z E X none none (md_w E h0 ad q) sz 0 0) (hR : sv_R X = { frames := 6, cells := 0, slots := 0, locals := 137 }) (hN : sv_nL X = 5) {k156 : md_B → Int32 → Int32 → Option (md_B)} (hk156 : ∀ (B : md_B) (x1 : Int32) (x2 : Int32), k156 B x1 x2 = some q → sv_J E X (md_w E h0 ad B) sz 0 0 156 [(0, .ref h0), (1, .int x1), (2, .int x2)] []) (B : md_B) (x1 : Int32) (x2 : Int32) (s0 : Int32) (s1 : Int32) (hf : f_X9_parted_234 k156 B x1 x2 s0 s1 = some q) : sv_J E X (md_w E h0 ad B) sz 0 0 234 [(0, .ref h0), (1, .int x1), (2, .int x2)] [.int s0, .int s1, .ref (ad 24)] := by
  rw [f_X9_parted_234] at hf
  obtain ⟨g234, hf⟩ := sv_g_some hf
  refine md_zast C 11 rfl g234 dX9_parted_234 ?_
  refine sv_iinc (v := x2 + 1) (lv' := [(2, .int (x2 + 1)), (0, .ref h0), (1, .int x1)]) 2 C dX9_parted_235 rfl rfl (by rw [hN]; decide) rfl ?_
  refine sv_goto (tgt := 156) C dX9_parted_238 (by decide) ?_
  refine sv_sub (lv' := [(0, .ref h0), (1, .int x1), (2, .int (x2 + 1))]) [1, 2, 0] rfl ?_
  exact hk156 _ _ _ hf
set_option maxHeartbeats 4000000 in
set_option maxRecDepth 100000 in
theorem w_X9_parted_188 {E : sv_E} {X : sv_X} {sz : Nat} {q : md_B} {h0 : Nat} {ad : Nat → Nat} (C : sv_C E X cX9_parted RX9 []) (hZ : sv_Z E X none none (md_w E h0 ad q) sz 0 0) (hR : sv_R X = { frames := 6, cells := 0, slots := 0, locals := 137 }) (hN : sv_nL X = 5) {k156 : md_B → Int32 → Int32 → Option (md_B)} (hk156 : ∀ (B : md_B) (x1 : Int32) (x2 : Int32), k156 B x1 x2 = some q → sv_J E X (md_w E h0 ad B) sz 0 0 156 [(0, .ref h0), (1, .int x1), (2, .int x2)] []) (B : md_B) (x1 : Int32) (x2 : Int32) (s0 : Int32) (hf : f_X9_parted_188 k156 B x1 x2 s0 = some q) : sv_J E X (md_w E h0 ad B) sz 0 0 188 [(0, .ref h0), (1, .int x1), (2, .int x2)] [.int s0] := by
  rw [f_X9_parted_188] at hf
  refine sv_istore (lv' := [(4, .int s0), (0, .ref h0), (1, .int x1), (2, .int x2)]) C dX9_parted_188 (by rw [hN]; decide) rfl ?_
  refine sv_aload_n 1 C dX9_parted_190 rfl rfl ?_
  refine md_getr C fl_X9_48 (by decide) dX9_parted_191 ?_
  refine sv_aload_n 1 C dX9_parted_194 rfl rfl ?_
  refine md_geti C fl_X9_254 (by decide) dX9_parted_195 ?_
  refine sv_sipush (v := 3240) C dX9_parted_198 (by decide) ?_
  refine sv_imul C dX9_parted_201 ?_
  refine sv_aload_n 1 C dX9_parted_202 rfl rfl ?_
  refine md_getr C fl_X9_44 (by decide) dX9_parted_203 ?_
  refine sv_aload_n 1 C dX9_parted_206 rfl rfl ?_
  refine md_geti C fl_X9_254 (by decide) dX9_parted_207 ?_
  obtain ⟨g210, hf⟩ := sv_g_some hf
  refine md_iald C 10 rfl g210 dX9_parted_210 ?_
  refine sv_iadd C dX9_parted_211 ?_
  refine sv_iload_n 3 C dX9_parted_212 rfl rfl ?_
  refine sv_iadd C dX9_parted_213 ?_
  refine sv_iload 0 C dX9_parted_214 rfl ?_
  refine sv_iconst (v := 5) C dX9_parted_216 (by decide) ?_
  refine sv_iload_n 3 C dX9_parted_217 rfl rfl ?_
  refine sv_bipush (v := 6) C dX9_parted_218 (by decide) ?_
  refine sv_irem C dX9_parted_220 (by decide) ?_
  refine sv_isub C dX9_parted_221 ?_
  refine sv_ishr C dX9_parted_222 ?_
  refine sv_iconst (v := 1) C dX9_parted_223 (by decide) ?_
  refine sv_iand C dX9_parted_224 ?_
  refine sv_iconst (v := 1) C dX9_parted_225 (by decide) ?_
  refine sv_icmp_ne (tgt := 233) C dX9_parted_226 (by decide) (fun c226 => ?_) (fun c226 => ?_)
  · replace hf := sv_if_f c226 hf
    refine sv_iconst (v := 0) C dX9_parted_233 (by decide) ?_
    refine sv_sub (lv' := [(0, .ref h0), (1, .int x1), (2, .int x2)]) [1, 2, 3] rfl ?_
    exact w_X9_parted_234 C hZ hR hN hk156 _ _ _ _ _ hf
  · replace hf := sv_if_t c226 hf
    refine sv_iconst (v := 1) C dX9_parted_229 (by decide) ?_
    refine sv_goto (tgt := 234) C dX9_parted_230 (by decide) ?_
    refine sv_sub (lv' := [(0, .ref h0), (1, .int x1), (2, .int x2)]) [1, 2, 3] rfl ?_
    exact w_X9_parted_234 C hZ hR hN hk156 _ _ _ _ _ hf
set_option maxHeartbeats 4000000 in
set_option maxRecDepth 100000 in
theorem w_X9_parted_280 {E : sv_E} {X : sv_X} {sz : Nat} {q : md_B} {h0 : Nat} {ad : Nat → Nat} (C : sv_C E X cX9_parted RX9 []) (hZ : sv_Z E X none none (md_w E h0 ad q) sz 0 0) (hR : sv_R X = { frames := 6, cells := 0, slots := 0, locals := 137 }) (hN : sv_nL X = 5) : ∀ (n : Nat) (B : md_B) (x2 : Int32), f_X9_parted_280 n B x2 = some q → sv_J E X (md_w E h0 ad B) sz 0 0 280 [(0, .ref h0), (2, .int x2)] [] := by
  intro n
  induction n with
  | zero =>
    intro B x2 hf
    rw [f_X9_parted_280] at hf
    cases hf
  | succ n ih =>
    intro B x2 hf
    rw [f_X9_parted_280] at hf
    refine sv_iload_n 1 C dX9_parted_280 rfl rfl ?_
    refine sv_aload_n 0 C dX9_parted_281 rfl rfl ?_
    refine md_geti C fl_X9_277 (by decide) dX9_parted_282 ?_
    refine sv_icmp_ge (tgt := 315) C dX9_parted_285 (by decide) (fun c285 => ?_) (fun c285 => ?_)
    · replace hf := sv_if_t c285 hf
      refine sv_aload_n 0 C dX9_parted_315 rfl rfl ?_
      refine md_getr C fl_X9_41 (by decide) dX9_parted_316 ?_
      refine sv_aload_n 0 C dX9_parted_319 rfl rfl ?_
      refine md_geti C fl_X9_254 (by decide) dX9_parted_320 ?_
      refine sv_iconst (v := 0) C dX9_parted_323 (by decide) ?_
      obtain ⟨g324, hf⟩ := sv_g_some hf
      refine md_iast C 9 rfl g324 dX9_parted_324 ?_
      refine sv_aload_n 0 C dX9_parted_325 rfl rfl ?_
      refine sv_iconst (v := 1) C dX9_parted_326 (by decide) ?_
      refine md_puti C fl_X9_280 (by decide) (by decide) (by decide) dX9_parted_327 ?_
      refine sv_aload_n 0 C dX9_parted_330 rfl rfl ?_
      obtain ⟨q331, hc331, hf⟩ := sv_bind_some hf
      refine sv_callV0 C mv_X9_283 (m_X9_message (sv_l X) E h0 ad sz _ _ hc331) sv_sx0 0 rfl rfl rfl rfl (Nat.le_of_ble_eq_true rfl) ⟨by rw [hR]; decide, by rw [hR]; decide⟩ ⟨by rw [hR]; decide, by rw [hR]; decide⟩ dX9_parted_331 ?_
      exact sv_vret C (by cases hf; exact hZ) dX9_parted_334
    · replace hf := sv_if_f c285 hf
      refine sv_aload_n 0 C dX9_parted_288 rfl rfl ?_
      refine md_getr C fl_X9_52 (by decide) dX9_parted_289 ?_
      refine sv_iload_n 1 C dX9_parted_292 rfl rfl ?_
      refine sv_aload_n 0 C dX9_parted_293 rfl rfl ?_
      refine md_getr C fl_X9_48 (by decide) dX9_parted_294 ?_
      refine sv_aload_n 0 C dX9_parted_297 rfl rfl ?_
      refine md_geti C fl_X9_254 (by decide) dX9_parted_298 ?_
      refine sv_sipush (v := 3240) C dX9_parted_301 (by decide) ?_
      refine sv_imul C dX9_parted_304 ?_
      refine sv_iload_n 1 C dX9_parted_305 rfl rfl ?_
      refine sv_iadd C dX9_parted_306 ?_
      obtain ⟨g307, hf⟩ := sv_g_some hf
      refine md_zald C 11 rfl g307 dX9_parted_307 ?_
      obtain ⟨g308, hf⟩ := sv_g_some hf
      refine md_zast C 12 rfl g308 dX9_parted_308 ?_
      refine sv_iinc (v := x2 + 1) (lv' := [(2, .int (x2 + 1)), (0, .ref h0)]) 1 C dX9_parted_309 rfl rfl (by rw [hN]; decide) rfl ?_
      refine sv_goto (tgt := 280) C dX9_parted_312 (by decide) ?_
      refine sv_sub (lv' := [(0, .ref h0), (2, .int (x2 + 1))]) [1, 0] rfl ?_
      exact ih _ _ hf
set_option maxHeartbeats 4000000 in
set_option maxRecDepth 100000 in
theorem w_X9_parted_156 {E : sv_E} {X : sv_X} {sz : Nat} {q : md_B} {h0 : Nat} {ad : Nat → Nat} (C : sv_C E X cX9_parted RX9 []) (hZ : sv_Z E X none none (md_w E h0 ad q) sz 0 0) (hR : sv_R X = { frames := 6, cells := 0, slots := 0, locals := 137 }) (hN : sv_nL X = 5) : ∀ (n : Nat) (B : md_B) (x1 : Int32) (x2 : Int32), f_X9_parted_156 n B x1 x2 = some q → sv_J E X (md_w E h0 ad B) sz 0 0 156 [(0, .ref h0), (1, .int x1), (2, .int x2)] [] := by
  intro n
  induction n with
  | zero =>
    intro B x1 x2 hf
    rw [f_X9_parted_156] at hf
    cases hf
  | succ n ih =>
    intro B x1 x2 hf
    rw [f_X9_parted_156] at hf
    refine sv_iload_n 2 C dX9_parted_156 rfl rfl ?_
    refine sv_iload_n 1 C dX9_parted_157 rfl rfl ?_
    refine sv_icmp_ge (tgt := 241) C dX9_parted_158 (by decide) (fun c158 => ?_) (fun c158 => ?_)
    · replace hf := sv_if_t c158 hf
      refine sv_aload_n 0 C dX9_parted_241 rfl rfl ?_
      refine md_getr C fl_X9_44 (by decide) dX9_parted_242 ?_
      refine sv_aload_n 0 C dX9_parted_245 rfl rfl ?_
      refine md_geti C fl_X9_254 (by decide) dX9_parted_246 ?_
      refine sv_dup2 C dX9_parted_249 rfl rfl ?_
      obtain ⟨g250, hf⟩ := sv_g_some hf
      refine md_iald C 10 rfl g250 dX9_parted_250 ?_
      refine sv_iload_n 1 C dX9_parted_251 rfl rfl ?_
      refine sv_iadd C dX9_parted_252 ?_
      obtain ⟨g253, hf⟩ := sv_g_some hf
      refine md_iast C 10 rfl g253 dX9_parted_253 ?_
      refine sv_aload_n 0 C dX9_parted_254 rfl rfl ?_
      refine md_geti C fl_X9_251 (by decide) dX9_parted_255 ?_
      refine sv_aload_n 0 C dX9_parted_258 rfl rfl ?_
      refine md_geti C fl_X9_248 (by decide) dX9_parted_259 ?_
      refine sv_icmp_ne (tgt := 334) C dX9_parted_262 (by decide) (fun c262 => ?_) (fun c262 => ?_)
      · replace hf := sv_if_f c262 hf
        exact sv_vret C (by cases hf; exact hZ) dX9_parted_334
      · replace hf := sv_if_t c262 hf
        refine sv_aload_n 0 C dX9_parted_265 rfl rfl ?_
        refine sv_aload_n 0 C dX9_parted_266 rfl rfl ?_
        refine md_getr C fl_X9_44 (by decide) dX9_parted_267 ?_
        refine sv_aload_n 0 C dX9_parted_270 rfl rfl ?_
        refine md_geti C fl_X9_254 (by decide) dX9_parted_271 ?_
        obtain ⟨g274, hf⟩ := sv_g_some hf
        refine md_iald C 10 rfl g274 dX9_parted_274 ?_
        refine md_puti C fl_X9_277 (by decide) rfl rfl dX9_parted_275 ?_
        refine sv_iconst (v := 0) C dX9_parted_278 (by decide) ?_
        refine sv_istore_n (lv' := [(2, .int 0), (0, .ref h0), (1, .int x1)]) C dX9_parted_279 rfl (by rw [hN]; decide) rfl ?_
        refine sv_sub (lv' := [(0, .ref h0), (2, .int 0)]) [1, 0] rfl ?_
        exact w_X9_parted_280 C hZ hR hN sv_fu _ _ hf
    · replace hf := sv_if_f c158 hf
      refine sv_aload_n 0 C dX9_parted_161 rfl rfl ?_
      refine sv_iconst (v := 5) C dX9_parted_162 (by decide) ?_
      refine sv_iload_n 2 C dX9_parted_163 rfl rfl ?_
      refine sv_bipush (v := 6) C dX9_parted_164 (by decide) ?_
      refine sv_idiv C dX9_parted_166 (by decide) ?_
      obtain ⟨q167, hc167, hf⟩ := sv_bind_some hf
      refine sv_callV0 C mv_X9_156 (m_X9_at (sv_l X) E h0 ad sz _ _ _ _ hc167) sv_sx0 0 rfl rfl rfl rfl (Nat.le_of_ble_eq_true rfl) ⟨by rw [hR]; decide, by rw [hR]; decide⟩ ⟨by rw [hR]; decide, by rw [hR]; decide⟩ dX9_parted_167 ?_
      refine sv_bipush (v := 48) C dX9_parted_170 (by decide) ?_
      refine sv_isub C dX9_parted_172 ?_
      refine sv_istore_n (lv' := [(3, .int (q167.1 - 48)), (0, .ref h0), (1, .int x1), (2, .int x2)]) C dX9_parted_173 rfl (by rw [hN]; decide) rfl ?_
      refine sv_iload_n 0 C dX9_parted_174 rfl rfl ?_
      refine sv_bipush (v := 40) C dX9_parted_175 (by decide) ?_
      refine sv_icmp_le (tgt := 187) C dX9_parted_177 (by decide) (fun c177 => ?_) (fun c177 => ?_)
      · replace hf := sv_if_t c177 hf
        refine sv_iload_n 0 C dX9_parted_187 rfl rfl ?_
        refine sv_sub (lv' := [(0, .ref h0), (1, .int x1), (2, .int x2)]) [1, 2, 3] rfl ?_
        exact w_X9_parted_188 C hZ hR hN ih _ _ _ _ hf
      · replace hf := sv_if_f c177 hf
        refine sv_iload_n 0 C dX9_parted_180 rfl rfl ?_
        refine sv_bipush (v := 8) C dX9_parted_181 (by decide) ?_
        refine sv_isub C dX9_parted_183 ?_
        refine sv_goto (tgt := 188) C dX9_parted_184 (by decide) ?_
        refine sv_sub (lv' := [(0, .ref h0), (1, .int x1), (2, .int x2)]) [1, 2, 3] rfl ?_
        exact w_X9_parted_188 C hZ hR hN ih _ _ _ _ hf
set_option maxHeartbeats 4000000 in
set_option maxRecDepth 100000 in
theorem w_X9_parted_114 {E : sv_E} {X : sv_X} {sz : Nat} {q : md_B} {h0 : Nat} {ad : Nat → Nat} (C : sv_C E X cX9_parted RX9 []) (hZ : sv_Z E X none none (md_w E h0 ad q) sz 0 0) (hR : sv_R X = { frames := 6, cells := 0, slots := 0, locals := 137 }) (hN : sv_nL X = 5) (B : md_B) (hf : f_X9_parted_114 B = some q) : sv_J E X (md_w E h0 ad B) sz 0 0 114 [(0, .ref h0)] [] := by
  rw [f_X9_parted_114] at hf
  refine sv_aload_n 0 C dX9_parted_114 rfl rfl ?_
  refine md_getr C fl_X9_38 (by decide) dX9_parted_115 ?_
  refine sv_aload_n 0 C dX9_parted_118 rfl rfl ?_
  refine md_geti C fl_X9_254 (by decide) dX9_parted_119 ?_
  refine sv_aload_n 0 C dX9_parted_122 rfl rfl ?_
  refine md_geti C fl_X9_248 (by decide) dX9_parted_123 ?_
  obtain ⟨g126, hf⟩ := sv_g_some hf
  refine md_iast C 8 rfl g126 dX9_parted_126 ?_
  refine sv_aload_n 0 C dX9_parted_127 rfl rfl ?_
  refine md_getr C fl_X9_41 (by decide) dX9_parted_128 ?_
  refine sv_aload_n 0 C dX9_parted_131 rfl rfl ?_
  refine md_geti C fl_X9_254 (by decide) dX9_parted_132 ?_
  refine sv_dup2 C dX9_parted_135 rfl rfl ?_
  obtain ⟨g136, hf⟩ := sv_g_some hf
  refine md_iald C 9 rfl g136 dX9_parted_136 ?_
  refine sv_iconst (v := 1) C dX9_parted_137 (by decide) ?_
  refine sv_iadd C dX9_parted_138 ?_
  obtain ⟨g139, hf⟩ := sv_g_some hf
  refine md_iast C 9 rfl g139 dX9_parted_139 ?_
  refine sv_bipush (v := 6) C dX9_parted_140 (by decide) ?_
  refine sv_aload_n 0 C dX9_parted_142 rfl rfl ?_
  refine sv_iconst (v := 5) C dX9_parted_143 (by decide) ?_
  obtain ⟨q144, hc144, hf⟩ := sv_bind_some hf
  refine sv_callV0 C mv_X9_153 (m_X9_size (sv_l X) E h0 ad sz _ _ _ hc144) sv_sx0 0 rfl rfl rfl rfl (Nat.le_of_ble_eq_true rfl) ⟨by rw [hR]; decide, by rw [hR]; decide⟩ ⟨by rw [hR]; decide, by rw [hR]; decide⟩ dX9_parted_144 ?_
  refine sv_imul C dX9_parted_147 ?_
  refine sv_aload_n 0 C dX9_parted_148 rfl rfl ?_
  refine md_geti C fl_X9_259 (by decide) dX9_parted_149 ?_
  refine sv_isub C dX9_parted_152 ?_
  refine sv_istore_n (lv' := [(1, .int ((6 * q144.1) - (q144.2.1 20))), (0, .ref h0)]) C dX9_parted_153 rfl (by rw [hN]; decide) rfl ?_
  refine sv_iconst (v := 0) C dX9_parted_154 (by decide) ?_
  refine sv_istore_n (lv' := [(2, .int 0), (1, .int ((6 * q144.1) - (q144.2.1 20))), (0, .ref h0)]) C dX9_parted_155 rfl (by rw [hN]; decide) rfl ?_
  refine sv_sub (lv' := [(0, .ref h0), (1, .int ((6 * q144.1) - (q144.2.1 20))), (2, .int 0)]) [2, 1, 0] rfl ?_
  exact w_X9_parted_156 C hZ hR hN sv_fu _ _ _ hf
set_option maxHeartbeats 4000000 in
set_option maxRecDepth 100000 in
theorem w_X9_parted_33 {E : sv_E} {X : sv_X} {sz : Nat} {q : md_B} {h0 : Nat} {ad : Nat → Nat} (C : sv_C E X cX9_parted RX9 []) (hZ : sv_Z E X none none (md_w E h0 ad q) sz 0 0) (hR : sv_R X = { frames := 6, cells := 0, slots := 0, locals := 137 }) (hN : sv_nL X = 5) (B : md_B) (s0 : Int32) (s1 : Int32) (s2 : Int32) (hf : f_X9_parted_33 B s0 s1 s2 = some q) : sv_J E X (md_w E h0 ad B) sz 0 0 33 [(0, .ref h0)] [.int s0, .int s1, .int s2, .ref (ad 10)] := by
  rw [f_X9_parted_33] at hf
  refine sv_iadd C dX9_parted_33 ?_
  obtain ⟨g34, hf⟩ := sv_g_some hf
  refine md_iast C 3 rfl g34 dX9_parted_34 ?_
  refine sv_aload_n 0 C dX9_parted_35 rfl rfl ?_
  refine md_getr C fl_X9_41 (by decide) dX9_parted_36 ?_
  refine sv_aload_n 0 C dX9_parted_39 rfl rfl ?_
  refine md_geti C fl_X9_254 (by decide) dX9_parted_40 ?_
  refine sv_iconst (v := 0) C dX9_parted_43 (by decide) ?_
  obtain ⟨g44, hf⟩ := sv_g_some hf
  refine md_iast C 9 rfl g44 dX9_parted_44 ?_
  refine sv_aload_n 0 C dX9_parted_45 rfl rfl ?_
  refine md_getr C fl_X9_44 (by decide) dX9_parted_46 ?_
  refine sv_aload_n 0 C dX9_parted_49 rfl rfl ?_
  refine md_geti C fl_X9_254 (by decide) dX9_parted_50 ?_
  refine sv_iconst (v := 0) C dX9_parted_53 (by decide) ?_
  obtain ⟨g54, hf⟩ := sv_g_some hf
  refine md_iast C 10 rfl g54 dX9_parted_54 ?_
  refine sv_goto (tgt := 114) C dX9_parted_55 (by decide) ?_
  refine sv_sub (lv' := [(0, .ref h0)]) [0] rfl ?_
  exact w_X9_parted_114 C hZ hR hN _ hf
set_option maxHeartbeats 4000000 in
set_option maxRecDepth 100000 in
theorem w_X9_parted_92 {E : sv_E} {X : sv_X} {sz : Nat} {q : md_B} {h0 : Nat} {ad : Nat → Nat} (C : sv_C E X cX9_parted RX9 []) (hZ : sv_Z E X none none (md_w E h0 ad q) sz 0 0) (hR : sv_R X = { frames := 6, cells := 0, slots := 0, locals := 137 }) (hN : sv_nL X = 5) (B : md_B) (hf : f_X9_parted_92 B = some q) : sv_J E X (md_w E h0 ad B) sz 0 0 92 [(0, .ref h0)] [] := by
  rw [f_X9_parted_92] at hf
  refine sv_aload_n 0 C dX9_parted_92 rfl rfl ?_
  refine md_getr C fl_X9_23 (by decide) dX9_parted_93 ?_
  refine sv_bipush (v := 7) C dX9_parted_96 (by decide) ?_
  refine sv_dup2 C dX9_parted_98 rfl rfl ?_
  refine md_iald C 3 rfl (by decide) dX9_parted_99 ?_
  refine sv_iconst (v := 1) C dX9_parted_100 (by decide) ?_
  refine sv_iadd C dX9_parted_101 ?_
  refine md_iast C 3 rfl (by decide) dX9_parted_102 ?_
  refine sv_aload_n 0 C dX9_parted_103 rfl rfl ?_
  refine md_getr C fl_X9_41 (by decide) dX9_parted_104 ?_
  refine sv_aload_n 0 C dX9_parted_107 rfl rfl ?_
  refine md_geti C fl_X9_254 (by decide) dX9_parted_108 ?_
  refine sv_iconst (v := 0) C dX9_parted_111 (by decide) ?_
  obtain ⟨g112, hf⟩ := sv_g_some hf
  refine md_iast C 9 rfl g112 dX9_parted_112 ?_
  exact sv_vret C (by cases hf; exact hZ) dX9_parted_113
set_option maxHeartbeats 4000000 in
set_option maxRecDepth 100000 in
theorem m_X9_parted (l : Launch) (E : sv_E) (h0 : Nat) (ad : Nat → Nat) (sz : Nat) (B : md_B) (q : md_B) (hf : f_X9_parted B = some q) : sv_Met l E yX9_parted cX9_parted 5 none 6 137 [] [.ref h0] (md_w E h0 ad B) sz none (md_w E h0 ad q) sz 0 0 := by
  refine sv_ofJ (by decide) (Nat.le_of_ble_eq_true rfl) ?_
  intro X hX hN hnm hR C hZ
  replace C : sv_C E X cX9_parted RX9 [] := C
  show sv_J E X (md_w E h0 ad B) sz 0 0 0 [(0, .ref h0)] []
  rw [f_X9_parted] at hf
  refine sv_aload_n 0 C dX9_parted_0 rfl rfl ?_
  refine md_geti C fl_X9_251 (by decide) dX9_parted_1 ?_
  refine sv_iconst (v := 1) C dX9_parted_4 (by decide) ?_
  refine sv_icmp_ne (tgt := 58) C dX9_parted_5 (by decide) (fun c5 => ?_) (fun c5 => ?_)
  · replace hf := sv_if_f c5 hf
    refine sv_aload_n 0 C dX9_parted_58 rfl rfl ?_
    refine md_getr C fl_X9_38 (by decide) dX9_parted_59 ?_
    refine sv_aload_n 0 C dX9_parted_62 rfl rfl ?_
    refine md_geti C fl_X9_254 (by decide) dX9_parted_63 ?_
    obtain ⟨g66, hf⟩ := sv_g_some hf
    refine md_iald C 8 rfl g66 dX9_parted_66 ?_
    refine sv_aload_n 0 C dX9_parted_67 rfl rfl ?_
    refine md_geti C fl_X9_248 (by decide) dX9_parted_68 ?_
    refine sv_icmp_ne (tgt := 92) C dX9_parted_71 (by decide) (fun c71 => ?_) (fun c71 => ?_)
    · replace hf := sv_if_f c71 hf
      refine sv_sub (lv' := [(0, .ref h0)]) [0] rfl ?_
      exact w_X9_parted_92 C hZ hR hN _ hf
    · replace hf := sv_if_t c71 hf
      refine sv_aload_n 0 C dX9_parted_74 rfl rfl ?_
      refine md_getr C fl_X9_41 (by decide) dX9_parted_75 ?_
      refine sv_aload_n 0 C dX9_parted_78 rfl rfl ?_
      refine md_geti C fl_X9_254 (by decide) dX9_parted_79 ?_
      obtain ⟨g82, hf⟩ := sv_g_some hf
      refine md_iald C 9 rfl g82 dX9_parted_82 ?_
      refine sv_aload_n 0 C dX9_parted_83 rfl rfl ?_
      refine md_geti C fl_X9_251 (by decide) dX9_parted_84 ?_
      refine sv_iconst (v := 1) C dX9_parted_87 (by decide) ?_
      refine sv_isub C dX9_parted_88 ?_
      refine sv_icmp_eq (tgt := 114) C dX9_parted_89 (by decide) (fun c89 => ?_) (fun c89 => ?_)
      · replace hf := sv_if_t c89 hf
        refine sv_sub (lv' := [(0, .ref h0)]) [0] rfl ?_
        exact w_X9_parted_114 C hZ hR hN _ hf
      · replace hf := sv_if_f c89 hf
        refine sv_sub (lv' := [(0, .ref h0)]) [0] rfl ?_
        exact w_X9_parted_92 C hZ hR hN _ hf
  · replace hf := sv_if_t c5 hf
    refine sv_aload_n 0 C dX9_parted_8 rfl rfl ?_
    refine md_getr C fl_X9_23 (by decide) dX9_parted_9 ?_
    refine sv_bipush (v := 7) C dX9_parted_12 (by decide) ?_
    refine sv_dup2 C dX9_parted_14 rfl rfl ?_
    refine md_iald C 3 rfl (by decide) dX9_parted_15 ?_
    refine sv_aload_n 0 C dX9_parted_16 rfl rfl ?_
    refine md_getr C fl_X9_41 (by decide) dX9_parted_17 ?_
    refine sv_aload_n 0 C dX9_parted_20 rfl rfl ?_
    refine md_geti C fl_X9_254 (by decide) dX9_parted_21 ?_
    obtain ⟨g24, hf⟩ := sv_g_some hf
    refine md_iald C 9 rfl g24 dX9_parted_24 ?_
    refine sv_if_le (tgt := 32) C dX9_parted_25 (by decide) (fun c25 => ?_) (fun c25 => ?_)
    · replace hf := sv_if_t c25 hf
      refine sv_iconst (v := 0) C dX9_parted_32 (by decide) ?_
      refine sv_sub (lv' := [(0, .ref h0)]) [0] rfl ?_
      exact w_X9_parted_33 C hZ hR hN _ _ _ _ hf
    · replace hf := sv_if_f c25 hf
      refine sv_iconst (v := 1) C dX9_parted_28 (by decide) ?_
      refine sv_goto (tgt := 33) C dX9_parted_29 (by decide) ?_
      refine sv_sub (lv' := [(0, .ref h0)]) [0] rfl ?_
      exact w_X9_parted_33 C hZ hR hN _ _ _ _ hf
def f_X9_taken (B : md_B) (x1 : Int32) : Option (md_B) :=
  if x1 = 0 then
    (f_X9_keep B 0 9).bind (fun q32 =>
      some (q32))
  else if x1 = 1 then
    (f_X9_keep B 0 2).bind (fun q41 =>
      (f_X9_keep q41 10 14).bind (fun q49 =>
        (f_X9_keep q49 17 17).bind (fun q57 =>
          some (q57))))
  else if x1 = 2 then
    (f_X9_keep B 11 12).bind (fun q68 =>
      (f_X9_keep q68 15 17).bind (fun q76 =>
        some (q76)))
  else 
    (f_X9_parted B).bind (fun q83 =>
      some (q83))
set_option maxHeartbeats 4000000 in
set_option maxRecDepth 100000 in
theorem m_X9_taken (l : Launch) (E : sv_E) (h0 : Nat) (ad : Nat → Nat) (sz : Nat) (B : md_B) (x1 : Int32) (q : md_B) (hf : f_X9_taken B x1 = some q) : sv_Met l E yX9_taken cX9_taken 2 none 7 161 [] [.ref h0, .int x1] (md_w E h0 ad B) sz none (md_w E h0 ad q) sz 0 0 := by
  refine sv_ofJ (by decide) (Nat.le_of_ble_eq_true rfl) ?_
  intro X hX hN hnm hR C hZ
  replace C : sv_C E X cX9_taken RX9 [] := C
  show sv_J E X (md_w E h0 ad B) sz 0 0 0 [(0, .ref h0), (1, .int x1)] []
  rw [f_X9_taken] at hf
  refine sv_iload_n 1 C dX9_taken_0 rfl rfl ?_
  by_cases c1_0 : x1 = 0
  · replace hf := sv_if_t c1_0 hf
    refine sv_tswI (v := 0) (tgt := 28) C dX9_taken_1 c1_0 (by decide) (by decide) rfl (by decide) ?_
    refine sv_aload_n 0 C dX9_taken_28 rfl rfl ?_
    refine sv_iconst (v := 0) C dX9_taken_29 (by decide) ?_
    refine sv_bipush (v := 9) C dX9_taken_30 (by decide) ?_
    obtain ⟨q32, hc32, hf⟩ := sv_bind_some hf
    refine sv_callV0 C mv_X9_270 (m_X9_keep (sv_l X) E h0 ad sz _ _ _ _ hc32) sv_sx0 0 rfl rfl rfl rfl (Nat.le_of_ble_eq_true rfl) ⟨by rw [hR]; decide, by rw [hR]; decide⟩ ⟨by rw [hR]; decide, by rw [hR]; decide⟩ dX9_taken_32 ?_
    refine sv_goto (tgt := 86) C dX9_taken_35 (by decide) ?_
    exact sv_vret C (by cases hf; exact hZ) dX9_taken_86
  · replace hf := sv_if_f c1_0 hf
    by_cases c1_1 : x1 = 1
    · replace hf := sv_if_t c1_1 hf
      refine sv_tswI (v := 1) (tgt := 38) C dX9_taken_1 c1_1 (by decide) (by decide) rfl (by decide) ?_
      refine sv_aload_n 0 C dX9_taken_38 rfl rfl ?_
      refine sv_iconst (v := 0) C dX9_taken_39 (by decide) ?_
      refine sv_iconst (v := 2) C dX9_taken_40 (by decide) ?_
      obtain ⟨q41, hc41, hf⟩ := sv_bind_some hf
      refine sv_callV0 C mv_X9_270 (m_X9_keep (sv_l X) E h0 ad sz _ _ _ _ hc41) sv_sx0 0 rfl rfl rfl rfl (Nat.le_of_ble_eq_true rfl) ⟨by rw [hR]; decide, by rw [hR]; decide⟩ ⟨by rw [hR]; decide, by rw [hR]; decide⟩ dX9_taken_41 ?_
      refine sv_aload_n 0 C dX9_taken_44 rfl rfl ?_
      refine sv_bipush (v := 10) C dX9_taken_45 (by decide) ?_
      refine sv_bipush (v := 14) C dX9_taken_47 (by decide) ?_
      obtain ⟨q49, hc49, hf⟩ := sv_bind_some hf
      refine sv_callV0 C mv_X9_270 (m_X9_keep (sv_l X) E h0 ad sz _ _ _ _ hc49) sv_sx0 0 rfl rfl rfl rfl (Nat.le_of_ble_eq_true rfl) ⟨by rw [hR]; decide, by rw [hR]; decide⟩ ⟨by rw [hR]; decide, by rw [hR]; decide⟩ dX9_taken_49 ?_
      refine sv_aload_n 0 C dX9_taken_52 rfl rfl ?_
      refine sv_bipush (v := 17) C dX9_taken_53 (by decide) ?_
      refine sv_bipush (v := 17) C dX9_taken_55 (by decide) ?_
      obtain ⟨q57, hc57, hf⟩ := sv_bind_some hf
      refine sv_callV0 C mv_X9_270 (m_X9_keep (sv_l X) E h0 ad sz _ _ _ _ hc57) sv_sx0 0 rfl rfl rfl rfl (Nat.le_of_ble_eq_true rfl) ⟨by rw [hR]; decide, by rw [hR]; decide⟩ ⟨by rw [hR]; decide, by rw [hR]; decide⟩ dX9_taken_57 ?_
      refine sv_goto (tgt := 86) C dX9_taken_60 (by decide) ?_
      exact sv_vret C (by cases hf; exact hZ) dX9_taken_86
    · replace hf := sv_if_f c1_1 hf
      by_cases c1_2 : x1 = 2
      · replace hf := sv_if_t c1_2 hf
        refine sv_tswI (v := 2) (tgt := 63) C dX9_taken_1 c1_2 (by decide) (by decide) rfl (by decide) ?_
        refine sv_aload_n 0 C dX9_taken_63 rfl rfl ?_
        refine sv_bipush (v := 11) C dX9_taken_64 (by decide) ?_
        refine sv_bipush (v := 12) C dX9_taken_66 (by decide) ?_
        obtain ⟨q68, hc68, hf⟩ := sv_bind_some hf
        refine sv_callV0 C mv_X9_270 (m_X9_keep (sv_l X) E h0 ad sz _ _ _ _ hc68) sv_sx0 0 rfl rfl rfl rfl (Nat.le_of_ble_eq_true rfl) ⟨by rw [hR]; decide, by rw [hR]; decide⟩ ⟨by rw [hR]; decide, by rw [hR]; decide⟩ dX9_taken_68 ?_
        refine sv_aload_n 0 C dX9_taken_71 rfl rfl ?_
        refine sv_bipush (v := 15) C dX9_taken_72 (by decide) ?_
        refine sv_bipush (v := 17) C dX9_taken_74 (by decide) ?_
        obtain ⟨q76, hc76, hf⟩ := sv_bind_some hf
        refine sv_callV0 C mv_X9_270 (m_X9_keep (sv_l X) E h0 ad sz _ _ _ _ hc76) sv_sx0 0 rfl rfl rfl rfl (Nat.le_of_ble_eq_true rfl) ⟨by rw [hR]; decide, by rw [hR]; decide⟩ ⟨by rw [hR]; decide, by rw [hR]; decide⟩ dX9_taken_76 ?_
        refine sv_goto (tgt := 86) C dX9_taken_79 (by decide) ?_
        exact sv_vret C (by cases hf; exact hZ) dX9_taken_86
      · replace hf := sv_if_f c1_2 hf
        have n1_0 : x1.toInt ≠ 0 := fun e => c1_0 (Int32.toInt_inj.mp (e.trans (by decide)))
        have n1_1 : x1.toInt ≠ 1 := fun e => c1_1 (Int32.toInt_inj.mp (e.trans (by decide)))
        have n1_2 : x1.toInt ≠ 2 := fun e => c1_2 (Int32.toInt_inj.mp (e.trans (by decide)))
        refine sv_tswO (tgt := 82) C dX9_taken_1 (by omega) (by decide) ?_
        refine sv_aload_n 0 C dX9_taken_82 rfl rfl ?_
        obtain ⟨q83, hc83, hf⟩ := sv_bind_some hf
        refine sv_callV0 C mv_X9_274 (m_X9_parted (sv_l X) E h0 ad sz _ _ hc83) sv_sx0 0 rfl rfl rfl rfl (Nat.le_of_ble_eq_true rfl) ⟨by rw [hR]; decide, by rw [hR]; decide⟩ ⟨by rw [hR]; decide, by rw [hR]; decide⟩ dX9_taken_83 ?_
        exact sv_vret C (by cases hf; exact hZ) dX9_taken_86
def f_X9_ended_95 (k36 : md_B → Int32 → Option (md_B)) (B : md_B) (x1 : Int32) : Option (md_B) :=
  k36 B (x1 + 1)
def f_X9_ended_63 (k36 : md_B → Int32 → Option (md_B)) (B : md_B) (x1 : Int32) : Option (md_B) :=
  sv_g (sv_inb (B.1 13) 80) (
    sv_g (sv_inb ((md_pf (md_pa B 12 (B.1 13) x1) 13 (((md_pa B 12 (B.1 13) x1).1 13) + 1)).1 13) 80) (
      f_X9_ended_95 k36 (md_pa (md_pf (md_pa B 12 (B.1 13) x1) 13 (((md_pa B 12 (B.1 13) x1).1 13) + 1)) 11 ((md_pf (md_pa B 12 (B.1 13) x1) 13 (((md_pa B 12 (B.1 13) x1).1 13) + 1)).1 13) (x1 + 1)) x1))
def f_X9_ended_36 : Nat → md_B → Int32 → Option (md_B)
  | 0, _, _ => none
  | n + 1, B, x1 =>
    if (B.1 7) < x1 then
      (f_X9_form B).bind (fun q102 =>
        if 0 ≤ q102.1 then
          (f_X9_fits q102.2 q102.1).bind (fun q125 =>
            if q125.1 = 0 then
              some (md_pa q125.2 10 4 ((q125.2.2 10 (4 : Int32).toNatClampNeg) + 1))
            else
              (f_X9_taken (md_pa q125.2 10 0 ((q125.2.2 10 (0 : Int32).toNatClampNeg) + 1)) q102.1).bind (fun q156 =>
                some (q156)))
        else
          some (md_pa q102.2 10 3 ((q102.2.2 10 (3 : Int32).toNatClampNeg) + 1)))
    else
      if x1 = (B.1 7) then
        f_X9_ended_63 (f_X9_ended_36 n) B x1
      else
        sv_g (sv_inb x1 79) (
          if (B.2 6 x1.toNatClampNeg) = 44 then
            f_X9_ended_63 (f_X9_ended_36 n) B x1
          else
            f_X9_ended_95 (f_X9_ended_36 n) B x1)
def f_X9_ended (B : md_B) : Option (md_B) :=
  if (B.1 9) = (B.1 8) then
    f_X9_ended_36 sv_fu (md_pa (md_pf B 13 0) 11 0 1) 1
  else
    some (md_pa B 10 2 ((B.2 10 (2 : Int32).toNatClampNeg) + 1))
set_option maxHeartbeats 4000000 in
set_option maxRecDepth 100000 in
theorem w_X9_ended_95 {E : sv_E} {X : sv_X} {sz : Nat} {q : md_B} {h0 : Nat} {ad : Nat → Nat} (C : sv_C E X cX9_ended RX9 []) (hZ : sv_Z E X none none (md_w E h0 ad q) sz 0 0) (hR : sv_R X = { frames := 9, cells := 0, slots := 0, locals := 203 }) (hN : sv_nL X = 2) {k36 : md_B → Int32 → Option (md_B)} (hk36 : ∀ (B : md_B) (x1 : Int32), k36 B x1 = some q → sv_J E X (md_w E h0 ad B) sz 0 0 36 [(0, .ref h0), (1, .int x1)] []) (B : md_B) (x1 : Int32) (hf : f_X9_ended_95 k36 B x1 = some q) : sv_J E X (md_w E h0 ad B) sz 0 0 95 [(0, .ref h0), (1, .int x1)] [] := by
  rw [f_X9_ended_95] at hf
  refine sv_iinc (v := x1 + 1) (lv' := [(1, .int (x1 + 1)), (0, .ref h0)]) 1 C dX9_ended_95 rfl rfl (by rw [hN]; decide) rfl ?_
  refine sv_goto (tgt := 36) C dX9_ended_98 (by decide) ?_
  refine sv_sub (lv' := [(0, .ref h0), (1, .int (x1 + 1))]) [1, 0] rfl ?_
  exact hk36 _ _ hf
set_option maxHeartbeats 4000000 in
set_option maxRecDepth 100000 in
theorem w_X9_ended_63 {E : sv_E} {X : sv_X} {sz : Nat} {q : md_B} {h0 : Nat} {ad : Nat → Nat} (C : sv_C E X cX9_ended RX9 []) (hZ : sv_Z E X none none (md_w E h0 ad q) sz 0 0) (hR : sv_R X = { frames := 9, cells := 0, slots := 0, locals := 203 }) (hN : sv_nL X = 2) {k36 : md_B → Int32 → Option (md_B)} (hk36 : ∀ (B : md_B) (x1 : Int32), k36 B x1 = some q → sv_J E X (md_w E h0 ad B) sz 0 0 36 [(0, .ref h0), (1, .int x1)] []) (B : md_B) (x1 : Int32) (hf : f_X9_ended_63 k36 B x1 = some q) : sv_J E X (md_w E h0 ad B) sz 0 0 63 [(0, .ref h0), (1, .int x1)] [] := by
  rw [f_X9_ended_63] at hf
  refine sv_aload_n 0 C dX9_ended_63 rfl rfl ?_
  refine md_getr C fl_X9_29 (by decide) dX9_ended_64 ?_
  refine sv_aload_n 0 C dX9_ended_67 rfl rfl ?_
  refine md_geti C fl_X9_113 (by decide) dX9_ended_68 ?_
  refine sv_iload_n 1 C dX9_ended_71 rfl rfl ?_
  obtain ⟨g72, hf⟩ := sv_g_some hf
  refine md_iast C 5 rfl g72 dX9_ended_72 ?_
  refine sv_aload_n 0 C dX9_ended_73 rfl rfl ?_
  refine sv_dup C dX9_ended_74 rfl ?_
  refine md_geti C fl_X9_113 (by decide) dX9_ended_75 ?_
  refine sv_iconst (v := 1) C dX9_ended_78 (by decide) ?_
  refine sv_iadd C dX9_ended_79 ?_
  refine md_puti C fl_X9_113 (by decide) rfl rfl dX9_ended_80 ?_
  refine sv_aload_n 0 C dX9_ended_83 rfl rfl ?_
  refine md_getr C fl_X9_26 (by decide) dX9_ended_84 ?_
  refine sv_aload_n 0 C dX9_ended_87 rfl rfl ?_
  refine md_geti C fl_X9_113 (by decide) dX9_ended_88 ?_
  refine sv_iload_n 1 C dX9_ended_91 rfl rfl ?_
  refine sv_iconst (v := 1) C dX9_ended_92 (by decide) ?_
  refine sv_iadd C dX9_ended_93 ?_
  obtain ⟨g94, hf⟩ := sv_g_some hf
  refine md_iast C 4 rfl g94 dX9_ended_94 ?_
  refine sv_sub (lv' := [(0, .ref h0), (1, .int x1)]) [0, 1] rfl ?_
  exact w_X9_ended_95 C hZ hR hN hk36 _ _ hf
set_option maxHeartbeats 4000000 in
set_option maxRecDepth 100000 in
theorem w_X9_ended_36 {E : sv_E} {X : sv_X} {sz : Nat} {q : md_B} {h0 : Nat} {ad : Nat → Nat} (C : sv_C E X cX9_ended RX9 []) (hZ : sv_Z E X none none (md_w E h0 ad q) sz 0 0) (hR : sv_R X = { frames := 9, cells := 0, slots := 0, locals := 203 }) (hN : sv_nL X = 2) : ∀ (n : Nat) (B : md_B) (x1 : Int32), f_X9_ended_36 n B x1 = some q → sv_J E X (md_w E h0 ad B) sz 0 0 36 [(0, .ref h0), (1, .int x1)] [] := by
  intro n
  induction n with
  | zero =>
    intro B x1 hf
    rw [f_X9_ended_36] at hf
    cases hf
  | succ n ih =>
    intro B x1 hf
    rw [f_X9_ended_36] at hf
    refine sv_iload_n 1 C dX9_ended_36 rfl rfl ?_
    refine sv_aload_n 0 C dX9_ended_37 rfl rfl ?_
    refine md_geti C fl_X9_93 (by decide) dX9_ended_38 ?_
    refine sv_icmp_gt (tgt := 101) C dX9_ended_41 (by decide) (fun c41 => ?_) (fun c41 => ?_)
    · replace hf := sv_if_t c41 hf
      refine sv_aload_n 0 C dX9_ended_101 rfl rfl ?_
      obtain ⟨q102, hc102, hf⟩ := sv_bind_some hf
      refine sv_callV0 C mv_X9_116 (m_X9_form (sv_l X) E h0 ad sz _ _ hc102) sv_sx0 0 rfl rfl rfl rfl (Nat.le_of_ble_eq_true rfl) ⟨by rw [hR]; decide, by rw [hR]; decide⟩ ⟨by rw [hR]; decide, by rw [hR]; decide⟩ dX9_ended_102 ?_
      refine sv_istore_n (lv' := [(1, .int q102.1), (0, .ref h0)]) C dX9_ended_105 rfl (by rw [hN]; decide) rfl ?_
      refine sv_iload_n 0 C dX9_ended_106 rfl rfl ?_
      refine sv_if_ge (tgt := 123) C dX9_ended_107 (by decide) (fun c107 => ?_) (fun c107 => ?_)
      · replace hf := sv_if_t c107 hf
        refine sv_aload_n 1 C dX9_ended_123 rfl rfl ?_
        refine sv_iload_n 0 C dX9_ended_124 rfl rfl ?_
        obtain ⟨q125, hc125, hf⟩ := sv_bind_some hf
        refine sv_callV0 C mv_X9_120 (m_X9_fits (sv_l X) E h0 ad sz _ _ _ hc125) sv_sx0 0 rfl rfl rfl rfl (Nat.le_of_ble_eq_true rfl) ⟨by rw [hR]; decide, by rw [hR]; decide⟩ ⟨by rw [hR]; decide, by rw [hR]; decide⟩ dX9_ended_125 ?_
        refine sv_if_ne (tgt := 144) C dX9_ended_128 (by decide) (fun c128 => ?_) (fun c128 => ?_)
        · replace hf := sv_if_f c128 hf
          refine sv_aload_n 1 C dX9_ended_144 rfl rfl ?_
          refine md_getr C fl_X9_23 (by decide) dX9_ended_145 ?_
          refine sv_iconst (v := 0) C dX9_ended_148 (by decide) ?_
          refine sv_dup2 C dX9_ended_149 rfl rfl ?_
          refine md_iald C 3 rfl (by decide) dX9_ended_150 ?_
          refine sv_iconst (v := 1) C dX9_ended_151 (by decide) ?_
          refine sv_iadd C dX9_ended_152 ?_
          refine md_iast C 3 rfl (by decide) dX9_ended_153 ?_
          refine sv_aload_n 1 C dX9_ended_154 rfl rfl ?_
          refine sv_iload_n 0 C dX9_ended_155 rfl rfl ?_
          obtain ⟨q156, hc156, hf⟩ := sv_bind_some hf
          refine sv_callV0 C mv_X9_124 (m_X9_taken (sv_l X) E h0 ad sz _ _ _ hc156) sv_sx0 0 rfl rfl rfl rfl (Nat.le_of_ble_eq_true rfl) ⟨by rw [hR]; decide, by rw [hR]; decide⟩ ⟨by rw [hR]; decide, by rw [hR]; decide⟩ dX9_ended_156 ?_
          exact sv_vret C (by cases hf; exact hZ) dX9_ended_159
        · replace hf := sv_if_t c128 hf
          refine sv_aload_n 1 C dX9_ended_131 rfl rfl ?_
          refine md_getr C fl_X9_23 (by decide) dX9_ended_132 ?_
          refine sv_iconst (v := 4) C dX9_ended_135 (by decide) ?_
          refine sv_dup2 C dX9_ended_136 rfl rfl ?_
          refine md_iald C 3 rfl (by decide) dX9_ended_137 ?_
          refine sv_iconst (v := 1) C dX9_ended_138 (by decide) ?_
          refine sv_iadd C dX9_ended_139 ?_
          refine md_iast C 3 rfl (by decide) dX9_ended_140 ?_
          refine sv_goto (tgt := 159) C dX9_ended_141 (by decide) ?_
          exact sv_vret C (by cases hf; exact hZ) dX9_ended_159
      · replace hf := sv_if_f c107 hf
        refine sv_aload_n 1 C dX9_ended_110 rfl rfl ?_
        refine md_getr C fl_X9_23 (by decide) dX9_ended_111 ?_
        refine sv_iconst (v := 3) C dX9_ended_114 (by decide) ?_
        refine sv_dup2 C dX9_ended_115 rfl rfl ?_
        refine md_iald C 3 rfl (by decide) dX9_ended_116 ?_
        refine sv_iconst (v := 1) C dX9_ended_117 (by decide) ?_
        refine sv_iadd C dX9_ended_118 ?_
        refine md_iast C 3 rfl (by decide) dX9_ended_119 ?_
        refine sv_goto (tgt := 159) C dX9_ended_120 (by decide) ?_
        exact sv_vret C (by cases hf; exact hZ) dX9_ended_159
    · replace hf := sv_if_f c41 hf
      refine sv_iload_n 1 C dX9_ended_44 rfl rfl ?_
      refine sv_aload_n 0 C dX9_ended_45 rfl rfl ?_
      refine md_geti C fl_X9_93 (by decide) dX9_ended_46 ?_
      refine sv_icmp_eq (tgt := 63) C dX9_ended_49 (by decide) (fun c49 => ?_) (fun c49 => ?_)
      · replace hf := sv_if_t c49 hf
        refine sv_sub (lv' := [(0, .ref h0), (1, .int x1)]) [0, 1] rfl ?_
        exact w_X9_ended_63 C hZ hR hN ih _ _ hf
      · replace hf := sv_if_f c49 hf
        refine sv_aload_n 0 C dX9_ended_52 rfl rfl ?_
        refine md_getr C fl_X9_20 (by decide) dX9_ended_53 ?_
        refine sv_iload_n 1 C dX9_ended_56 rfl rfl ?_
        obtain ⟨g57, hf⟩ := sv_g_some hf
        refine md_iald C 2 rfl g57 dX9_ended_57 ?_
        refine sv_bipush (v := 44) C dX9_ended_58 (by decide) ?_
        refine sv_icmp_ne (tgt := 95) C dX9_ended_60 (by decide) (fun c60 => ?_) (fun c60 => ?_)
        · replace hf := sv_if_f c60 hf
          refine sv_sub (lv' := [(0, .ref h0), (1, .int x1)]) [0, 1] rfl ?_
          exact w_X9_ended_95 C hZ hR hN ih _ _ hf
        · replace hf := sv_if_t c60 hf
          refine sv_sub (lv' := [(0, .ref h0), (1, .int x1)]) [0, 1] rfl ?_
          exact w_X9_ended_63 C hZ hR hN ih _ _ hf
set_option maxHeartbeats 4000000 in
set_option maxRecDepth 100000 in
theorem m_X9_ended (l : Launch) (E : sv_E) (h0 : Nat) (ad : Nat → Nat) (sz : Nat) (B : md_B) (q : md_B) (hf : f_X9_ended B = some q) : sv_Met l E yX9_ended cX9_ended 2 none 9 203 [] [.ref h0] (md_w E h0 ad B) sz none (md_w E h0 ad q) sz 0 0 := by
  refine sv_ofJ (by decide) (Nat.le_of_ble_eq_true rfl) ?_
  intro X hX hN hnm hR C hZ
  replace C : sv_C E X cX9_ended RX9 [] := C
  show sv_J E X (md_w E h0 ad B) sz 0 0 0 [(0, .ref h0)] []
  rw [f_X9_ended] at hf
  refine sv_aload_n 0 C dX9_ended_0 rfl rfl ?_
  refine md_geti C fl_X9_107 (by decide) dX9_ended_1 ?_
  refine sv_aload_n 0 C dX9_ended_4 rfl rfl ?_
  refine md_geti C fl_X9_96 (by decide) dX9_ended_5 ?_
  refine sv_icmp_eq (tgt := 22) C dX9_ended_8 (by decide) (fun c8 => ?_) (fun c8 => ?_)
  · replace hf := sv_if_t c8 hf
    refine sv_aload_n 0 C dX9_ended_22 rfl rfl ?_
    refine sv_iconst (v := 0) C dX9_ended_23 (by decide) ?_
    refine md_puti C fl_X9_113 (by decide) rfl rfl dX9_ended_24 ?_
    refine sv_aload_n 0 C dX9_ended_27 rfl rfl ?_
    refine md_getr C fl_X9_26 (by decide) dX9_ended_28 ?_
    refine sv_iconst (v := 0) C dX9_ended_31 (by decide) ?_
    refine sv_iconst (v := 1) C dX9_ended_32 (by decide) ?_
    refine md_iast C 4 rfl (by decide) dX9_ended_33 ?_
    refine sv_iconst (v := 1) C dX9_ended_34 (by decide) ?_
    refine sv_istore_n (lv' := [(1, .int 1), (0, .ref h0)]) C dX9_ended_35 rfl (by rw [hN]; decide) rfl ?_
    refine sv_sub (lv' := [(0, .ref h0), (1, .int 1)]) [1, 0] rfl ?_
    exact w_X9_ended_36 C hZ hR hN sv_fu _ _ hf
  · replace hf := sv_if_f c8 hf
    refine sv_aload_n 0 C dX9_ended_11 rfl rfl ?_
    refine md_getr C fl_X9_23 (by decide) dX9_ended_12 ?_
    refine sv_iconst (v := 2) C dX9_ended_15 (by decide) ?_
    refine sv_dup2 C dX9_ended_16 rfl rfl ?_
    refine md_iald C 3 rfl (by decide) dX9_ended_17 ?_
    refine sv_iconst (v := 1) C dX9_ended_18 (by decide) ?_
    refine sv_iadd C dX9_ended_19 ?_
    refine md_iast C 3 rfl (by decide) dX9_ended_20 ?_
    exact sv_vret C (by cases hf; exact hZ) dX9_ended_21
def f_X9_comes_31 (B : md_B) (x1 : Int32) (s0 : Int32) (s1 : Int32) (s2 : Int32) : Option (md_B) :=
  sv_g (sv_inb s2 9) (
    some (md_pf (md_pf (md_pa (md_pf (md_pa B 10 s2 (s1 + s0)) 5 1) 6 0 x1) 7 1) 8 0))
def f_X9_comes_12 (B : md_B) (x1 : Int32) : Option (md_B) :=
  if (B.1 5) = 0 then
    f_X9_comes_31 B x1 0 (B.2 10 (1 : Int32).toNatClampNeg) 1
  else
    f_X9_comes_31 B x1 1 (B.2 10 (1 : Int32).toNatClampNeg) 1
def f_X9_comes_278 (B : md_B) (x2 : Int32) : Option (md_B) :=
  if x2 = 0 then
    some (md_pf (md_pa B 10 1 ((B.2 10 (1 : Int32).toNatClampNeg) + 1)) 5 0)
  else
    if (B.1 5) = 6 then
      (f_X9_ended (md_pf B 5 0)).bind (fun q315 =>
        some (q315))
    else
      some (B)
def f_X9_comes_141 (B : md_B) (x1 : Int32) (x2 : Int32) : Option (md_B) :=
  if x2 = 0 then
    f_X9_comes_278 B x2
  else
    sv_g (sv_inb (B.1 7) 79) (
      f_X9_comes_278 (md_pf (md_pf (md_pa B 6 (B.1 7) x1) 7 (((md_pa B 6 (B.1 7) x1).1 7) + 1)) 8 (((md_pf (md_pa B 6 (B.1 7) x1) 7 (((md_pa B 6 (B.1 7) x1).1 7) + 1)).1 8) ^^^ x1)) x2)
def f_X9_comes_122 (B : md_B) (x1 : Int32) (s0 : Int32) : Option (md_B) :=
  if s0 = 0 then
    f_X9_comes_141 B x1 s0
  else
    if x1 = 42 then
      f_X9_comes_278 (md_pf B 5 2) s0
    else
      f_X9_comes_141 B x1 s0
def f_X9_comes_121 (B : md_B) (x1 : Int32) : Option (md_B) :=
  f_X9_comes_122 B x1 0
def f_X9_comes_227 (B : md_B) (x2 : Int32) (s0 : Int32) : Option (md_B) :=
  f_X9_comes_278 (md_pf (md_pf B 9 s0) 5 (((md_pf B 9 s0).1 5) + 1)) x2
def f_X9_comes_198 (B : md_B) (x1 : Int32) (s0 : Int32) : Option (md_B) :=
  if (B.1 5) = 2 then
    (f_X9_sixteen B x1).bind (fun q209 =>
      f_X9_comes_227 q209.2 s0 q209.1)
  else
    (f_X9_sixteen B x1).bind (fun q223 =>
      f_X9_comes_227 q223.2 s0 ((16 * (B.1 9)) + q223.1))
def f_X9_comes_267 (B : md_B) (s0 : Int32) : Option (md_B) :=
  f_X9_comes_278 (md_pf B 5 ((B.1 5) + 1)) s0
def f_X9_comes_259 (B : md_B) (s0 : Int32) (s1 : Int32) : Option (md_B) :=
  if s1 = s0 then
    f_X9_comes_267 B 1
  else
    f_X9_comes_267 B 0
def f_X9_comes (B : md_B) (x1 : Int32) : Option (md_B) :=
  if x1 = 36 then
    f_X9_comes_12 B x1
  else
    if x1 = 33 then
      f_X9_comes_12 B x1
    else
      if (B.1 5) = 0 then
        some (B)
      else
        if (B.1 5) = 1 then
          if x1 = 42 then
            if (B.1 7) ≤ 1 then
              f_X9_comes_122 B x1 0
            else
              f_X9_comes_122 B x1 1
          else
            (f_X9_in B x1.toInt64 32 126).bind (fun q102 =>
              if q102.1 = 0 then
                f_X9_comes_121 q102.2 x1
              else
                if 78 < (q102.2.1 7) then
                  f_X9_comes_121 q102.2 x1
                else
                  f_X9_comes_122 q102.2 x1 1)
        else
          if 4 ≤ (B.1 5) then
            if (B.1 5) = 4 then
              f_X9_comes_259 B 13 x1
            else
              f_X9_comes_259 B 10 x1
          else
            (f_X9_sixteen B x1).bind (fun q187 =>
              if q187.1 < 0 then
                f_X9_comes_198 q187.2 x1 0
              else
                f_X9_comes_198 q187.2 x1 1)
set_option maxHeartbeats 4000000 in
set_option maxRecDepth 100000 in
theorem w_X9_comes_31 {E : sv_E} {X : sv_X} {sz : Nat} {q : md_B} {h0 : Nat} {ad : Nat → Nat} (C : sv_C E X cX9_comes RX9 []) (hZ : sv_Z E X none none (md_w E h0 ad q) sz 0 0) (hR : sv_R X = { frames := 10, cells := 0, slots := 0, locals := 224 }) (hN : sv_nL X = 3) (B : md_B) (x1 : Int32) (s0 : Int32) (s1 : Int32) (s2 : Int32) (hf : f_X9_comes_31 B x1 s0 s1 s2 = some q) : sv_J E X (md_w E h0 ad B) sz 0 0 31 [(0, .ref h0), (1, .int x1)] [.int s0, .int s1, .int s2, .ref (ad 10)] := by
  rw [f_X9_comes_31] at hf
  refine sv_iadd C dX9_comes_31 ?_
  obtain ⟨g32, hf⟩ := sv_g_some hf
  refine md_iast C 3 rfl g32 dX9_comes_32 ?_
  refine sv_aload_n 0 C dX9_comes_33 rfl rfl ?_
  refine sv_iconst (v := 1) C dX9_comes_34 (by decide) ?_
  refine md_puti C fl_X9_90 (by decide) rfl rfl dX9_comes_35 ?_
  refine sv_aload_n 0 C dX9_comes_38 rfl rfl ?_
  refine md_getr C fl_X9_20 (by decide) dX9_comes_39 ?_
  refine sv_iconst (v := 0) C dX9_comes_42 (by decide) ?_
  refine sv_iload_n 1 C dX9_comes_43 rfl rfl ?_
  refine md_iast C 2 rfl (by decide) dX9_comes_44 ?_
  refine sv_aload_n 0 C dX9_comes_45 rfl rfl ?_
  refine sv_iconst (v := 1) C dX9_comes_46 (by decide) ?_
  refine md_puti C fl_X9_93 (by decide) rfl rfl dX9_comes_47 ?_
  refine sv_aload_n 0 C dX9_comes_50 rfl rfl ?_
  refine sv_iconst (v := 0) C dX9_comes_51 (by decide) ?_
  refine md_puti C fl_X9_96 (by decide) rfl rfl dX9_comes_52 ?_
  exact sv_vret C (by cases hf; exact hZ) dX9_comes_55
set_option maxHeartbeats 4000000 in
set_option maxRecDepth 100000 in
theorem w_X9_comes_12 {E : sv_E} {X : sv_X} {sz : Nat} {q : md_B} {h0 : Nat} {ad : Nat → Nat} (C : sv_C E X cX9_comes RX9 []) (hZ : sv_Z E X none none (md_w E h0 ad q) sz 0 0) (hR : sv_R X = { frames := 10, cells := 0, slots := 0, locals := 224 }) (hN : sv_nL X = 3) (B : md_B) (x1 : Int32) (hf : f_X9_comes_12 B x1 = some q) : sv_J E X (md_w E h0 ad B) sz 0 0 12 [(0, .ref h0), (1, .int x1)] [] := by
  rw [f_X9_comes_12] at hf
  refine sv_aload_n 0 C dX9_comes_12 rfl rfl ?_
  refine md_getr C fl_X9_23 (by decide) dX9_comes_13 ?_
  refine sv_iconst (v := 1) C dX9_comes_16 (by decide) ?_
  refine sv_dup2 C dX9_comes_17 rfl rfl ?_
  refine md_iald C 3 rfl (by decide) dX9_comes_18 ?_
  refine sv_aload_n 0 C dX9_comes_19 rfl rfl ?_
  refine md_geti C fl_X9_90 (by decide) dX9_comes_20 ?_
  refine sv_if_eq (tgt := 30) C dX9_comes_23 (by decide) (fun c23 => ?_) (fun c23 => ?_)
  · replace hf := sv_if_t c23 hf
    refine sv_iconst (v := 0) C dX9_comes_30 (by decide) ?_
    refine sv_sub (lv' := [(0, .ref h0), (1, .int x1)]) [0, 1] rfl ?_
    exact w_X9_comes_31 C hZ hR hN _ _ _ _ _ hf
  · replace hf := sv_if_f c23 hf
    refine sv_iconst (v := 1) C dX9_comes_26 (by decide) ?_
    refine sv_goto (tgt := 31) C dX9_comes_27 (by decide) ?_
    refine sv_sub (lv' := [(0, .ref h0), (1, .int x1)]) [0, 1] rfl ?_
    exact w_X9_comes_31 C hZ hR hN _ _ _ _ _ hf
set_option maxHeartbeats 4000000 in
set_option maxRecDepth 100000 in
theorem w_X9_comes_278 {E : sv_E} {X : sv_X} {sz : Nat} {q : md_B} {h0 : Nat} {ad : Nat → Nat} (C : sv_C E X cX9_comes RX9 []) (hZ : sv_Z E X none none (md_w E h0 ad q) sz 0 0) (hR : sv_R X = { frames := 10, cells := 0, slots := 0, locals := 224 }) (hN : sv_nL X = 3) (B : md_B) (x2 : Int32) (hf : f_X9_comes_278 B x2 = some q) : sv_J E X (md_w E h0 ad B) sz 0 0 278 [(0, .ref h0), (2, .int x2)] [] := by
  rw [f_X9_comes_278] at hf
  refine sv_iload_n 1 C dX9_comes_278 rfl rfl ?_
  refine sv_if_ne (tgt := 300) C dX9_comes_279 (by decide) (fun c279 => ?_) (fun c279 => ?_)
  · replace hf := sv_if_f c279 hf
    refine sv_aload_n 0 C dX9_comes_300 rfl rfl ?_
    refine md_geti C fl_X9_90 (by decide) dX9_comes_301 ?_
    refine sv_bipush (v := 6) C dX9_comes_304 (by decide) ?_
    refine sv_icmp_ne (tgt := 318) C dX9_comes_306 (by decide) (fun c306 => ?_) (fun c306 => ?_)
    · replace hf := sv_if_f c306 hf
      exact sv_vret C (by cases hf; exact hZ) dX9_comes_318
    · replace hf := sv_if_t c306 hf
      refine sv_aload_n 0 C dX9_comes_309 rfl rfl ?_
      refine sv_iconst (v := 0) C dX9_comes_310 (by decide) ?_
      refine md_puti C fl_X9_90 (by decide) rfl rfl dX9_comes_311 ?_
      refine sv_aload_n 0 C dX9_comes_314 rfl rfl ?_
      obtain ⟨q315, hc315, hf⟩ := sv_bind_some hf
      refine sv_callV0 C mv_X9_110 (m_X9_ended (sv_l X) E h0 ad sz _ _ hc315) sv_sx0 0 rfl rfl rfl rfl (Nat.le_of_ble_eq_true rfl) ⟨by rw [hR]; decide, by rw [hR]; decide⟩ ⟨by rw [hR]; decide, by rw [hR]; decide⟩ dX9_comes_315 ?_
      exact sv_vret C (by cases hf; exact hZ) dX9_comes_318
  · replace hf := sv_if_t c279 hf
    refine sv_aload_n 0 C dX9_comes_282 rfl rfl ?_
    refine md_getr C fl_X9_23 (by decide) dX9_comes_283 ?_
    refine sv_iconst (v := 1) C dX9_comes_286 (by decide) ?_
    refine sv_dup2 C dX9_comes_287 rfl rfl ?_
    refine md_iald C 3 rfl (by decide) dX9_comes_288 ?_
    refine sv_iconst (v := 1) C dX9_comes_289 (by decide) ?_
    refine sv_iadd C dX9_comes_290 ?_
    refine md_iast C 3 rfl (by decide) dX9_comes_291 ?_
    refine sv_aload_n 0 C dX9_comes_292 rfl rfl ?_
    refine sv_iconst (v := 0) C dX9_comes_293 (by decide) ?_
    refine md_puti C fl_X9_90 (by decide) rfl rfl dX9_comes_294 ?_
    refine sv_goto (tgt := 318) C dX9_comes_297 (by decide) ?_
    exact sv_vret C (by cases hf; exact hZ) dX9_comes_318
set_option maxHeartbeats 4000000 in
set_option maxRecDepth 100000 in
theorem w_X9_comes_141 {E : sv_E} {X : sv_X} {sz : Nat} {q : md_B} {h0 : Nat} {ad : Nat → Nat} (C : sv_C E X cX9_comes RX9 []) (hZ : sv_Z E X none none (md_w E h0 ad q) sz 0 0) (hR : sv_R X = { frames := 10, cells := 0, slots := 0, locals := 224 }) (hN : sv_nL X = 3) (B : md_B) (x1 : Int32) (x2 : Int32) (hf : f_X9_comes_141 B x1 x2 = some q) : sv_J E X (md_w E h0 ad B) sz 0 0 141 [(0, .ref h0), (1, .int x1), (2, .int x2)] [] := by
  rw [f_X9_comes_141] at hf
  refine sv_iload_n 2 C dX9_comes_141 rfl rfl ?_
  refine sv_if_eq (tgt := 278) C dX9_comes_142 (by decide) (fun c142 => ?_) (fun c142 => ?_)
  · replace hf := sv_if_t c142 hf
    refine sv_sub (lv' := [(0, .ref h0), (2, .int x2)]) [0, 2] rfl ?_
    exact w_X9_comes_278 C hZ hR hN _ _ hf
  · replace hf := sv_if_f c142 hf
    refine sv_aload_n 0 C dX9_comes_145 rfl rfl ?_
    refine md_getr C fl_X9_20 (by decide) dX9_comes_146 ?_
    refine sv_aload_n 0 C dX9_comes_149 rfl rfl ?_
    refine md_geti C fl_X9_93 (by decide) dX9_comes_150 ?_
    refine sv_iload_n 1 C dX9_comes_153 rfl rfl ?_
    obtain ⟨g154, hf⟩ := sv_g_some hf
    refine md_iast C 2 rfl g154 dX9_comes_154 ?_
    refine sv_aload_n 0 C dX9_comes_155 rfl rfl ?_
    refine sv_dup C dX9_comes_156 rfl ?_
    refine md_geti C fl_X9_93 (by decide) dX9_comes_157 ?_
    refine sv_iconst (v := 1) C dX9_comes_160 (by decide) ?_
    refine sv_iadd C dX9_comes_161 ?_
    refine md_puti C fl_X9_93 (by decide) rfl rfl dX9_comes_162 ?_
    refine sv_aload_n 0 C dX9_comes_165 rfl rfl ?_
    refine sv_dup C dX9_comes_166 rfl ?_
    refine md_geti C fl_X9_96 (by decide) dX9_comes_167 ?_
    refine sv_iload_n 1 C dX9_comes_170 rfl rfl ?_
    refine sv_ixor C dX9_comes_171 ?_
    refine md_puti C fl_X9_96 (by decide) rfl rfl dX9_comes_172 ?_
    refine sv_goto (tgt := 278) C dX9_comes_175 (by decide) ?_
    refine sv_sub (lv' := [(0, .ref h0), (2, .int x2)]) [0, 2] rfl ?_
    exact w_X9_comes_278 C hZ hR hN _ _ hf
set_option maxHeartbeats 4000000 in
set_option maxRecDepth 100000 in
theorem w_X9_comes_122 {E : sv_E} {X : sv_X} {sz : Nat} {q : md_B} {h0 : Nat} {ad : Nat → Nat} (C : sv_C E X cX9_comes RX9 []) (hZ : sv_Z E X none none (md_w E h0 ad q) sz 0 0) (hR : sv_R X = { frames := 10, cells := 0, slots := 0, locals := 224 }) (hN : sv_nL X = 3) (B : md_B) (x1 : Int32) (s0 : Int32) (hf : f_X9_comes_122 B x1 s0 = some q) : sv_J E X (md_w E h0 ad B) sz 0 0 122 [(0, .ref h0), (1, .int x1)] [.int s0] := by
  rw [f_X9_comes_122] at hf
  refine sv_istore_n (lv' := [(2, .int s0), (0, .ref h0), (1, .int x1)]) C dX9_comes_122 rfl (by rw [hN]; decide) rfl ?_
  refine sv_iload_n 0 C dX9_comes_123 rfl rfl ?_
  refine sv_if_eq (tgt := 141) C dX9_comes_124 (by decide) (fun c124 => ?_) (fun c124 => ?_)
  · replace hf := sv_if_t c124 hf
    refine sv_sub (lv' := [(0, .ref h0), (1, .int x1), (2, .int s0)]) [1, 2, 0] rfl ?_
    exact w_X9_comes_141 C hZ hR hN _ _ _ hf
  · replace hf := sv_if_f c124 hf
    refine sv_iload_n 2 C dX9_comes_127 rfl rfl ?_
    refine sv_bipush (v := 42) C dX9_comes_128 (by decide) ?_
    refine sv_icmp_ne (tgt := 141) C dX9_comes_130 (by decide) (fun c130 => ?_) (fun c130 => ?_)
    · replace hf := sv_if_f c130 hf
      refine sv_sub (lv' := [(0, .ref h0), (1, .int x1), (2, .int s0)]) [1, 2, 0] rfl ?_
      exact w_X9_comes_141 C hZ hR hN _ _ _ hf
    · replace hf := sv_if_t c130 hf
      refine sv_aload_n 1 C dX9_comes_133 rfl rfl ?_
      refine sv_iconst (v := 2) C dX9_comes_134 (by decide) ?_
      refine md_puti C fl_X9_90 (by decide) rfl rfl dX9_comes_135 ?_
      refine sv_goto (tgt := 278) C dX9_comes_138 (by decide) ?_
      refine sv_sub (lv' := [(0, .ref h0), (2, .int s0)]) [1, 0] rfl ?_
      exact w_X9_comes_278 C hZ hR hN _ _ hf
set_option maxHeartbeats 4000000 in
set_option maxRecDepth 100000 in
theorem w_X9_comes_121 {E : sv_E} {X : sv_X} {sz : Nat} {q : md_B} {h0 : Nat} {ad : Nat → Nat} (C : sv_C E X cX9_comes RX9 []) (hZ : sv_Z E X none none (md_w E h0 ad q) sz 0 0) (hR : sv_R X = { frames := 10, cells := 0, slots := 0, locals := 224 }) (hN : sv_nL X = 3) (B : md_B) (x1 : Int32) (hf : f_X9_comes_121 B x1 = some q) : sv_J E X (md_w E h0 ad B) sz 0 0 121 [(0, .ref h0), (1, .int x1)] [] := by
  rw [f_X9_comes_121] at hf
  refine sv_iconst (v := 0) C dX9_comes_121 (by decide) ?_
  refine sv_sub (lv' := [(0, .ref h0), (1, .int x1)]) [0, 1] rfl ?_
  exact w_X9_comes_122 C hZ hR hN _ _ _ hf
set_option maxHeartbeats 4000000 in
set_option maxRecDepth 100000 in
theorem w_X9_comes_227 {E : sv_E} {X : sv_X} {sz : Nat} {q : md_B} {h0 : Nat} {ad : Nat → Nat} (C : sv_C E X cX9_comes RX9 []) (hZ : sv_Z E X none none (md_w E h0 ad q) sz 0 0) (hR : sv_R X = { frames := 10, cells := 0, slots := 0, locals := 224 }) (hN : sv_nL X = 3) (B : md_B) (x2 : Int32) (s0 : Int32) (hf : f_X9_comes_227 B x2 s0 = some q) : sv_J E X (md_w E h0 ad B) sz 0 0 227 [(0, .ref h0), (2, .int x2)] [.int s0, .ref h0] := by
  rw [f_X9_comes_227] at hf
  refine md_puti C fl_X9_107 (by decide) rfl rfl dX9_comes_227 ?_
  refine sv_aload_n 0 C dX9_comes_230 rfl rfl ?_
  refine sv_dup C dX9_comes_231 rfl ?_
  refine md_geti C fl_X9_90 (by decide) dX9_comes_232 ?_
  refine sv_iconst (v := 1) C dX9_comes_235 (by decide) ?_
  refine sv_iadd C dX9_comes_236 ?_
  refine md_puti C fl_X9_90 (by decide) rfl rfl dX9_comes_237 ?_
  refine sv_goto (tgt := 278) C dX9_comes_240 (by decide) ?_
  refine sv_sub (lv' := [(0, .ref h0), (2, .int x2)]) [0, 1] rfl ?_
  exact w_X9_comes_278 C hZ hR hN _ _ hf
set_option maxHeartbeats 4000000 in
set_option maxRecDepth 100000 in
theorem w_X9_comes_198 {E : sv_E} {X : sv_X} {sz : Nat} {q : md_B} {h0 : Nat} {ad : Nat → Nat} (C : sv_C E X cX9_comes RX9 []) (hZ : sv_Z E X none none (md_w E h0 ad q) sz 0 0) (hR : sv_R X = { frames := 10, cells := 0, slots := 0, locals := 224 }) (hN : sv_nL X = 3) (B : md_B) (x1 : Int32) (s0 : Int32) (hf : f_X9_comes_198 B x1 s0 = some q) : sv_J E X (md_w E h0 ad B) sz 0 0 198 [(0, .ref h0), (1, .int x1)] [.int s0] := by
  rw [f_X9_comes_198] at hf
  refine sv_istore_n (lv' := [(2, .int s0), (0, .ref h0), (1, .int x1)]) C dX9_comes_198 rfl (by rw [hN]; decide) rfl ?_
  refine sv_aload_n 1 C dX9_comes_199 rfl rfl ?_
  refine sv_aload_n 1 C dX9_comes_200 rfl rfl ?_
  refine md_geti C fl_X9_90 (by decide) dX9_comes_201 ?_
  refine sv_iconst (v := 2) C dX9_comes_204 (by decide) ?_
  refine sv_icmp_ne (tgt := 215) C dX9_comes_205 (by decide) (fun c205 => ?_) (fun c205 => ?_)
  · replace hf := sv_if_f c205 hf
    refine sv_bipush (v := 16) C dX9_comes_215 (by decide) ?_
    refine sv_aload_n 1 C dX9_comes_217 rfl rfl ?_
    refine md_geti C fl_X9_107 (by decide) dX9_comes_218 ?_
    refine sv_imul C dX9_comes_221 ?_
    refine sv_iload_n 2 C dX9_comes_222 rfl rfl ?_
    obtain ⟨q223, hc223, hf⟩ := sv_bind_some hf
    refine sv_callS0 C ms_X9_103 (m_X9_sixteen (sv_l X) E h0 ad sz _ _ _ hc223) sv_sx0 rfl rfl (Nat.le_of_ble_eq_true rfl) ⟨by rw [hR]; decide, by rw [hR]; decide⟩ ⟨by rw [hR]; decide, by rw [hR]; decide⟩ dX9_comes_223 ?_
    refine sv_iadd C dX9_comes_226 ?_
    refine sv_sub (lv' := [(0, .ref h0), (2, .int s0)]) [1, 0] rfl ?_
    exact w_X9_comes_227 C hZ hR hN _ _ _ hf
  · replace hf := sv_if_t c205 hf
    refine sv_iload_n 2 C dX9_comes_208 rfl rfl ?_
    obtain ⟨q209, hc209, hf⟩ := sv_bind_some hf
    refine sv_callS0 C ms_X9_103 (m_X9_sixteen (sv_l X) E h0 ad sz _ _ _ hc209) sv_sx0 rfl rfl (Nat.le_of_ble_eq_true rfl) ⟨by rw [hR]; decide, by rw [hR]; decide⟩ ⟨by rw [hR]; decide, by rw [hR]; decide⟩ dX9_comes_209 ?_
    refine sv_goto (tgt := 227) C dX9_comes_212 (by decide) ?_
    refine sv_sub (lv' := [(0, .ref h0), (2, .int s0)]) [1, 0] rfl ?_
    exact w_X9_comes_227 C hZ hR hN _ _ _ hf
set_option maxHeartbeats 4000000 in
set_option maxRecDepth 100000 in
theorem w_X9_comes_267 {E : sv_E} {X : sv_X} {sz : Nat} {q : md_B} {h0 : Nat} {ad : Nat → Nat} (C : sv_C E X cX9_comes RX9 []) (hZ : sv_Z E X none none (md_w E h0 ad q) sz 0 0) (hR : sv_R X = { frames := 10, cells := 0, slots := 0, locals := 224 }) (hN : sv_nL X = 3) (B : md_B) (s0 : Int32) (hf : f_X9_comes_267 B s0 = some q) : sv_J E X (md_w E h0 ad B) sz 0 0 267 [(0, .ref h0)] [.int s0] := by
  rw [f_X9_comes_267] at hf
  refine sv_istore_n (lv' := [(2, .int s0), (0, .ref h0)]) C dX9_comes_267 rfl (by rw [hN]; decide) rfl ?_
  refine sv_aload_n 1 C dX9_comes_268 rfl rfl ?_
  refine sv_dup C dX9_comes_269 rfl ?_
  refine md_geti C fl_X9_90 (by decide) dX9_comes_270 ?_
  refine sv_iconst (v := 1) C dX9_comes_273 (by decide) ?_
  refine sv_iadd C dX9_comes_274 ?_
  refine md_puti C fl_X9_90 (by decide) rfl rfl dX9_comes_275 ?_
  refine sv_sub (lv' := [(0, .ref h0), (2, .int s0)]) [1, 0] rfl ?_
  exact w_X9_comes_278 C hZ hR hN _ _ hf
set_option maxHeartbeats 4000000 in
set_option maxRecDepth 100000 in
theorem w_X9_comes_259 {E : sv_E} {X : sv_X} {sz : Nat} {q : md_B} {h0 : Nat} {ad : Nat → Nat} (C : sv_C E X cX9_comes RX9 []) (hZ : sv_Z E X none none (md_w E h0 ad q) sz 0 0) (hR : sv_R X = { frames := 10, cells := 0, slots := 0, locals := 224 }) (hN : sv_nL X = 3) (B : md_B) (s0 : Int32) (s1 : Int32) (hf : f_X9_comes_259 B s0 s1 = some q) : sv_J E X (md_w E h0 ad B) sz 0 0 259 [(0, .ref h0)] [.int s0, .int s1] := by
  rw [f_X9_comes_259] at hf
  refine sv_icmp_ne (tgt := 266) C dX9_comes_259 (by decide) (fun c259 => ?_) (fun c259 => ?_)
  · replace hf := sv_if_f c259 hf
    refine sv_iconst (v := 0) C dX9_comes_266 (by decide) ?_
    refine sv_sub (lv' := [(0, .ref h0)]) [0] rfl ?_
    exact w_X9_comes_267 C hZ hR hN _ _ hf
  · replace hf := sv_if_t c259 hf
    refine sv_iconst (v := 1) C dX9_comes_262 (by decide) ?_
    refine sv_goto (tgt := 267) C dX9_comes_263 (by decide) ?_
    refine sv_sub (lv' := [(0, .ref h0)]) [0] rfl ?_
    exact w_X9_comes_267 C hZ hR hN _ _ hf
set_option maxHeartbeats 4000000 in
set_option maxRecDepth 100000 in
theorem m_X9_comes (l : Launch) (E : sv_E) (h0 : Nat) (ad : Nat → Nat) (sz : Nat) (B : md_B) (x1 : Int32) (q : md_B) (hf : f_X9_comes B x1 = some q) : sv_Met l E yX9_comes cX9_comes 3 none 10 224 [] [.ref h0, .int x1] (md_w E h0 ad B) sz none (md_w E h0 ad q) sz 0 0 := by
  refine sv_ofJ (by decide) (Nat.le_of_ble_eq_true rfl) ?_
  intro X hX hN hnm hR C hZ
  replace C : sv_C E X cX9_comes RX9 [] := C
  show sv_J E X (md_w E h0 ad B) sz 0 0 0 [(0, .ref h0), (1, .int x1)] []
  rw [f_X9_comes] at hf
  refine sv_iload_n 1 C dX9_comes_0 rfl rfl ?_
  refine sv_bipush (v := 36) C dX9_comes_1 (by decide) ?_
  refine sv_icmp_eq (tgt := 12) C dX9_comes_3 (by decide) (fun c3 => ?_) (fun c3 => ?_)
  · replace hf := sv_if_t c3 hf
    refine sv_sub (lv' := [(0, .ref h0), (1, .int x1)]) [0, 1] rfl ?_
    exact w_X9_comes_12 C hZ hR hN _ _ hf
  · replace hf := sv_if_f c3 hf
    refine sv_iload_n 1 C dX9_comes_6 rfl rfl ?_
    refine sv_bipush (v := 33) C dX9_comes_7 (by decide) ?_
    refine sv_icmp_ne (tgt := 56) C dX9_comes_9 (by decide) (fun c9 => ?_) (fun c9 => ?_)
    · replace hf := sv_if_f c9 hf
      refine sv_aload_n 0 C dX9_comes_56 rfl rfl ?_
      refine md_geti C fl_X9_90 (by decide) dX9_comes_57 ?_
      refine sv_if_ne (tgt := 64) C dX9_comes_60 (by decide) (fun c60 => ?_) (fun c60 => ?_)
      · replace hf := sv_if_f c60 hf
        refine sv_aload_n 0 C dX9_comes_64 rfl rfl ?_
        refine md_geti C fl_X9_90 (by decide) dX9_comes_65 ?_
        refine sv_iconst (v := 1) C dX9_comes_68 (by decide) ?_
        refine sv_icmp_ne (tgt := 178) C dX9_comes_69 (by decide) (fun c69 => ?_) (fun c69 => ?_)
        · replace hf := sv_if_f c69 hf
          refine sv_aload_n 0 C dX9_comes_178 rfl rfl ?_
          refine md_geti C fl_X9_90 (by decide) dX9_comes_179 ?_
          refine sv_iconst (v := 4) C dX9_comes_182 (by decide) ?_
          refine sv_icmp_ge (tgt := 243) C dX9_comes_183 (by decide) (fun c183 => ?_) (fun c183 => ?_)
          · replace hf := sv_if_t c183 hf
            refine sv_iload_n 1 C dX9_comes_243 rfl rfl ?_
            refine sv_aload_n 0 C dX9_comes_244 rfl rfl ?_
            refine md_geti C fl_X9_90 (by decide) dX9_comes_245 ?_
            refine sv_iconst (v := 4) C dX9_comes_248 (by decide) ?_
            refine sv_icmp_ne (tgt := 257) C dX9_comes_249 (by decide) (fun c249 => ?_) (fun c249 => ?_)
            · replace hf := sv_if_f c249 hf
              refine sv_bipush (v := 10) C dX9_comes_257 (by decide) ?_
              refine sv_sub (lv' := [(0, .ref h0)]) [0] rfl ?_
              exact w_X9_comes_259 C hZ hR hN _ _ _ hf
            · replace hf := sv_if_t c249 hf
              refine sv_bipush (v := 13) C dX9_comes_252 (by decide) ?_
              refine sv_goto (tgt := 259) C dX9_comes_254 (by decide) ?_
              refine sv_sub (lv' := [(0, .ref h0)]) [0] rfl ?_
              exact w_X9_comes_259 C hZ hR hN _ _ _ hf
          · replace hf := sv_if_f c183 hf
            refine sv_iload_n 1 C dX9_comes_186 rfl rfl ?_
            obtain ⟨q187, hc187, hf⟩ := sv_bind_some hf
            refine sv_callS0 C ms_X9_103 (m_X9_sixteen (sv_l X) E h0 ad sz _ _ _ hc187) sv_sx0 rfl rfl (Nat.le_of_ble_eq_true rfl) ⟨by rw [hR]; decide, by rw [hR]; decide⟩ ⟨by rw [hR]; decide, by rw [hR]; decide⟩ dX9_comes_187 ?_
            refine sv_if_lt (tgt := 197) C dX9_comes_190 (by decide) (fun c190 => ?_) (fun c190 => ?_)
            · replace hf := sv_if_t c190 hf
              refine sv_iconst (v := 0) C dX9_comes_197 (by decide) ?_
              refine sv_sub (lv' := [(0, .ref h0), (1, .int x1)]) [0, 1] rfl ?_
              exact w_X9_comes_198 C hZ hR hN _ _ _ hf
            · replace hf := sv_if_f c190 hf
              refine sv_iconst (v := 1) C dX9_comes_193 (by decide) ?_
              refine sv_goto (tgt := 198) C dX9_comes_194 (by decide) ?_
              refine sv_sub (lv' := [(0, .ref h0), (1, .int x1)]) [0, 1] rfl ?_
              exact w_X9_comes_198 C hZ hR hN _ _ _ hf
        · replace hf := sv_if_t c69 hf
          refine sv_iload_n 1 C dX9_comes_72 rfl rfl ?_
          refine sv_bipush (v := 42) C dX9_comes_73 (by decide) ?_
          refine sv_icmp_ne (tgt := 94) C dX9_comes_75 (by decide) (fun c75 => ?_) (fun c75 => ?_)
          · replace hf := sv_if_f c75 hf
            refine sv_iload_n 1 C dX9_comes_94 rfl rfl ?_
            refine sv_i2l C dX9_comes_95 ?_
            refine sv_ldc2 C kw_776 dX9_comes_96 ?_
            refine sv_ldc2 C kw_777 dX9_comes_99 ?_
            obtain ⟨q102, hc102, hf⟩ := sv_bind_some hf
            refine sv_callS0 C ms_X9_74 (m_X9_in (sv_l X) E h0 ad sz _ _ _ _ _ hc102) sv_sx0 rfl rfl (Nat.le_of_ble_eq_true rfl) ⟨by rw [hR]; decide, by rw [hR]; decide⟩ ⟨by rw [hR]; decide, by rw [hR]; decide⟩ dX9_comes_102 ?_
            refine sv_if_eq (tgt := 121) C dX9_comes_105 (by decide) (fun c105 => ?_) (fun c105 => ?_)
            · replace hf := sv_if_t c105 hf
              refine sv_sub (lv' := [(0, .ref h0), (1, .int x1)]) [0, 1] rfl ?_
              exact w_X9_comes_121 C hZ hR hN _ _ hf
            · replace hf := sv_if_f c105 hf
              refine sv_aload_n 0 C dX9_comes_108 rfl rfl ?_
              refine md_geti C fl_X9_93 (by decide) dX9_comes_109 ?_
              refine sv_bipush (v := 78) C dX9_comes_112 (by decide) ?_
              refine sv_icmp_gt (tgt := 121) C dX9_comes_114 (by decide) (fun c114 => ?_) (fun c114 => ?_)
              · replace hf := sv_if_t c114 hf
                refine sv_sub (lv' := [(0, .ref h0), (1, .int x1)]) [0, 1] rfl ?_
                exact w_X9_comes_121 C hZ hR hN _ _ hf
              · replace hf := sv_if_f c114 hf
                refine sv_iconst (v := 1) C dX9_comes_117 (by decide) ?_
                refine sv_goto (tgt := 122) C dX9_comes_118 (by decide) ?_
                refine sv_sub (lv' := [(0, .ref h0), (1, .int x1)]) [0, 1] rfl ?_
                exact w_X9_comes_122 C hZ hR hN _ _ _ hf
          · replace hf := sv_if_t c75 hf
            refine sv_aload_n 0 C dX9_comes_78 rfl rfl ?_
            refine md_geti C fl_X9_93 (by decide) dX9_comes_79 ?_
            refine sv_iconst (v := 1) C dX9_comes_82 (by decide) ?_
            refine sv_icmp_le (tgt := 90) C dX9_comes_83 (by decide) (fun c83 => ?_) (fun c83 => ?_)
            · replace hf := sv_if_t c83 hf
              refine sv_iconst (v := 0) C dX9_comes_90 (by decide) ?_
              refine sv_goto (tgt := 122) C dX9_comes_91 (by decide) ?_
              refine sv_sub (lv' := [(0, .ref h0), (1, .int x1)]) [0, 1] rfl ?_
              exact w_X9_comes_122 C hZ hR hN _ _ _ hf
            · replace hf := sv_if_f c83 hf
              refine sv_iconst (v := 1) C dX9_comes_86 (by decide) ?_
              refine sv_goto (tgt := 122) C dX9_comes_87 (by decide) ?_
              refine sv_sub (lv' := [(0, .ref h0), (1, .int x1)]) [0, 1] rfl ?_
              exact w_X9_comes_122 C hZ hR hN _ _ _ hf
      · replace hf := sv_if_t c60 hf
        exact sv_vret C (by cases hf; exact hZ) dX9_comes_63
    · replace hf := sv_if_t c9 hf
      refine sv_sub (lv' := [(0, .ref h0), (1, .int x1)]) [0, 1] rfl ?_
      exact w_X9_comes_12 C hZ hR hN _ _ hf
def f_X9_stream_24 : Nat → md_B → Int32 → Int32 → Int32 → Option (Int32 × md_B)
  | 0, _, _, _, _ => none
  | n + 1, B, x1, x2, x3 =>
    if x2 ≤ x3 then
      some ((B.2 10 (0 : Int32).toNatClampNeg) - x1, B)
    else
      sv_g (sv_inb x3 2000) (
        (f_X9_comes B (B.2 1 x3.toNatClampNeg)).bind (fun q36 =>
          (f_X9_stream_24 n) q36 x1 x2 (x3 + 1)))
def f_X9_stream (B : md_B) : Option (Int32 × md_B) :=
  f_X9_stream_24 sv_fu (md_pf (md_pf B 0 0) 2 0) ((md_pf B 0 0).2 10 (0 : Int32).toNatClampNeg) ((md_pf B 0 0).1 2) 0
set_option maxHeartbeats 4000000 in
set_option maxRecDepth 100000 in
theorem w_X9_stream_24 {E : sv_E} {X : sv_X} {sz : Nat} {q : Int32 × md_B} {h0 : Nat} {ad : Nat → Nat} (C : sv_C E X cX9_stream RX9 []) (hZ : sv_Z E X (some .int) (some (.int q.1)) (md_w E h0 ad q.2) sz 0 0) (hR : sv_R X = { frames := 11, cells := 0, slots := 0, locals := 246 }) (hN : sv_nL X = 4) : ∀ (n : Nat) (B : md_B) (x1 : Int32) (x2 : Int32) (x3 : Int32), f_X9_stream_24 n B x1 x2 x3 = some q → sv_J E X (md_w E h0 ad B) sz 0 0 24 [(0, .ref h0), (1, .int x1), (2, .int x2), (3, .int x3)] [] := by
  intro n
  induction n with
  | zero =>
    intro B x1 x2 x3 hf
    rw [f_X9_stream_24] at hf
    cases hf
  | succ n ih =>
    intro B x1 x2 x3 hf
    rw [f_X9_stream_24] at hf
    refine sv_iload_n 3 C dX9_stream_24 rfl rfl ?_
    refine sv_iload_n 2 C dX9_stream_25 rfl rfl ?_
    refine sv_icmp_ge (tgt := 45) C dX9_stream_26 (by decide) (fun c26 => ?_) (fun c26 => ?_)
    · replace hf := sv_if_t c26 hf
      refine sv_aload_n 0 C dX9_stream_45 rfl rfl ?_
      refine md_getr C fl_X9_23 (by decide) dX9_stream_46 ?_
      refine sv_iconst (v := 0) C dX9_stream_49 (by decide) ?_
      refine md_iald C 3 rfl (by decide) dX9_stream_50 ?_
      refine sv_iload_n 1 C dX9_stream_51 rfl rfl ?_
      refine sv_isub C dX9_stream_52 ?_
      exact sv_iret C (by cases hf; exact hZ) dX9_stream_53
    · replace hf := sv_if_f c26 hf
      refine sv_aload_n 0 C dX9_stream_29 rfl rfl ?_
      refine sv_aload_n 0 C dX9_stream_30 rfl rfl ?_
      refine md_getr C fl_X9_13 (by decide) dX9_stream_31 ?_
      refine sv_iload_n 3 C dX9_stream_34 rfl rfl ?_
      obtain ⟨g35, hf⟩ := sv_g_some hf
      refine md_iald C 0 rfl g35 dX9_stream_35 ?_
      obtain ⟨q36, hc36, hf⟩ := sv_bind_some hf
      refine sv_callV0 C mv_X9_86 (m_X9_comes (sv_l X) E h0 ad sz _ _ _ hc36) sv_sx0 0 rfl rfl rfl rfl (Nat.le_of_ble_eq_true rfl) ⟨by rw [hR]; decide, by rw [hR]; decide⟩ ⟨by rw [hR]; decide, by rw [hR]; decide⟩ dX9_stream_36 ?_
      refine sv_iinc (v := x3 + 1) (lv' := [(3, .int (x3 + 1)), (0, .ref h0), (1, .int x1), (2, .int x2)]) 3 C dX9_stream_39 rfl rfl (by rw [hN]; decide) rfl ?_
      refine sv_goto (tgt := 24) C dX9_stream_42 (by decide) ?_
      refine sv_sub (lv' := [(0, .ref h0), (1, .int x1), (2, .int x2), (3, .int (x3 + 1))]) [1, 2, 3, 0] rfl ?_
      exact ih _ _ _ _ hf
set_option maxHeartbeats 4000000 in
set_option maxRecDepth 100000 in
theorem m_X9_stream (l : Launch) (E : sv_E) (h0 : Nat) (ad : Nat → Nat) (sz : Nat) (B : md_B) (q : Int32 × md_B) (hf : f_X9_stream B = some q) : sv_Met l E yX9_stream cX9_stream 4 (some .int) 11 246 [] [.ref h0] (md_w E h0 ad B) sz (some (.int q.1)) (md_w E h0 ad q.2) sz 0 0 := by
  refine sv_ofJ (by decide) (Nat.le_of_ble_eq_true rfl) ?_
  intro X hX hN hnm hR C hZ
  replace C : sv_C E X cX9_stream RX9 [] := C
  show sv_J E X (md_w E h0 ad B) sz 0 0 0 [(0, .ref h0)] []
  rw [f_X9_stream] at hf
  refine sv_aload_n 0 C dX9_stream_0 rfl rfl ?_
  refine sv_iconst (v := 0) C dX9_stream_1 (by decide) ?_
  refine md_puti C fl_X9_1 (by decide) rfl rfl dX9_stream_2 ?_
  refine sv_aload_n 0 C dX9_stream_5 rfl rfl ?_
  refine md_getr C fl_X9_23 (by decide) dX9_stream_6 ?_
  refine sv_iconst (v := 0) C dX9_stream_9 (by decide) ?_
  refine md_iald C 3 rfl (by decide) dX9_stream_10 ?_
  refine sv_istore_n (lv' := [(1, .int ((md_pf B 0 0).2 10 (0 : Int32).toNatClampNeg)), (0, .ref h0)]) C dX9_stream_11 rfl (by rw [hN]; decide) rfl ?_
  refine sv_aload_n 1 C dX9_stream_12 rfl rfl ?_
  refine md_geti C fl_X9_70 (by decide) dX9_stream_13 ?_
  refine sv_istore_n (lv' := [(2, .int ((md_pf B 0 0).1 2)), (1, .int ((md_pf B 0 0).2 10 (0 : Int32).toNatClampNeg)), (0, .ref h0)]) C dX9_stream_16 rfl (by rw [hN]; decide) rfl ?_
  refine sv_aload_n 2 C dX9_stream_17 rfl rfl ?_
  refine sv_iconst (v := 0) C dX9_stream_18 (by decide) ?_
  refine md_puti C fl_X9_70 (by decide) rfl rfl dX9_stream_19 ?_
  refine sv_iconst (v := 0) C dX9_stream_22 (by decide) ?_
  refine sv_istore_n (lv' := [(3, .int 0), (2, .int ((md_pf B 0 0).1 2)), (1, .int ((md_pf B 0 0).2 10 (0 : Int32).toNatClampNeg)), (0, .ref h0)]) C dX9_stream_23 rfl (by rw [hN]; decide) rfl ?_
  refine sv_sub (lv' := [(0, .ref h0), (1, .int ((md_pf B 0 0).2 10 (0 : Int32).toNatClampNeg)), (2, .int ((md_pf B 0 0).1 2)), (3, .int 0)]) [3, 2, 1, 0] rfl ?_
  exact w_X9_stream_24 C hZ hR hN sv_fu _ _ _ _ hf
def f_X9_count_28 : Nat → md_B → Int32 → Int32 → Int32 → Option (Int32 × md_B)
  | 0, _, _, _, _ => none
  | n + 1, B, x1, x2, x3 =>
    if 11 ≤ x3 then
      if x1 = 9 then
        some (B.1 28, B)
      else if x1 = 10 then
        some (B.1 2, B)
      else if x1 = 11 then
        some (B.1 4, B)
      else if x1 = 12 then
        if (B.1 5) = 0 then
          some (0, B)
        else
          some (B.1 7, B)
      else if x1 = 13 then
        some (x2, B)
      else 
        some ((-2147483648), B)
    else
      sv_g (sv_inb x3 11) (
        (f_X9_count_28 n) B x1 (x2 + (B.2 22 x3.toNatClampNeg)) (x3 + 1))
def f_X9_count (B : md_B) (x1 : Int32) : Option (Int32 × md_B) :=
  (f_X9_in (md_pf B 0 0) x1.toInt64 0 8).bind (fun q11 =>
    if q11.1 = 0 then
      f_X9_count_28 sv_fu q11.2 x1 0 0
    else
      sv_g (sv_inb x1 9) (
        some (q11.2.2 10 x1.toNatClampNeg, q11.2)))
set_option maxHeartbeats 4000000 in
set_option maxRecDepth 100000 in
theorem w_X9_count_28 {E : sv_E} {X : sv_X} {sz : Nat} {q : Int32 × md_B} {h0 : Nat} {ad : Nat → Nat} (C : sv_C E X cX9_count RX9 []) (hZ : sv_Z E X (some .int) (some (.int q.1)) (md_w E h0 ad q.2) sz 0 0) (hR : sv_R X = { frames := 1, cells := 0, slots := 0, locals := 25 }) (hN : sv_nL X = 4) : ∀ (n : Nat) (B : md_B) (x1 : Int32) (x2 : Int32) (x3 : Int32), f_X9_count_28 n B x1 x2 x3 = some q → sv_J E X (md_w E h0 ad B) sz 0 0 28 [(0, .ref h0), (1, .int x1), (2, .int x2), (3, .int x3)] [] := by
  intro n
  induction n with
  | zero =>
    intro B x1 x2 x3 hf
    rw [f_X9_count_28] at hf
    cases hf
  | succ n ih =>
    intro B x1 x2 x3 hf
    rw [f_X9_count_28] at hf
    refine sv_iload_n 3 C dX9_count_28 rfl rfl ?_
    refine sv_bipush (v := 11) C dX9_count_29 (by decide) ?_
    refine sv_icmp_ge (tgt := 49) C dX9_count_31 (by decide) (fun c31 => ?_) (fun c31 => ?_)
    · replace hf := sv_if_t c31 hf
      refine sv_iload_n 1 C dX9_count_49 rfl rfl ?_
      by_cases c50_0 : x1 = 9
      · replace hf := sv_if_t c50_0 hf
        refine sv_tswI (v := 9) (tgt := 84) C dX9_count_50 c50_0 (by decide) (by decide) rfl (by decide) ?_
        refine sv_aload_n 0 C dX9_count_84 rfl rfl ?_
        refine md_geti C fl_X9_289 (by decide) dX9_count_85 ?_
        exact sv_iret C (by cases hf; exact hZ) dX9_count_88
      · replace hf := sv_if_f c50_0 hf
        by_cases c50_1 : x1 = 10
        · replace hf := sv_if_t c50_1 hf
          refine sv_tswI (v := 10) (tgt := 89) C dX9_count_50 c50_1 (by decide) (by decide) rfl (by decide) ?_
          refine sv_aload_n 0 C dX9_count_89 rfl rfl ?_
          refine md_geti C fl_X9_70 (by decide) dX9_count_90 ?_
          exact sv_iret C (by cases hf; exact hZ) dX9_count_93
        · replace hf := sv_if_f c50_1 hf
          by_cases c50_2 : x1 = 11
          · replace hf := sv_if_t c50_2 hf
            refine sv_tswI (v := 11) (tgt := 94) C dX9_count_50 c50_2 (by decide) (by decide) rfl (by decide) ?_
            refine sv_aload_n 0 C dX9_count_94 rfl rfl ?_
            refine md_geti C fl_X9_338 (by decide) dX9_count_95 ?_
            exact sv_iret C (by cases hf; exact hZ) dX9_count_98
          · replace hf := sv_if_f c50_2 hf
            by_cases c50_3 : x1 = 12
            · replace hf := sv_if_t c50_3 hf
              refine sv_tswI (v := 12) (tgt := 99) C dX9_count_50 c50_3 (by decide) (by decide) rfl (by decide) ?_
              refine sv_aload_n 0 C dX9_count_99 rfl rfl ?_
              refine md_geti C fl_X9_90 (by decide) dX9_count_100 ?_
              refine sv_if_ne (tgt := 110) C dX9_count_103 (by decide) (fun c103 => ?_) (fun c103 => ?_)
              · replace hf := sv_if_f c103 hf
                refine sv_aload_n 0 C dX9_count_110 rfl rfl ?_
                refine md_geti C fl_X9_93 (by decide) dX9_count_111 ?_
                exact sv_iret C (by cases hf; exact hZ) dX9_count_114
              · replace hf := sv_if_t c103 hf
                refine sv_iconst (v := 0) C dX9_count_106 (by decide) ?_
                refine sv_goto (tgt := 114) C dX9_count_107 (by decide) ?_
                exact sv_iret C (by cases hf; exact hZ) dX9_count_114
            · replace hf := sv_if_f c50_3 hf
              by_cases c50_4 : x1 = 13
              · replace hf := sv_if_t c50_4 hf
                refine sv_tswI (v := 13) (tgt := 115) C dX9_count_50 c50_4 (by decide) (by decide) rfl (by decide) ?_
                refine sv_iload_n 2 C dX9_count_115 rfl rfl ?_
                exact sv_iret C (by cases hf; exact hZ) dX9_count_116
              · replace hf := sv_if_f c50_4 hf
                have n50_0 : x1.toInt ≠ 9 := fun e => c50_0 (Int32.toInt_inj.mp (e.trans (by decide)))
                have n50_1 : x1.toInt ≠ 10 := fun e => c50_1 (Int32.toInt_inj.mp (e.trans (by decide)))
                have n50_2 : x1.toInt ≠ 11 := fun e => c50_2 (Int32.toInt_inj.mp (e.trans (by decide)))
                have n50_3 : x1.toInt ≠ 12 := fun e => c50_3 (Int32.toInt_inj.mp (e.trans (by decide)))
                have n50_4 : x1.toInt ≠ 13 := fun e => c50_4 (Int32.toInt_inj.mp (e.trans (by decide)))
                refine sv_tswO (tgt := 117) C dX9_count_50 (by omega) (by decide) ?_
                refine sv_ldc C kw_562 dX9_count_117 ?_
                exact sv_iret C (by cases hf; exact hZ) dX9_count_119
    · replace hf := sv_if_f c31 hf
      refine sv_iload_n 2 C dX9_count_34 rfl rfl ?_
      refine sv_aload_n 0 C dX9_count_35 rfl rfl ?_
      refine md_getr C fl_X9_41 (by decide) dX9_count_36 ?_
      refine sv_iload_n 3 C dX9_count_39 rfl rfl ?_
      obtain ⟨g40, hf⟩ := sv_g_some hf
      refine md_iald C 9 rfl g40 dX9_count_40 ?_
      refine sv_iadd C dX9_count_41 ?_
      refine sv_istore_n (lv' := [(2, .int (x2 + (B.2 22 x3.toNatClampNeg))), (0, .ref h0), (1, .int x1), (3, .int x3)]) C dX9_count_42 rfl (by rw [hN]; decide) rfl ?_
      refine sv_iinc (v := x3 + 1) (lv' := [(3, .int (x3 + 1)), (2, .int (x2 + (B.2 22 x3.toNatClampNeg))), (0, .ref h0), (1, .int x1)]) 3 C dX9_count_43 rfl rfl (by rw [hN]; decide) rfl ?_
      refine sv_goto (tgt := 28) C dX9_count_46 (by decide) ?_
      refine sv_sub (lv' := [(0, .ref h0), (1, .int x1), (2, .int (x2 + (B.2 22 x3.toNatClampNeg))), (3, .int (x3 + 1))]) [2, 3, 1, 0] rfl ?_
      exact ih _ _ _ _ hf
set_option maxHeartbeats 4000000 in
set_option maxRecDepth 100000 in
theorem m_X9_count (l : Launch) (E : sv_E) (h0 : Nat) (ad : Nat → Nat) (sz : Nat) (B : md_B) (x1 : Int32) (q : Int32 × md_B) (hf : f_X9_count B x1 = some q) : sv_Met l E yX9_count cX9_count 4 (some .int) 1 25 [] [.ref h0, .int x1] (md_w E h0 ad B) sz (some (.int q.1)) (md_w E h0 ad q.2) sz 0 0 := by
  refine sv_ofJ (by decide) (Nat.le_of_ble_eq_true rfl) ?_
  intro X hX hN hnm hR C hZ
  replace C : sv_C E X cX9_count RX9 [] := C
  show sv_J E X (md_w E h0 ad B) sz 0 0 0 [(0, .ref h0), (1, .int x1)] []
  rw [f_X9_count] at hf
  refine sv_aload_n 0 C dX9_count_0 rfl rfl ?_
  refine sv_iconst (v := 0) C dX9_count_1 (by decide) ?_
  refine md_puti C fl_X9_1 (by decide) rfl rfl dX9_count_2 ?_
  refine sv_iload_n 1 C dX9_count_5 rfl rfl ?_
  refine sv_i2l C dX9_count_6 ?_
  refine sv_lconst (v := 0) C dX9_count_7 (by decide) ?_
  refine sv_ldc2 C kw_789 dX9_count_8 ?_
  obtain ⟨q11, hc11, hf⟩ := sv_bind_some hf
  refine sv_callS0 C ms_X9_74 (m_X9_in (sv_l X) E h0 ad sz _ _ _ _ _ hc11) sv_sx0 rfl rfl (Nat.le_of_ble_eq_true rfl) ⟨by rw [hR]; decide, by rw [hR]; decide⟩ ⟨by rw [hR]; decide, by rw [hR]; decide⟩ dX9_count_11 ?_
  refine sv_if_eq (tgt := 24) C dX9_count_14 (by decide) (fun c14 => ?_) (fun c14 => ?_)
  · replace hf := sv_if_t c14 hf
    refine sv_iconst (v := 0) C dX9_count_24 (by decide) ?_
    refine sv_istore_n (lv' := [(2, .int 0), (0, .ref h0), (1, .int x1)]) C dX9_count_25 rfl (by rw [hN]; decide) rfl ?_
    refine sv_iconst (v := 0) C dX9_count_26 (by decide) ?_
    refine sv_istore_n (lv' := [(3, .int 0), (2, .int 0), (0, .ref h0), (1, .int x1)]) C dX9_count_27 rfl (by rw [hN]; decide) rfl ?_
    refine sv_sub (lv' := [(0, .ref h0), (1, .int x1), (2, .int 0), (3, .int 0)]) [2, 3, 1, 0] rfl ?_
    exact w_X9_count_28 C hZ hR hN sv_fu _ _ _ _ hf
  · replace hf := sv_if_f c14 hf
    refine sv_aload_n 0 C dX9_count_17 rfl rfl ?_
    refine md_getr C fl_X9_23 (by decide) dX9_count_18 ?_
    refine sv_iload_n 1 C dX9_count_21 rfl rfl ?_
    obtain ⟨g22, hf⟩ := sv_g_some hf
    refine md_iald C 3 rfl g22 dX9_count_22 ?_
    exact sv_iret C (by cases hf; exact hZ) dX9_count_23
def f_X9_fix (B : md_B) (x1 : Int32) : Option (Int32 × md_B) :=
  (f_X9_in (md_pf B 0 0) x1.toInt64 0 17).bind (fun q11 =>
    if q11.1 = 0 then
      (f_X9_refuse q11.2 1).bind (fun q28 =>
        some (q28.1, q28.2))
    else
      sv_g (sv_inb x1 18) (
        some (q11.2.2 16 x1.toNatClampNeg, q11.2)))
set_option maxHeartbeats 4000000 in
set_option maxRecDepth 100000 in
theorem m_X9_fix (l : Launch) (E : sv_E) (h0 : Nat) (ad : Nat → Nat) (sz : Nat) (B : md_B) (x1 : Int32) (q : Int32 × md_B) (hf : f_X9_fix B x1 = some q) : sv_Met l E yX9_fix cX9_fix 2 (some .int) 1 25 [] [.ref h0, .int x1] (md_w E h0 ad B) sz (some (.int q.1)) (md_w E h0 ad q.2) sz 0 0 := by
  refine sv_ofJ (by decide) (Nat.le_of_ble_eq_true rfl) ?_
  intro X hX hN hnm hR C hZ
  replace C : sv_C E X cX9_fix RX9 [] := C
  show sv_J E X (md_w E h0 ad B) sz 0 0 0 [(0, .ref h0), (1, .int x1)] []
  rw [f_X9_fix] at hf
  refine sv_aload_n 0 C dX9_fix_0 rfl rfl ?_
  refine sv_iconst (v := 0) C dX9_fix_1 (by decide) ?_
  refine md_puti C fl_X9_1 (by decide) rfl rfl dX9_fix_2 ?_
  refine sv_iload_n 1 C dX9_fix_5 rfl rfl ?_
  refine sv_i2l C dX9_fix_6 ?_
  refine sv_lconst (v := 0) C dX9_fix_7 (by decide) ?_
  refine sv_ldc2 C kw_791 dX9_fix_8 ?_
  obtain ⟨q11, hc11, hf⟩ := sv_bind_some hf
  refine sv_callS0 C ms_X9_74 (m_X9_in (sv_l X) E h0 ad sz _ _ _ _ _ hc11) sv_sx0 rfl rfl (Nat.le_of_ble_eq_true rfl) ⟨by rw [hR]; decide, by rw [hR]; decide⟩ ⟨by rw [hR]; decide, by rw [hR]; decide⟩ dX9_fix_11 ?_
  refine sv_if_eq (tgt := 26) C dX9_fix_14 (by decide) (fun c14 => ?_) (fun c14 => ?_)
  · replace hf := sv_if_t c14 hf
    refine sv_aload_n 0 C dX9_fix_26 rfl rfl ?_
    refine sv_iconst (v := 1) C dX9_fix_27 (by decide) ?_
    obtain ⟨q28, hc28, hf⟩ := sv_bind_some hf
    refine sv_callV0 C mv_X9_343 (m_X9_refuse (sv_l X) E h0 ad sz _ _ _ hc28) sv_sx0 0 rfl rfl rfl rfl (Nat.le_of_ble_eq_true rfl) ⟨by rw [hR]; decide, by rw [hR]; decide⟩ ⟨by rw [hR]; decide, by rw [hR]; decide⟩ dX9_fix_28 ?_
    exact sv_iret C (by cases hf; exact hZ) dX9_fix_31
  · replace hf := sv_if_f c14 hf
    refine sv_aload_n 0 C dX9_fix_17 rfl rfl ?_
    refine md_getr C fl_X9_35 (by decide) dX9_fix_18 ?_
    refine sv_iload_n 1 C dX9_fix_21 rfl rfl ?_
    obtain ⟨g22, hf⟩ := sv_g_some hf
    refine md_iald C 7 rfl g22 dX9_fix_22 ?_
    refine sv_goto (tgt := 31) C dX9_fix_23 (by decide) ?_
    exact sv_iret C (by cases hf; exact hZ) dX9_fix_31
def f_X9_find (B : md_B) (x1 : Int32) : Option (Int32 × md_B) :=
  (f_X9_found (md_pf B 0 0) x1).bind (fun q7 =>
    some (q7.1, q7.2))
set_option maxHeartbeats 4000000 in
set_option maxRecDepth 100000 in
theorem m_X9_find (l : Launch) (E : sv_E) (h0 : Nat) (ad : Nat → Nat) (sz : Nat) (B : md_B) (x1 : Int32) (q : Int32 × md_B) (hf : f_X9_find B x1 = some q) : sv_Met l E yX9_find cX9_find 2 (some .int) 1 22 [] [.ref h0, .int x1] (md_w E h0 ad B) sz (some (.int q.1)) (md_w E h0 ad q.2) sz 0 0 := by
  refine sv_ofJ (by decide) (Nat.le_of_ble_eq_true rfl) ?_
  intro X hX hN hnm hR C hZ
  replace C : sv_C E X cX9_find RX9 [] := C
  show sv_J E X (md_w E h0 ad B) sz 0 0 0 [(0, .ref h0), (1, .int x1)] []
  rw [f_X9_find] at hf
  refine sv_aload_n 0 C dX9_find_0 rfl rfl ?_
  refine sv_iconst (v := 0) C dX9_find_1 (by decide) ?_
  refine md_puti C fl_X9_1 (by decide) rfl rfl dX9_find_2 ?_
  refine sv_aload_n 0 C dX9_find_5 rfl rfl ?_
  refine sv_iload_n 1 C dX9_find_6 rfl rfl ?_
  obtain ⟨q7, hc7, hf⟩ := sv_bind_some hf
  refine sv_callV0 C mv_X9_294 (m_X9_found (sv_l X) E h0 ad sz _ _ _ hc7) sv_sx0 0 rfl rfl rfl rfl (Nat.le_of_ble_eq_true rfl) ⟨by rw [hR]; decide, by rw [hR]; decide⟩ ⟨by rw [hR]; decide, by rw [hR]; decide⟩ dX9_find_7 ?_
  exact sv_iret C (by cases hf; exact hZ) dX9_find_10
def f_X9_vessel_47 (B : md_B) : Option (Int32 × md_B) :=
  (f_X9_refuse B 1).bind (fun q49 =>
    some (q49.1, q49.2))
def f_X9_vessel_53 (B : md_B) (x1 : Int32) (x2 : Int32) : Option (Int32 × md_B) :=
  if 24 ≤ x2 then
    sv_g (sv_inb (((3 * x1) + x2) - 30) 120) (
      some (B.2 31 (((3 * x1) + x2) - 30).toNatClampNeg, B))
  else
    sv_g (sv_inb ((24 * x1) + x2) 960) (
      some (B.2 29 ((24 * x1) + x2).toNatClampNeg, B))
def f_X9_vessel (B : md_B) (x1 : Int32) (x2 : Int32) : Option (Int32 × md_B) :=
  (f_X9_in (md_pf B 0 0) x1.toInt64 0 ((((md_pf B 0 0).1 28) - 1).toInt64)).bind (fun q15 =>
    if q15.1 = 0 then
      f_X9_vessel_47 q15.2
    else
      (f_X9_in q15.2 x2.toInt64 0 23).bind (fun q27 =>
        if q27.1 = 0 then
          (f_X9_in q27.2 x2.toInt64 30 32).bind (fun q41 =>
            if q41.1 = 0 then
              f_X9_vessel_47 q41.2
            else
              f_X9_vessel_53 q41.2 x1 x2)
        else
          f_X9_vessel_53 q27.2 x1 x2))
set_option maxHeartbeats 4000000 in
set_option maxRecDepth 100000 in
theorem w_X9_vessel_47 {E : sv_E} {X : sv_X} {sz : Nat} {q : Int32 × md_B} {h0 : Nat} {ad : Nat → Nat} (C : sv_C E X cX9_vessel RX9 []) (hZ : sv_Z E X (some .int) (some (.int q.1)) (md_w E h0 ad q.2) sz 0 0) (hR : sv_R X = { frames := 1, cells := 0, slots := 0, locals := 25 }) (hN : sv_nL X = 3) (B : md_B) (hf : f_X9_vessel_47 B = some q) : sv_J E X (md_w E h0 ad B) sz 0 0 47 [(0, .ref h0)] [] := by
  rw [f_X9_vessel_47] at hf
  refine sv_aload_n 0 C dX9_vessel_47 rfl rfl ?_
  refine sv_iconst (v := 1) C dX9_vessel_48 (by decide) ?_
  obtain ⟨q49, hc49, hf⟩ := sv_bind_some hf
  refine sv_callV0 C mv_X9_343 (m_X9_refuse (sv_l X) E h0 ad sz _ _ _ hc49) sv_sx0 0 rfl rfl rfl rfl (Nat.le_of_ble_eq_true rfl) ⟨by rw [hR]; decide, by rw [hR]; decide⟩ ⟨by rw [hR]; decide, by rw [hR]; decide⟩ dX9_vessel_49 ?_
  exact sv_iret C (by cases hf; exact hZ) dX9_vessel_52
set_option maxHeartbeats 4000000 in
set_option maxRecDepth 100000 in
theorem w_X9_vessel_53 {E : sv_E} {X : sv_X} {sz : Nat} {q : Int32 × md_B} {h0 : Nat} {ad : Nat → Nat} (C : sv_C E X cX9_vessel RX9 []) (hZ : sv_Z E X (some .int) (some (.int q.1)) (md_w E h0 ad q.2) sz 0 0) (hR : sv_R X = { frames := 1, cells := 0, slots := 0, locals := 25 }) (hN : sv_nL X = 3) (B : md_B) (x1 : Int32) (x2 : Int32) (hf : f_X9_vessel_53 B x1 x2 = some q) : sv_J E X (md_w E h0 ad B) sz 0 0 53 [(0, .ref h0), (1, .int x1), (2, .int x2)] [] := by
  rw [f_X9_vessel_53] at hf
  refine sv_iload_n 2 C dX9_vessel_53 rfl rfl ?_
  refine sv_bipush (v := 24) C dX9_vessel_54 (by decide) ?_
  refine sv_icmp_ge (tgt := 73) C dX9_vessel_56 (by decide) (fun c56 => ?_) (fun c56 => ?_)
  · replace hf := sv_if_t c56 hf
    refine sv_aload_n 0 C dX9_vessel_73 rfl rfl ?_
    refine md_getr C fl_X9_61 (by decide) dX9_vessel_74 ?_
    refine sv_iconst (v := 3) C dX9_vessel_77 (by decide) ?_
    refine sv_iload_n 1 C dX9_vessel_78 rfl rfl ?_
    refine sv_imul C dX9_vessel_79 ?_
    refine sv_iload_n 2 C dX9_vessel_80 rfl rfl ?_
    refine sv_iadd C dX9_vessel_81 ?_
    refine sv_bipush (v := 30) C dX9_vessel_82 (by decide) ?_
    refine sv_isub C dX9_vessel_84 ?_
    obtain ⟨g85, hf⟩ := sv_g_some hf
    refine md_iald C 15 rfl g85 dX9_vessel_85 ?_
    exact sv_iret C (by cases hf; exact hZ) dX9_vessel_86
  · replace hf := sv_if_f c56 hf
    refine sv_aload_n 0 C dX9_vessel_59 rfl rfl ?_
    refine md_getr C fl_X9_55 (by decide) dX9_vessel_60 ?_
    refine sv_bipush (v := 24) C dX9_vessel_63 (by decide) ?_
    refine sv_iload_n 1 C dX9_vessel_65 rfl rfl ?_
    refine sv_imul C dX9_vessel_66 ?_
    refine sv_iload_n 2 C dX9_vessel_67 rfl rfl ?_
    refine sv_iadd C dX9_vessel_68 ?_
    obtain ⟨g69, hf⟩ := sv_g_some hf
    refine md_iald C 13 rfl g69 dX9_vessel_69 ?_
    refine sv_goto (tgt := 86) C dX9_vessel_70 (by decide) ?_
    exact sv_iret C (by cases hf; exact hZ) dX9_vessel_86
set_option maxHeartbeats 4000000 in
set_option maxRecDepth 100000 in
theorem m_X9_vessel (l : Launch) (E : sv_E) (h0 : Nat) (ad : Nat → Nat) (sz : Nat) (B : md_B) (x1 : Int32) (x2 : Int32) (q : Int32 × md_B) (hf : f_X9_vessel B x1 x2 = some q) : sv_Met l E yX9_vessel cX9_vessel 3 (some .int) 1 25 [] [.ref h0, .int x1, .int x2] (md_w E h0 ad B) sz (some (.int q.1)) (md_w E h0 ad q.2) sz 0 0 := by
  refine sv_ofJ (by decide) (Nat.le_of_ble_eq_true rfl) ?_
  intro X hX hN hnm hR C hZ
  replace C : sv_C E X cX9_vessel RX9 [] := C
  show sv_J E X (md_w E h0 ad B) sz 0 0 0 [(0, .ref h0), (1, .int x1), (2, .int x2)] []
  rw [f_X9_vessel] at hf
  refine sv_aload_n 0 C dX9_vessel_0 rfl rfl ?_
  refine sv_iconst (v := 0) C dX9_vessel_1 (by decide) ?_
  refine md_puti C fl_X9_1 (by decide) rfl rfl dX9_vessel_2 ?_
  refine sv_iload_n 1 C dX9_vessel_5 rfl rfl ?_
  refine sv_i2l C dX9_vessel_6 ?_
  refine sv_lconst (v := 0) C dX9_vessel_7 (by decide) ?_
  refine sv_aload_n 0 C dX9_vessel_8 rfl rfl ?_
  refine md_geti C fl_X9_289 (by decide) dX9_vessel_9 ?_
  refine sv_iconst (v := 1) C dX9_vessel_12 (by decide) ?_
  refine sv_isub C dX9_vessel_13 ?_
  refine sv_i2l C dX9_vessel_14 ?_
  obtain ⟨q15, hc15, hf⟩ := sv_bind_some hf
  refine sv_callS0 C ms_X9_74 (m_X9_in (sv_l X) E h0 ad sz _ _ _ _ _ hc15) sv_sx0 rfl rfl (Nat.le_of_ble_eq_true rfl) ⟨by rw [hR]; decide, by rw [hR]; decide⟩ ⟨by rw [hR]; decide, by rw [hR]; decide⟩ dX9_vessel_15 ?_
  refine sv_if_eq (tgt := 47) C dX9_vessel_18 (by decide) (fun c18 => ?_) (fun c18 => ?_)
  · replace hf := sv_if_t c18 hf
    refine sv_sub (lv' := [(0, .ref h0)]) [0] rfl ?_
    exact w_X9_vessel_47 C hZ hR hN _ hf
  · replace hf := sv_if_f c18 hf
    refine sv_iload_n 2 C dX9_vessel_21 rfl rfl ?_
    refine sv_i2l C dX9_vessel_22 ?_
    refine sv_lconst (v := 0) C dX9_vessel_23 (by decide) ?_
    refine sv_ldc2 C kw_796 dX9_vessel_24 ?_
    obtain ⟨q27, hc27, hf⟩ := sv_bind_some hf
    refine sv_callS0 C ms_X9_74 (m_X9_in (sv_l X) E h0 ad sz _ _ _ _ _ hc27) sv_sx0 rfl rfl (Nat.le_of_ble_eq_true rfl) ⟨by rw [hR]; decide, by rw [hR]; decide⟩ ⟨by rw [hR]; decide, by rw [hR]; decide⟩ dX9_vessel_27 ?_
    refine sv_if_ne (tgt := 53) C dX9_vessel_30 (by decide) (fun c30 => ?_) (fun c30 => ?_)
    · replace hf := sv_if_f c30 hf
      refine sv_sub (lv' := [(0, .ref h0), (1, .int x1), (2, .int x2)]) [0, 1, 2] rfl ?_
      exact w_X9_vessel_53 C hZ hR hN _ _ _ hf
    · replace hf := sv_if_t c30 hf
      refine sv_iload_n 2 C dX9_vessel_33 rfl rfl ?_
      refine sv_i2l C dX9_vessel_34 ?_
      refine sv_ldc2 C kw_797 dX9_vessel_35 ?_
      refine sv_ldc2 C kw_776 dX9_vessel_38 ?_
      obtain ⟨q41, hc41, hf⟩ := sv_bind_some hf
      refine sv_callS0 C ms_X9_74 (m_X9_in (sv_l X) E h0 ad sz _ _ _ _ _ hc41) sv_sx0 rfl rfl (Nat.le_of_ble_eq_true rfl) ⟨by rw [hR]; decide, by rw [hR]; decide⟩ ⟨by rw [hR]; decide, by rw [hR]; decide⟩ dX9_vessel_41 ?_
      refine sv_if_ne (tgt := 53) C dX9_vessel_44 (by decide) (fun c44 => ?_) (fun c44 => ?_)
      · replace hf := sv_if_f c44 hf
        refine sv_sub (lv' := [(0, .ref h0), (1, .int x1), (2, .int x2)]) [0, 1, 2] rfl ?_
        exact w_X9_vessel_53 C hZ hR hN _ _ _ hf
      · replace hf := sv_if_t c44 hf
        refine sv_sub (lv' := [(0, .ref h0)]) [0] rfl ?_
        exact w_X9_vessel_47 C hZ hR hN _ hf
def f_X9_letter (B : md_B) (x1 : Int32) (x2 : Int32) (x3 : Int32) : Option (Int32 × md_B) :=
  (f_X9_in (md_pf B 0 0) x1.toInt64 0 ((((md_pf B 0 0).1 28) - 1).toInt64)).bind (fun q15 =>
    if q15.1 = 0 then
      some ((-2147483648), q15.2)
    else
      (f_X9_in q15.2 x2.toInt64 0 2).bind (fun q27 =>
        if q27.1 = 0 then
          some ((-2147483648), q27.2)
        else
          sv_g (sv_inb ((3 * x1) + x2) 120) (
            (f_X9_in q27.2 x3.toInt64 0 (((q27.2.2 31 ((3 * x1) + x2).toNatClampNeg) - 1).toInt64)).bind (fun q49 =>
              if q49.1 = 0 then
                some ((-2147483648), q49.2)
              else
                sv_g (sv_inb (((60 * x1) + (20 * x2)) + x3) 2400) (
                  some (q49.2.2 30 (((60 * x1) + (20 * x2)) + x3).toNatClampNeg, q49.2))))))
set_option maxHeartbeats 4000000 in
set_option maxRecDepth 100000 in
theorem m_X9_letter (l : Launch) (E : sv_E) (h0 : Nat) (ad : Nat → Nat) (sz : Nat) (B : md_B) (x1 : Int32) (x2 : Int32) (x3 : Int32) (q : Int32 × md_B) (hf : f_X9_letter B x1 x2 x3 = some q) : sv_Met l E yX9_letter cX9_letter 4 (some .int) 1 25 [] [.ref h0, .int x1, .int x2, .int x3] (md_w E h0 ad B) sz (some (.int q.1)) (md_w E h0 ad q.2) sz 0 0 := by
  refine sv_ofJ (by decide) (Nat.le_of_ble_eq_true rfl) ?_
  intro X hX hN hnm hR C hZ
  replace C : sv_C E X cX9_letter RX9 [] := C
  show sv_J E X (md_w E h0 ad B) sz 0 0 0 [(0, .ref h0), (1, .int x1), (2, .int x2), (3, .int x3)] []
  rw [f_X9_letter] at hf
  refine sv_aload_n 0 C dX9_letter_0 rfl rfl ?_
  refine sv_iconst (v := 0) C dX9_letter_1 (by decide) ?_
  refine md_puti C fl_X9_1 (by decide) rfl rfl dX9_letter_2 ?_
  refine sv_iload_n 1 C dX9_letter_5 rfl rfl ?_
  refine sv_i2l C dX9_letter_6 ?_
  refine sv_lconst (v := 0) C dX9_letter_7 (by decide) ?_
  refine sv_aload_n 0 C dX9_letter_8 rfl rfl ?_
  refine md_geti C fl_X9_289 (by decide) dX9_letter_9 ?_
  refine sv_iconst (v := 1) C dX9_letter_12 (by decide) ?_
  refine sv_isub C dX9_letter_13 ?_
  refine sv_i2l C dX9_letter_14 ?_
  obtain ⟨q15, hc15, hf⟩ := sv_bind_some hf
  refine sv_callS0 C ms_X9_74 (m_X9_in (sv_l X) E h0 ad sz _ _ _ _ _ hc15) sv_sx0 rfl rfl (Nat.le_of_ble_eq_true rfl) ⟨by rw [hR]; decide, by rw [hR]; decide⟩ ⟨by rw [hR]; decide, by rw [hR]; decide⟩ dX9_letter_15 ?_
  refine sv_if_eq (tgt := 55) C dX9_letter_18 (by decide) (fun c18 => ?_) (fun c18 => ?_)
  · replace hf := sv_if_t c18 hf
    refine sv_ldc C kw_562 dX9_letter_55 ?_
    exact sv_iret C (by cases hf; exact hZ) dX9_letter_57
  · replace hf := sv_if_f c18 hf
    refine sv_iload_n 2 C dX9_letter_21 rfl rfl ?_
    refine sv_i2l C dX9_letter_22 ?_
    refine sv_lconst (v := 0) C dX9_letter_23 (by decide) ?_
    refine sv_ldc2 C kw_798 dX9_letter_24 ?_
    obtain ⟨q27, hc27, hf⟩ := sv_bind_some hf
    refine sv_callS0 C ms_X9_74 (m_X9_in (sv_l X) E h0 ad sz _ _ _ _ _ hc27) sv_sx0 rfl rfl (Nat.le_of_ble_eq_true rfl) ⟨by rw [hR]; decide, by rw [hR]; decide⟩ ⟨by rw [hR]; decide, by rw [hR]; decide⟩ dX9_letter_27 ?_
    refine sv_if_eq (tgt := 55) C dX9_letter_30 (by decide) (fun c30 => ?_) (fun c30 => ?_)
    · replace hf := sv_if_t c30 hf
      refine sv_ldc C kw_562 dX9_letter_55 ?_
      exact sv_iret C (by cases hf; exact hZ) dX9_letter_57
    · replace hf := sv_if_f c30 hf
      refine sv_iload_n 3 C dX9_letter_33 rfl rfl ?_
      refine sv_i2l C dX9_letter_34 ?_
      refine sv_lconst (v := 0) C dX9_letter_35 (by decide) ?_
      refine sv_aload_n 0 C dX9_letter_36 rfl rfl ?_
      refine md_getr C fl_X9_61 (by decide) dX9_letter_37 ?_
      refine sv_iconst (v := 3) C dX9_letter_40 (by decide) ?_
      refine sv_iload_n 1 C dX9_letter_41 rfl rfl ?_
      refine sv_imul C dX9_letter_42 ?_
      refine sv_iload_n 2 C dX9_letter_43 rfl rfl ?_
      refine sv_iadd C dX9_letter_44 ?_
      obtain ⟨g45, hf⟩ := sv_g_some hf
      refine md_iald C 15 rfl g45 dX9_letter_45 ?_
      refine sv_iconst (v := 1) C dX9_letter_46 (by decide) ?_
      refine sv_isub C dX9_letter_47 ?_
      refine sv_i2l C dX9_letter_48 ?_
      obtain ⟨q49, hc49, hf⟩ := sv_bind_some hf
      refine sv_callS0 C ms_X9_74 (m_X9_in (sv_l X) E h0 ad sz _ _ _ _ _ hc49) sv_sx0 rfl rfl (Nat.le_of_ble_eq_true rfl) ⟨by rw [hR]; decide, by rw [hR]; decide⟩ ⟨by rw [hR]; decide, by rw [hR]; decide⟩ dX9_letter_49 ?_
      refine sv_if_ne (tgt := 58) C dX9_letter_52 (by decide) (fun c52 => ?_) (fun c52 => ?_)
      · replace hf := sv_if_f c52 hf
        refine sv_aload_n 0 C dX9_letter_58 rfl rfl ?_
        refine md_getr C fl_X9_58 (by decide) dX9_letter_59 ?_
        refine sv_bipush (v := 60) C dX9_letter_62 (by decide) ?_
        refine sv_iload_n 1 C dX9_letter_64 rfl rfl ?_
        refine sv_imul C dX9_letter_65 ?_
        refine sv_bipush (v := 20) C dX9_letter_66 (by decide) ?_
        refine sv_iload_n 2 C dX9_letter_68 rfl rfl ?_
        refine sv_imul C dX9_letter_69 ?_
        refine sv_iadd C dX9_letter_70 ?_
        refine sv_iload_n 3 C dX9_letter_71 rfl rfl ?_
        refine sv_iadd C dX9_letter_72 ?_
        obtain ⟨g73, hf⟩ := sv_g_some hf
        refine md_iald C 14 rfl g73 dX9_letter_73 ?_
        exact sv_iret C (by cases hf; exact hZ) dX9_letter_74
      · replace hf := sv_if_t c52 hf
        refine sv_ldc C kw_562 dX9_letter_55 ?_
        exact sv_iret C (by cases hf; exact hZ) dX9_letter_57
