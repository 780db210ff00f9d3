def f_X9_thrown (B : md_B) : Option (Int32 × md_B) :=
  some (B.1 0, B)
set_option maxHeartbeats 4000000 in
set_option maxRecDepth 100000 in
theorem m_X9_thrown (l : Launch) (E : sv_E) (h0 : Nat) (ad : Nat → Nat) (sz : Nat) (B : md_B) (q : Int32 × md_B) (hf : f_X9_thrown B = some q) : sv_Met l E yX9_thrown cX9_thrown 1 (some .int) 0 0 [] [.ref h0] (md_w E h0 ad B) sz (some (.int q.1)) (md_w E h0 ad q.2) sz 0 0 := by
  refine sv_ofJ (by decide) (Nat.le_of_ble_eq_true rfl) ?_
  intro X hX hN hnm hR C hZ
  replace C : sv_C E X cX9_thrown RX9 [] := C
  show sv_J E X (md_w E h0 ad B) sz 0 0 0 [(0, .ref h0)] []
  rw [f_X9_thrown] at hf
  refine sv_aload_n 0 C dX9_thrown_0 rfl rfl ?_
  refine md_geti C fl_X9_1 (by decide) dX9_thrown_1 ?_
  exact sv_iret C (by cases hf; exact hZ) dX9_thrown_4
def f_X9_in (B : md_B) (x0 : Int64) (x2 : Int64) (x4 : Int64) : Option (Int32 × md_B) :=
  if (lg_cmp x0 x2) < 0 then
    some (0, B)
  else
    if 0 < (lg_cmp x0 x4) then
      some (0, B)
    else
      some (1, B)
set_option maxHeartbeats 4000000 in
set_option maxRecDepth 100000 in
theorem m_X9_in (l : Launch) (E : sv_E) (h0 : Nat) (ad : Nat → Nat) (sz : Nat) (B : md_B) (x0 : Int64) (x2 : Int64) (x4 : Int64) (q : Int32 × md_B) (hf : f_X9_in B x0 x2 x4 = some q) : sv_Met l E yX9_in cX9_in 6 (some .boolean) 0 0 [] [.long x0, .long x2, .long x4] (md_w E h0 ad B) sz (some (.int q.1)) (md_w E h0 ad q.2) sz 0 0 := by
  refine sv_ofJ (by decide) (Nat.le_of_ble_eq_true rfl) ?_
  intro X hX hN hnm hR C hZ
  replace C : sv_C E X cX9_in RX9 [] := C
  show sv_J E X (md_w E h0 ad B) sz 0 0 0 [(0, .long x0), (2, .long x2), (4, .long x4)] []
  rw [f_X9_in] at hf
  refine sv_lload_n 0 C dX9_in_0 rfl rfl ?_
  refine sv_lload_n 1 C dX9_in_1 rfl rfl ?_
  refine sv_lcmp C dX9_in_2 ?_
  refine sv_if_lt (tgt := 17) C dX9_in_3 (by decide) (fun c3 => ?_) (fun c3 => ?_)
  · replace hf := sv_if_t c3 hf
    refine sv_iconst (v := 0) C dX9_in_17 (by decide) ?_
    exact sv_zret (ty := .boolean) C (by decide) (by cases hf; exact hZ) dX9_in_18
  · replace hf := sv_if_f c3 hf
    refine sv_lload_n 0 C dX9_in_6 rfl rfl ?_
    refine sv_lload 2 C dX9_in_7 rfl ?_
    refine sv_lcmp C dX9_in_9 ?_
    refine sv_if_gt (tgt := 17) C dX9_in_10 (by decide) (fun c10 => ?_) (fun c10 => ?_)
    · replace hf := sv_if_t c10 hf
      refine sv_iconst (v := 0) C dX9_in_17 (by decide) ?_
      exact sv_zret (ty := .boolean) C (by decide) (by cases hf; exact hZ) dX9_in_18
    · replace hf := sv_if_f c10 hf
      refine sv_iconst (v := 1) C dX9_in_13 (by decide) ?_
      refine sv_goto (tgt := 18) C dX9_in_14 (by decide) ?_
      exact sv_zret (ty := .boolean) C (by decide) (by cases hf; exact hZ) dX9_in_18
def f_X9_refuse (B : md_B) (x1 : Int32) : Option (Int32 × md_B) :=
  some (0, md_pf B 0 x1)
set_option maxHeartbeats 4000000 in
set_option maxRecDepth 100000 in
theorem m_X9_refuse (l : Launch) (E : sv_E) (h0 : Nat) (ad : Nat → Nat) (sz : Nat) (B : md_B) (x1 : Int32) (q : Int32 × md_B) (hf : f_X9_refuse B x1 = some q) : sv_Met l E yX9_refuse cX9_refuse 2 (some .int) 0 0 [] [.ref h0, .int x1] (md_w E h0 ad B) sz (some (.int q.1)) (md_w E h0 ad q.2) sz 0 0 := by
  refine sv_ofJ (by decide) (Nat.le_of_ble_eq_true rfl) ?_
  intro X hX hN hnm hR C hZ
  replace C : sv_C E X cX9_refuse RX9 [] := C
  show sv_J E X (md_w E h0 ad B) sz 0 0 0 [(0, .ref h0), (1, .int x1)] []
  rw [f_X9_refuse] at hf
  refine sv_aload_n 0 C dX9_refuse_0 rfl rfl ?_
  refine sv_iload_n 1 C dX9_refuse_1 rfl rfl ?_
  refine md_puti C fl_X9_1 (by decide) rfl rfl dX9_refuse_2 ?_
  refine sv_iconst (v := 0) C dX9_refuse_5 (by decide) ?_
  exact sv_iret C (by cases hf; exact hZ) dX9_refuse_6
def f_X9_feed_74 (k21 : md_B → Int32 → Int32 → Int32 → Int32 → Int32 → Int32 → Option (Int32 × md_B)) (B : md_B) (x1 : Int32) (x2 : Int32) (x3 : Int32) (x4 : Int32) (x5 : Int32) (x6 : Int32) (s0 : Int32) : Option (Int32 × md_B) :=
  sv_g (sv_inb ((B.1 2) + x6) 2000) (
    k21 (md_pa B 1 ((B.1 2) + x6) ((s0 >>> ((24 - (8 * (x6 - x6 / 4 * 4))) &&& 31)) &&& 255)) x1 x2 x3 x4 x5 (x6 + 1))
def f_X9_feed_21 : Nat → md_B → Int32 → Int32 → Int32 → Int32 → Int32 → Int32 → Option (Int32 × md_B)
  | 0, _, _, _, _, _, _, _ => none
  | n + 1, B, x1, x2, x3, x4, x5, x6 =>
    if 20 ≤ x6 then
      some ((md_pf B 2 ((B.1 2) + 20)).1 2, md_pf B 2 ((B.1 2) + 20))
    else
      if 4 ≤ x6 then
        if 8 ≤ x6 then
          if 12 ≤ x6 then
            if 16 ≤ x6 then
              f_X9_feed_74 (f_X9_feed_21 n) B x1 x2 x3 x4 x5 x6 x5
            else
              f_X9_feed_74 (f_X9_feed_21 n) B x1 x2 x3 x4 x5 x6 x4
          else
            f_X9_feed_74 (f_X9_feed_21 n) B x1 x2 x3 x4 x5 x6 x3
        else
          f_X9_feed_74 (f_X9_feed_21 n) B x1 x2 x3 x4 x5 x6 x2
      else
        f_X9_feed_74 (f_X9_feed_21 n) B x1 x2 x3 x4 x5 x6 x1
def f_X9_feed (B : md_B) (x1 : Int32) (x2 : Int32) (x3 : Int32) (x4 : Int32) (x5 : Int32) : Option (Int32 × md_B) :=
  if ((md_pf B 0 0).1 2) ≤ 1980 then
    f_X9_feed_21 sv_fu (md_pf B 0 0) x1 x2 x3 x4 x5 0
  else
    some ((-2147483648), md_pf B 0 0)
set_option maxHeartbeats 4000000 in
set_option maxRecDepth 100000 in
theorem w_X9_feed_74 {E : sv_E} {X : sv_X} {sz : Nat} {q : Int32 × md_B} {h0 : Nat} {ad : Nat → Nat} (C : sv_C E X cX9_feed RX9 []) (hZ : sv_Z E X (some .int) (some (.int q.1)) (md_w E h0 ad q.2) sz 0 0) (hR : sv_R X = { frames := 0, cells := 0, slots := 0, locals := 0 }) (hN : sv_nL X = 8) {k21 : md_B → Int32 → Int32 → Int32 → Int32 → Int32 → Int32 → Option (Int32 × md_B)} (hk21 : ∀ (B : md_B) (x1 : Int32) (x2 : Int32) (x3 : Int32) (x4 : Int32) (x5 : Int32) (x6 : Int32), k21 B x1 x2 x3 x4 x5 x6 = some q → sv_J E X (md_w E h0 ad B) sz 0 0 21 [(0, .ref h0), (1, .int x1), (2, .int x2), (3, .int x3), (4, .int x4), (5, .int x5), (6, .int x6)] []) (B : md_B) (x1 : Int32) (x2 : Int32) (x3 : Int32) (x4 : Int32) (x5 : Int32) (x6 : Int32) (s0 : Int32) (hf : f_X9_feed_74 k21 B x1 x2 x3 x4 x5 x6 s0 = some q) : sv_J E X (md_w E h0 ad B) sz 0 0 74 [(0, .ref h0), (1, .int x1), (2, .int x2), (3, .int x3), (4, .int x4), (5, .int x5), (6, .int x6)] [.int s0] := by
  rw [f_X9_feed_74] at hf
  refine sv_istore (lv' := [(7, .int s0), (0, .ref h0), (1, .int x1), (2, .int x2), (3, .int x3), (4, .int x4), (5, .int x5), (6, .int x6)]) C dX9_feed_74 (by rw [hN]; decide) rfl ?_
  refine sv_aload_n 1 C dX9_feed_76 rfl rfl ?_
  refine md_getr C fl_X9_13 (by decide) dX9_feed_77 ?_
  refine sv_aload_n 1 C dX9_feed_80 rfl rfl ?_
  refine md_geti C fl_X9_70 (by decide) dX9_feed_81 ?_
  refine sv_iload 7 C dX9_feed_84 rfl ?_
  refine sv_iadd C dX9_feed_86 ?_
  refine sv_iload 0 C dX9_feed_87 rfl ?_
  refine sv_bipush (v := 24) C dX9_feed_89 (by decide) ?_
  refine sv_bipush (v := 8) C dX9_feed_91 (by decide) ?_
  refine sv_iload 7 C dX9_feed_93 rfl ?_
  refine sv_iconst (v := 4) C dX9_feed_95 (by decide) ?_
  refine sv_irem C dX9_feed_96 (by decide) ?_
  refine sv_imul C dX9_feed_97 ?_
  refine sv_isub C dX9_feed_98 ?_
  refine sv_ishr C dX9_feed_99 ?_
  refine sv_sipush (v := 255) C dX9_feed_100 (by decide) ?_
  refine sv_iand C dX9_feed_103 ?_
  obtain ⟨g104, hf⟩ := sv_g_some hf
  refine md_iast C 0 rfl g104 dX9_feed_104 ?_
  refine sv_iinc (v := x6 + 1) (lv' := [(6, .int (x6 + 1)), (7, .int s0), (0, .ref h0), (1, .int x1), (2, .int x2), (3, .int x3), (4, .int x4), (5, .int x5)]) 7 C dX9_feed_105 rfl rfl (by rw [hN]; decide) rfl ?_
  refine sv_goto (tgt := 21) C dX9_feed_108 (by decide) ?_
  refine sv_sub (lv' := [(0, .ref h0), (1, .int x1), (2, .int x2), (3, .int x3), (4, .int x4), (5, .int x5), (6, .int (x6 + 1))]) [2, 3, 4, 5, 6, 7, 0] rfl ?_
  exact hk21 _ _ _ _ _ _ _ hf
set_option maxHeartbeats 4000000 in
set_option maxRecDepth 100000 in
theorem w_X9_feed_21 {E : sv_E} {X : sv_X} {sz : Nat} {q : Int32 × md_B} {h0 : Nat} {ad : Nat → Nat} (C : sv_C E X cX9_feed RX9 []) (hZ : sv_Z E X (some .int) (some (.int q.1)) (md_w E h0 ad q.2) sz 0 0) (hR : sv_R X = { frames := 0, cells := 0, slots := 0, locals := 0 }) (hN : sv_nL X = 8) : ∀ (n : Nat) (B : md_B) (x1 : Int32) (x2 : Int32) (x3 : Int32) (x4 : Int32) (x5 : Int32) (x6 : Int32), f_X9_feed_21 n B x1 x2 x3 x4 x5 x6 = some q → sv_J E X (md_w E h0 ad B) sz 0 0 21 [(0, .ref h0), (1, .int x1), (2, .int x2), (3, .int x3), (4, .int x4), (5, .int x5), (6, .int x6)] [] := by
  intro n
  induction n with
  | zero =>
    intro B x1 x2 x3 x4 x5 x6 hf
    rw [f_X9_feed_21] at hf
    cases hf
  | succ n ih =>
    intro B x1 x2 x3 x4 x5 x6 hf
    rw [f_X9_feed_21] at hf
    refine sv_iload 6 C dX9_feed_21 rfl ?_
    refine sv_bipush (v := 20) C dX9_feed_23 (by decide) ?_
    refine sv_icmp_ge (tgt := 111) C dX9_feed_25 (by decide) (fun c25 => ?_) (fun c25 => ?_)
    · replace hf := sv_if_t c25 hf
      refine sv_aload_n 0 C dX9_feed_111 rfl rfl ?_
      refine sv_dup C dX9_feed_112 rfl ?_
      refine md_geti C fl_X9_70 (by decide) dX9_feed_113 ?_
      refine sv_bipush (v := 20) C dX9_feed_116 (by decide) ?_
      refine sv_iadd C dX9_feed_118 ?_
      refine md_puti C fl_X9_70 (by decide) rfl rfl dX9_feed_119 ?_
      refine sv_aload_n 0 C dX9_feed_122 rfl rfl ?_
      refine md_geti C fl_X9_70 (by decide) dX9_feed_123 ?_
      exact sv_iret C (by cases hf; exact hZ) dX9_feed_126
    · replace hf := sv_if_f c25 hf
      refine sv_iload 6 C dX9_feed_28 rfl ?_
      refine sv_iconst (v := 4) C dX9_feed_30 (by decide) ?_
      refine sv_icmp_ge (tgt := 38) C dX9_feed_31 (by decide) (fun c31 => ?_) (fun c31 => ?_)
      · replace hf := sv_if_t c31 hf
        refine sv_iload 6 C dX9_feed_38 rfl ?_
        refine sv_bipush (v := 8) C dX9_feed_40 (by decide) ?_
        refine sv_icmp_ge (tgt := 49) C dX9_feed_42 (by decide) (fun c42 => ?_) (fun c42 => ?_)
        · replace hf := sv_if_t c42 hf
          refine sv_iload 6 C dX9_feed_49 rfl ?_
          refine sv_bipush (v := 12) C dX9_feed_51 (by decide) ?_
          refine sv_icmp_ge (tgt := 60) C dX9_feed_53 (by decide) (fun c53 => ?_) (fun c53 => ?_)
          · replace hf := sv_if_t c53 hf
            refine sv_iload 6 C dX9_feed_60 rfl ?_
            refine sv_bipush (v := 16) C dX9_feed_62 (by decide) ?_
            refine sv_icmp_ge (tgt := 72) C dX9_feed_64 (by decide) (fun c64 => ?_) (fun c64 => ?_)
            · replace hf := sv_if_t c64 hf
              refine sv_iload 5 C dX9_feed_72 rfl ?_
              refine sv_sub (lv' := [(0, .ref h0), (1, .int x1), (2, .int x2), (3, .int x3), (4, .int x4), (5, .int x5), (6, .int x6)]) [0, 1, 2, 3, 4, 5, 6] rfl ?_
              exact w_X9_feed_74 C hZ hR hN ih _ _ _ _ _ _ _ _ hf
            · replace hf := sv_if_f c64 hf
              refine sv_iload 4 C dX9_feed_67 rfl ?_
              refine sv_goto (tgt := 74) C dX9_feed_69 (by decide) ?_
              refine sv_sub (lv' := [(0, .ref h0), (1, .int x1), (2, .int x2), (3, .int x3), (4, .int x4), (5, .int x5), (6, .int x6)]) [0, 1, 2, 3, 4, 5, 6] rfl ?_
              exact w_X9_feed_74 C hZ hR hN ih _ _ _ _ _ _ _ _ hf
          · replace hf := sv_if_f c53 hf
            refine sv_iload_n 3 C dX9_feed_56 rfl rfl ?_
            refine sv_goto (tgt := 74) C dX9_feed_57 (by decide) ?_
            refine sv_sub (lv' := [(0, .ref h0), (1, .int x1), (2, .int x2), (3, .int x3), (4, .int x4), (5, .int x5), (6, .int x6)]) [0, 1, 2, 3, 4, 5, 6] rfl ?_
            exact w_X9_feed_74 C hZ hR hN ih _ _ _ _ _ _ _ _ hf
        · replace hf := sv_if_f c42 hf
          refine sv_iload_n 2 C dX9_feed_45 rfl rfl ?_
          refine sv_goto (tgt := 74) C dX9_feed_46 (by decide) ?_
          refine sv_sub (lv' := [(0, .ref h0), (1, .int x1), (2, .int x2), (3, .int x3), (4, .int x4), (5, .int x5), (6, .int x6)]) [0, 1, 2, 3, 4, 5, 6] rfl ?_
          exact w_X9_feed_74 C hZ hR hN ih _ _ _ _ _ _ _ _ hf
      · replace hf := sv_if_f c31 hf
        refine sv_iload_n 1 C dX9_feed_34 rfl rfl ?_
        refine sv_goto (tgt := 74) C dX9_feed_35 (by decide) ?_
        refine sv_sub (lv' := [(0, .ref h0), (1, .int x1), (2, .int x2), (3, .int x3), (4, .int x4), (5, .int x5), (6, .int x6)]) [0, 1, 2, 3, 4, 5, 6] rfl ?_
        exact w_X9_feed_74 C hZ hR hN ih _ _ _ _ _ _ _ _ hf
set_option maxHeartbeats 4000000 in
set_option maxRecDepth 100000 in
theorem m_X9_feed (l : Launch) (E : sv_E) (h0 : Nat) (ad : Nat → Nat) (sz : Nat) (B : md_B) (x1 : Int32) (x2 : Int32) (x3 : Int32) (x4 : Int32) (x5 : Int32) (q : Int32 × md_B) (hf : f_X9_feed B x1 x2 x3 x4 x5 = some q) : sv_Met l E yX9_feed cX9_feed 8 (some .int) 0 0 [] [.ref h0, .int x1, .int x2, .int x3, .int x4, .int x5] (md_w E h0 ad B) sz (some (.int q.1)) (md_w E h0 ad q.2) sz 0 0 := by
  refine sv_ofJ (by decide) (Nat.le_of_ble_eq_true rfl) ?_
  intro X hX hN hnm hR C hZ
  replace C : sv_C E X cX9_feed RX9 [] := C
  show sv_J E X (md_w E h0 ad B) sz 0 0 0 [(0, .ref h0), (1, .int x1), (2, .int x2), (3, .int x3), (4, .int x4), (5, .int x5)] []
  rw [f_X9_feed] at hf
  refine sv_aload_n 0 C dX9_feed_0 rfl rfl ?_
  refine sv_iconst (v := 0) C dX9_feed_1 (by decide) ?_
  refine md_puti C fl_X9_1 (by decide) rfl rfl dX9_feed_2 ?_
  refine sv_aload_n 0 C dX9_feed_5 rfl rfl ?_
  refine md_geti C fl_X9_70 (by decide) dX9_feed_6 ?_
  refine sv_sipush (v := 1980) C dX9_feed_9 (by decide) ?_
  refine sv_icmp_le (tgt := 18) C dX9_feed_12 (by decide) (fun c12 => ?_) (fun c12 => ?_)
  · replace hf := sv_if_t c12 hf
    refine sv_iconst (v := 0) C dX9_feed_18 (by decide) ?_
    refine sv_istore (lv' := [(6, .int 0), (0, .ref h0), (1, .int x1), (2, .int x2), (3, .int x3), (4, .int x4), (5, .int x5)]) C dX9_feed_19 (by rw [hN]; decide) rfl ?_
    refine sv_sub (lv' := [(0, .ref h0), (1, .int x1), (2, .int x2), (3, .int x3), (4, .int x4), (5, .int x5), (6, .int 0)]) [1, 2, 3, 4, 5, 6, 0] rfl ?_
    exact w_X9_feed_21 C hZ hR hN sv_fu _ _ _ _ _ _ _ hf
  · replace hf := sv_if_f c12 hf
    refine sv_ldc C kw_562 dX9_feed_15 ?_
    exact sv_iret C (by cases hf; exact hZ) dX9_feed_17
def f_X9_end (B : md_B) (x1 : Int32) : Option (Int32 × md_B) :=
  (f_X9_in (md_pf B 0 0) x1.toInt64 0 (((md_pf B 0 0).1 2).toInt64)).bind (fun q13 =>
    if q13.1 = 0 then
      some (0, q13.2)
    else
      some (1, md_pf q13.2 2 x1))
set_option maxHeartbeats 4000000 in
set_option maxRecDepth 100000 in
theorem m_X9_end (l : Launch) (E : sv_E) (h0 : Nat) (ad : Nat → Nat) (sz : Nat) (B : md_B) (x1 : Int32) (q : Int32 × md_B) (hf : f_X9_end B x1 = some q) : sv_Met l E yX9_end cX9_end 2 (some .boolean) 1 25 [] [.ref h0, .int x1] (md_w E h0 ad B) sz (some (.int q.1)) (md_w E h0 ad q.2) sz 0 0 := by
  refine sv_ofJ (by decide) (Nat.le_of_ble_eq_true rfl) ?_
  intro X hX hN hnm hR C hZ
  replace C : sv_C E X cX9_end RX9 [] := C
  show sv_J E X (md_w E h0 ad B) sz 0 0 0 [(0, .ref h0), (1, .int x1)] []
  rw [f_X9_end] at hf
  refine sv_aload_n 0 C dX9_end_0 rfl rfl ?_
  refine sv_iconst (v := 0) C dX9_end_1 (by decide) ?_
  refine md_puti C fl_X9_1 (by decide) rfl rfl dX9_end_2 ?_
  refine sv_iload_n 1 C dX9_end_5 rfl rfl ?_
  refine sv_i2l C dX9_end_6 ?_
  refine sv_lconst (v := 0) C dX9_end_7 (by decide) ?_
  refine sv_aload_n 0 C dX9_end_8 rfl rfl ?_
  refine md_geti C fl_X9_70 (by decide) dX9_end_9 ?_
  refine sv_i2l C dX9_end_12 ?_
  obtain ⟨q13, hc13, hf⟩ := sv_bind_some hf
  refine sv_callS0 C ms_X9_74 (m_X9_in (sv_l X) E h0 ad sz _ _ _ _ _ hc13) sv_sx0 rfl rfl (Nat.le_of_ble_eq_true rfl) ⟨by rw [hR]; decide, by rw [hR]; decide⟩ ⟨by rw [hR]; decide, by rw [hR]; decide⟩ dX9_end_13 ?_
  refine sv_if_ne (tgt := 21) C dX9_end_16 (by decide) (fun c16 => ?_) (fun c16 => ?_)
  · replace hf := sv_if_f c16 hf
    refine sv_aload_n 0 C dX9_end_21 rfl rfl ?_
    refine sv_iload_n 1 C dX9_end_22 rfl rfl ?_
    refine md_puti C fl_X9_70 (by decide) rfl rfl dX9_end_23 ?_
    refine sv_iconst (v := 1) C dX9_end_26 (by decide) ?_
    exact sv_zret (ty := .boolean) C (by decide) (by cases hf; exact hZ) dX9_end_27
  · replace hf := sv_if_t c16 hf
    refine sv_iconst (v := 0) C dX9_end_19 (by decide) ?_
    exact sv_zret (ty := .boolean) C (by decide) (by cases hf; exact hZ) dX9_end_20
def f_X9_sixteen (B : md_B) (x0 : Int32) : Option (Int32 × md_B) :=
  (f_X9_in B x0.toInt64 48 57).bind (fun q8 =>
    if q8.1 = 0 then
      (f_X9_in q8.2 x0.toInt64 65 70).bind (fun q29 =>
        if q29.1 = 0 then
          some ((-1), q29.2)
        else
          some ((x0 - 65) + 10, q29.2))
    else
      some (x0 - 48, q8.2))
set_option maxHeartbeats 4000000 in
set_option maxRecDepth 100000 in
theorem m_X9_sixteen (l : Launch) (E : sv_E) (h0 : Nat) (ad : Nat → Nat) (sz : Nat) (B : md_B) (x0 : Int32) (q : Int32 × md_B) (hf : f_X9_sixteen B x0 = some q) : sv_Met l E yX9_sixteen cX9_sixteen 1 (some .int) 1 25 [] [.int x0] (md_w E h0 ad B) sz (some (.int q.1)) (md_w E h0 ad q.2) sz 0 0 := by
  refine sv_ofJ (by decide) (Nat.le_of_ble_eq_true rfl) ?_
  intro X hX hN hnm hR C hZ
  replace C : sv_C E X cX9_sixteen RX9 [] := C
  show sv_J E X (md_w E h0 ad B) sz 0 0 0 [(0, .int x0)] []
  rw [f_X9_sixteen] at hf
  refine sv_iload_n 0 C dX9_sixteen_0 rfl rfl ?_
  refine sv_i2l C dX9_sixteen_1 ?_
  refine sv_ldc2 C kw_590 dX9_sixteen_2 ?_
  refine sv_ldc2 C kw_591 dX9_sixteen_5 ?_
  obtain ⟨q8, hc8, hf⟩ := sv_bind_some hf
  refine sv_callS0 C ms_X9_74 (m_X9_in (sv_l X) E h0 ad sz _ _ _ _ _ hc8) sv_sx0 rfl rfl (Nat.le_of_ble_eq_true rfl) ⟨by rw [hR]; decide, by rw [hR]; decide⟩ ⟨by rw [hR]; decide, by rw [hR]; decide⟩ dX9_sixteen_8 ?_
  refine sv_if_eq (tgt := 21) C dX9_sixteen_11 (by decide) (fun c11 => ?_) (fun c11 => ?_)
  · replace hf := sv_if_t c11 hf
    refine sv_iload_n 0 C dX9_sixteen_21 rfl rfl ?_
    refine sv_i2l C dX9_sixteen_22 ?_
    refine sv_ldc2 C kw_592 dX9_sixteen_23 ?_
    refine sv_ldc2 C kw_593 dX9_sixteen_26 ?_
    obtain ⟨q29, hc29, hf⟩ := sv_bind_some hf
    refine sv_callS0 C ms_X9_74 (m_X9_in (sv_l X) E h0 ad sz _ _ _ _ _ hc29) sv_sx0 rfl rfl (Nat.le_of_ble_eq_true rfl) ⟨by rw [hR]; decide, by rw [hR]; decide⟩ ⟨by rw [hR]; decide, by rw [hR]; decide⟩ dX9_sixteen_29 ?_
    refine sv_if_eq (tgt := 45) C dX9_sixteen_32 (by decide) (fun c32 => ?_) (fun c32 => ?_)
    · replace hf := sv_if_t c32 hf
      refine sv_iconst (v := (-1)) C dX9_sixteen_45 (by decide) ?_
      exact sv_iret C (by cases hf; exact hZ) dX9_sixteen_46
    · replace hf := sv_if_f c32 hf
      refine sv_iload_n 0 C dX9_sixteen_35 rfl rfl ?_
      refine sv_bipush (v := 65) C dX9_sixteen_36 (by decide) ?_
      refine sv_isub C dX9_sixteen_38 ?_
      refine sv_bipush (v := 10) C dX9_sixteen_39 (by decide) ?_
      refine sv_iadd C dX9_sixteen_41 ?_
      refine sv_goto (tgt := 46) C dX9_sixteen_42 (by decide) ?_
      exact sv_iret C (by cases hf; exact hZ) dX9_sixteen_46
  · replace hf := sv_if_f c11 hf
    refine sv_iload_n 0 C dX9_sixteen_14 rfl rfl ?_
    refine sv_bipush (v := 48) C dX9_sixteen_15 (by decide) ?_
    refine sv_isub C dX9_sixteen_17 ?_
    refine sv_goto (tgt := 46) C dX9_sixteen_18 (by decide) ?_
    exact sv_iret C (by cases hf; exact hZ) dX9_sixteen_46
def f_X9_ends (B : md_B) (t1 : List Int32) : Option (Int32 × md_B) :=
  (f_J0_charAt_5068e t1 0).bind (fun q8 =>
    if (B.2 6 (3 : Int32).toNatClampNeg) = q8 then
      (f_J0_charAt_5068e t1 1).bind (fun q22 =>
        if (B.2 6 (4 : Int32).toNatClampNeg) = q22 then
          (f_J0_charAt_5068e t1 2).bind (fun q36 =>
            if (B.2 6 (5 : Int32).toNatClampNeg) = q36 then
              some (1, B)
            else
              some (0, B))
        else
          some (0, B))
    else
      some (0, B))
set_option maxHeartbeats 4000000 in
set_option maxRecDepth 100000 in
theorem m_X9_ends (l : Launch) (E : sv_E) (h0 : Nat) (ad : Nat → Nat) (sz : Nat) (k1 v1 : Nat) (B : md_B) (t1 : List Int32) (q : Int32 × md_B) (hf : f_X9_ends B t1 = some q) : sv_Met l E yX9_ends cX9_ends 2 (some .boolean) 4 85 [(k1, v1, t1)] [.ref h0, .ref k1] (md_w E h0 ad B) sz (some (.int q.1)) (md_w E h0 ad q.2) sz 0 0 := by
  refine sv_ofJ (by decide) (Nat.le_of_ble_eq_true rfl) ?_
  intro X hX hN hnm hR C hZ
  replace C : sv_C E X cX9_ends RX9 [(k1, v1, t1)] := C
  show sv_J E X (md_w E h0 ad B) sz 0 0 0 [(0, .ref h0), (1, .ref k1)] []
  rw [f_X9_ends] at hf
  refine sv_aload_n 0 C dX9_ends_0 rfl rfl ?_
  refine md_getr C fl_X9_20 (by decide) dX9_ends_1 ?_
  refine sv_iconst (v := 3) C dX9_ends_4 (by decide) ?_
  refine md_iald C 2 rfl (by decide) dX9_ends_5 ?_
  refine sv_aload_n 1 C dX9_ends_6 rfl rfl ?_
  refine sv_iconst (v := 0) C dX9_ends_7 (by decide) ?_
  obtain ⟨q8, hc8, hf⟩ := sv_bind_some hf
  refine ss_callV (v := v1) (t := t1) C mv_X9_127 (m_J0_charAt_5068e (sv_l X) E _ sz k1 v1 _ _ _ hc8) sv_sx1 (List.mem_cons_self) rfl rfl rfl (Nat.le_of_ble_eq_true rfl) ⟨by rw [hR]; decide, by rw [hR]; decide⟩ ⟨by rw [hR]; decide, by rw [hR]; decide⟩ dX9_ends_8 ?_
  refine sv_icmp_ne (tgt := 46) C dX9_ends_11 (by decide) (fun c11 => ?_) (fun c11 => ?_)
  · replace hf := sv_if_f c11 hf
    refine sv_iconst (v := 0) C dX9_ends_46 (by decide) ?_
    exact sv_zret (ty := .boolean) C (by decide) (by cases hf; exact hZ) dX9_ends_47
  · replace hf := sv_if_t c11 hf
    refine sv_aload_n 0 C dX9_ends_14 rfl rfl ?_
    refine md_getr C fl_X9_20 (by decide) dX9_ends_15 ?_
    refine sv_iconst (v := 4) C dX9_ends_18 (by decide) ?_
    refine md_iald C 2 rfl (by decide) dX9_ends_19 ?_
    refine sv_aload_n 1 C dX9_ends_20 rfl rfl ?_
    refine sv_iconst (v := 1) C dX9_ends_21 (by decide) ?_
    obtain ⟨q22, hc22, hf⟩ := sv_bind_some hf
    refine ss_callV (v := v1) (t := t1) C mv_X9_127 (m_J0_charAt_5068e (sv_l X) E _ sz k1 v1 _ _ _ hc22) sv_sx1 (List.mem_cons_self) rfl rfl rfl (Nat.le_of_ble_eq_true rfl) ⟨by rw [hR]; decide, by rw [hR]; decide⟩ ⟨by rw [hR]; decide, by rw [hR]; decide⟩ dX9_ends_22 ?_
    refine sv_icmp_ne (tgt := 46) C dX9_ends_25 (by decide) (fun c25 => ?_) (fun c25 => ?_)
    · replace hf := sv_if_f c25 hf
      refine sv_iconst (v := 0) C dX9_ends_46 (by decide) ?_
      exact sv_zret (ty := .boolean) C (by decide) (by cases hf; exact hZ) dX9_ends_47
    · replace hf := sv_if_t c25 hf
      refine sv_aload_n 0 C dX9_ends_28 rfl rfl ?_
      refine md_getr C fl_X9_20 (by decide) dX9_ends_29 ?_
      refine sv_iconst (v := 5) C dX9_ends_32 (by decide) ?_
      refine md_iald C 2 rfl (by decide) dX9_ends_33 ?_
      refine sv_aload_n 1 C dX9_ends_34 rfl rfl ?_
      refine sv_iconst (v := 2) C dX9_ends_35 (by decide) ?_
      obtain ⟨q36, hc36, hf⟩ := sv_bind_some hf
      refine ss_callV (v := v1) (t := t1) C mv_X9_127 (m_J0_charAt_5068e (sv_l X) E _ sz k1 v1 _ _ _ hc36) sv_sx1 (List.mem_cons_self) rfl rfl rfl (Nat.le_of_ble_eq_true rfl) ⟨by rw [hR]; decide, by rw [hR]; decide⟩ ⟨by rw [hR]; decide, by rw [hR]; decide⟩ dX9_ends_36 ?_
      refine sv_icmp_ne (tgt := 46) C dX9_ends_39 (by decide) (fun c39 => ?_) (fun c39 => ?_)
      · replace hf := sv_if_f c39 hf
        refine sv_iconst (v := 0) C dX9_ends_46 (by decide) ?_
        exact sv_zret (ty := .boolean) C (by decide) (by cases hf; exact hZ) dX9_ends_47
      · replace hf := sv_if_t c39 hf
        refine sv_iconst (v := 1) C dX9_ends_42 (by decide) ?_
        refine sv_goto (tgt := 47) C dX9_ends_43 (by decide) ?_
        exact sv_zret (ty := .boolean) C (by decide) (by cases hf; exact hZ) dX9_ends_47
def f_X9_form_61 (k15 : md_B → Int32 → Option (Int32 × md_B)) (B : md_B) (x1 : Int32) : Option (Int32 × md_B) :=
  k15 B (x1 + 1)
def f_X9_form_15 : Nat → md_B → Int32 → Option (Int32 × md_B)
  | 0, _, _ => none
  | n + 1, B, x1 =>
    if 6 ≤ x1 then
      if (B.2 6 (0 : Int32).toNatClampNeg) = 33 then
        (f_X9_ends B ([86, 68, 77])).bind (fun q81 =>
          if q81.1 = 0 then
            (f_X9_ends q81.2 ([86, 68, 79])).bind (fun q90 =>
              if q90.1 = 0 then
                some ((-1), q90.2)
              else
                some (3, q90.2))
          else
            some (3, q81.2))
      else
        (f_X9_ends B ([71, 71, 65])).bind (fun q105 =>
          if q105.1 = 0 then
            (f_X9_ends q105.2 ([82, 77, 67])).bind (fun q118 =>
              if q118.1 = 0 then
                (f_X9_ends q118.2 ([86, 84, 71])).bind (fun q131 =>
                  if q131.1 = 0 then
                    some ((-1), q131.2)
                  else
                    some (2, q131.2))
              else
                some (1, q118.2))
          else
            some (0, q105.2))
    else
      sv_g (sv_inb x1 79) (
        (f_X9_in B ((B.2 6 x1.toNatClampNeg).toInt64) 65 90).bind (fun q34 =>
          if q34.1 = 0 then
            sv_g (sv_inb x1 79) (
              (f_X9_in q34.2 ((q34.2.2 6 x1.toNatClampNeg).toInt64) 48 57).bind (fun q53 =>
                if q53.1 = 0 then
                  some ((-1), q53.2)
                else
                  f_X9_form_61 (f_X9_form_15 n) q53.2 x1))
          else
            f_X9_form_61 (f_X9_form_15 n) q34.2 x1))
def f_X9_form (B : md_B) : Option (Int32 × md_B) :=
  if (B.2 12 (0 : Int32).toNatClampNeg) = 6 then
    f_X9_form_15 sv_fu B 1
  else
    some ((-1), B)
set_option maxHeartbeats 4000000 in
set_option maxRecDepth 100000 in
theorem w_X9_form_61 {E : sv_E} {X : sv_X} {sz : Nat} {q : Int32 × md_B} {h0 : Nat} {ad : Nat → Nat} (C : sv_C E X cX9_form RX9 []) (hZ : sv_Z E X (some .int) (some (.int q.1)) (md_w E h0 ad q.2) sz 0 0) (hR : sv_R X = { frames := 5, cells := 0, slots := 0, locals := 106 }) (hN : sv_nL X = 2) {k15 : md_B → Int32 → Option (Int32 × md_B)} (hk15 : ∀ (B : md_B) (x1 : Int32), k15 B x1 = some q → sv_J E X (md_w E h0 ad B) sz 0 0 15 [(0, .ref h0), (1, .int x1)] []) (B : md_B) (x1 : Int32) (hf : f_X9_form_61 k15 B x1 = some q) : sv_J E X (md_w E h0 ad B) sz 0 0 61 [(0, .ref h0), (1, .int x1)] [] := by
  rw [f_X9_form_61] at hf
  refine sv_iinc (v := x1 + 1) (lv' := [(1, .int (x1 + 1)), (0, .ref h0)]) 1 C dX9_form_61 rfl rfl (by rw [hN]; decide) rfl ?_
  refine sv_goto (tgt := 15) C dX9_form_64 (by decide) ?_
  refine sv_sub (lv' := [(0, .ref h0), (1, .int (x1 + 1))]) [1, 0] rfl ?_
  exact hk15 _ _ hf
set_option maxHeartbeats 4000000 in
set_option maxRecDepth 100000 in
theorem w_X9_form_15 {E : sv_E} {X : sv_X} {sz : Nat} {q : Int32 × md_B} {h0 : Nat} {ad : Nat → Nat} (C : sv_C E X cX9_form RX9 []) (hZ : sv_Z E X (some .int) (some (.int q.1)) (md_w E h0 ad q.2) sz 0 0) (hR : sv_R X = { frames := 5, cells := 0, slots := 0, locals := 106 }) (hN : sv_nL X = 2) : ∀ (n : Nat) (B : md_B) (x1 : Int32), f_X9_form_15 n B x1 = some q → sv_J E X (md_w E h0 ad B) sz 0 0 15 [(0, .ref h0), (1, .int x1)] [] := by
  intro n
  induction n with
  | zero =>
    intro B x1 hf
    rw [f_X9_form_15] at hf
    cases hf
  | succ n ih =>
    intro B x1 hf
    rw [f_X9_form_15] at hf
    refine sv_iload_n 1 C dX9_form_15 rfl rfl ?_
    refine sv_bipush (v := 6) C dX9_form_16 (by decide) ?_
    refine sv_icmp_ge (tgt := 67) C dX9_form_18 (by decide) (fun c18 => ?_) (fun c18 => ?_)
    · replace hf := sv_if_t c18 hf
      refine sv_aload_n 0 C dX9_form_67 rfl rfl ?_
      refine md_getr C fl_X9_20 (by decide) dX9_form_68 ?_
      refine sv_iconst (v := 0) C dX9_form_71 (by decide) ?_
      refine md_iald C 2 rfl (by decide) dX9_form_72 ?_
      refine sv_bipush (v := 33) C dX9_form_73 (by decide) ?_
      refine sv_icmp_ne (tgt := 102) C dX9_form_75 (by decide) (fun c75 => ?_) (fun c75 => ?_)
      · replace hf := sv_if_f c75 hf
        refine sv_aload_n 0 C dX9_form_102 rfl rfl ?_
        refine sv_ldcS (i := 21) C (by rfl) dX9_form_103 ?_
        obtain ⟨q105, hc105, hf⟩ := sv_bind_some hf
        refine sv_callV0 C mv_X9_137 (m_X9_ends (sv_l X) E h0 ad sz (E.2.2.1 21) (E.2.2.2.1 21) _ _ _ hc105) (sv_sxi (i := 21) (by rfl)) 0 rfl rfl rfl rfl (Nat.le_of_ble_eq_true rfl) ⟨by rw [hR]; decide, by rw [hR]; decide⟩ ⟨by rw [hR]; decide, by rw [hR]; decide⟩ dX9_form_105 ?_
        refine sv_if_eq (tgt := 115) C dX9_form_108 (by decide) (fun c108 => ?_) (fun c108 => ?_)
        · replace hf := sv_if_t c108 hf
          refine sv_aload_n 0 C dX9_form_115 rfl rfl ?_
          refine sv_ldcS (i := 22) C (by rfl) dX9_form_116 ?_
          obtain ⟨q118, hc118, hf⟩ := sv_bind_some hf
          refine sv_callV0 C mv_X9_137 (m_X9_ends (sv_l X) E h0 ad sz (E.2.2.1 22) (E.2.2.2.1 22) _ _ _ hc118) (sv_sxi (i := 22) (by rfl)) 0 rfl rfl rfl rfl (Nat.le_of_ble_eq_true rfl) ⟨by rw [hR]; decide, by rw [hR]; decide⟩ ⟨by rw [hR]; decide, by rw [hR]; decide⟩ dX9_form_118 ?_
          refine sv_if_eq (tgt := 128) C dX9_form_121 (by decide) (fun c121 => ?_) (fun c121 => ?_)
          · replace hf := sv_if_t c121 hf
            refine sv_aload_n 0 C dX9_form_128 rfl rfl ?_
            refine sv_ldcS (i := 23) C (by rfl) dX9_form_129 ?_
            obtain ⟨q131, hc131, hf⟩ := sv_bind_some hf
            refine sv_callV0 C mv_X9_137 (m_X9_ends (sv_l X) E h0 ad sz (E.2.2.1 23) (E.2.2.2.1 23) _ _ _ hc131) (sv_sxi (i := 23) (by rfl)) 0 rfl rfl rfl rfl (Nat.le_of_ble_eq_true rfl) ⟨by rw [hR]; decide, by rw [hR]; decide⟩ ⟨by rw [hR]; decide, by rw [hR]; decide⟩ dX9_form_131 ?_
            refine sv_if_eq (tgt := 141) C dX9_form_134 (by decide) (fun c134 => ?_) (fun c134 => ?_)
            · replace hf := sv_if_t c134 hf
              refine sv_iconst (v := (-1)) C dX9_form_141 (by decide) ?_
              exact sv_iret C (by cases hf; exact hZ) dX9_form_142
            · replace hf := sv_if_f c134 hf
              refine sv_iconst (v := 2) C dX9_form_137 (by decide) ?_
              refine sv_goto (tgt := 142) C dX9_form_138 (by decide) ?_
              exact sv_iret C (by cases hf; exact hZ) dX9_form_142
          · replace hf := sv_if_f c121 hf
            refine sv_iconst (v := 1) C dX9_form_124 (by decide) ?_
            refine sv_goto (tgt := 142) C dX9_form_125 (by decide) ?_
            exact sv_iret C (by cases hf; exact hZ) dX9_form_142
        · replace hf := sv_if_f c108 hf
          refine sv_iconst (v := 0) C dX9_form_111 (by decide) ?_
          refine sv_goto (tgt := 142) C dX9_form_112 (by decide) ?_
          exact sv_iret C (by cases hf; exact hZ) dX9_form_142
      · replace hf := sv_if_t c75 hf
        refine sv_aload_n 0 C dX9_form_78 rfl rfl ?_
        refine sv_ldcS (i := 19) C (by rfl) dX9_form_79 ?_
        obtain ⟨q81, hc81, hf⟩ := sv_bind_some hf
        refine sv_callV0 C mv_X9_137 (m_X9_ends (sv_l X) E h0 ad sz (E.2.2.1 19) (E.2.2.2.1 19) _ _ _ hc81) (sv_sxi (i := 19) (by rfl)) 0 rfl rfl rfl rfl (Nat.le_of_ble_eq_true rfl) ⟨by rw [hR]; decide, by rw [hR]; decide⟩ ⟨by rw [hR]; decide, by rw [hR]; decide⟩ dX9_form_81 ?_
        refine sv_if_ne (tgt := 96) C dX9_form_84 (by decide) (fun c84 => ?_) (fun c84 => ?_)
        · replace hf := sv_if_f c84 hf
          refine sv_iconst (v := 3) C dX9_form_96 (by decide) ?_
          refine sv_goto (tgt := 101) C dX9_form_97 (by decide) ?_
          exact sv_iret C (by cases hf; exact hZ) dX9_form_101
        · replace hf := sv_if_t c84 hf
          refine sv_aload_n 0 C dX9_form_87 rfl rfl ?_
          refine sv_ldcS (i := 20) C (by rfl) dX9_form_88 ?_
          obtain ⟨q90, hc90, hf⟩ := sv_bind_some hf
          refine sv_callV0 C mv_X9_137 (m_X9_ends (sv_l X) E h0 ad sz (E.2.2.1 20) (E.2.2.2.1 20) _ _ _ hc90) (sv_sxi (i := 20) (by rfl)) 0 rfl rfl rfl rfl (Nat.le_of_ble_eq_true rfl) ⟨by rw [hR]; decide, by rw [hR]; decide⟩ ⟨by rw [hR]; decide, by rw [hR]; decide⟩ dX9_form_90 ?_
          refine sv_if_eq (tgt := 100) C dX9_form_93 (by decide) (fun c93 => ?_) (fun c93 => ?_)
          · replace hf := sv_if_t c93 hf
            refine sv_iconst (v := (-1)) C dX9_form_100 (by decide) ?_
            exact sv_iret C (by cases hf; exact hZ) dX9_form_101
          · replace hf := sv_if_f c93 hf
            refine sv_iconst (v := 3) C dX9_form_96 (by decide) ?_
            refine sv_goto (tgt := 101) C dX9_form_97 (by decide) ?_
            exact sv_iret C (by cases hf; exact hZ) dX9_form_101
    · replace hf := sv_if_f c18 hf
      refine sv_aload_n 0 C dX9_form_21 rfl rfl ?_
      refine md_getr C fl_X9_20 (by decide) dX9_form_22 ?_
      refine sv_iload_n 1 C dX9_form_25 rfl rfl ?_
      obtain ⟨g26, hf⟩ := sv_g_some hf
      refine md_iald C 2 rfl g26 dX9_form_26 ?_
      refine sv_i2l C dX9_form_27 ?_
      refine sv_ldc2 C kw_592 dX9_form_28 ?_
      refine sv_ldc2 C kw_595 dX9_form_31 ?_
      obtain ⟨q34, hc34, hf⟩ := sv_bind_some hf
      refine sv_callS0 C ms_X9_74 (m_X9_in (sv_l X) E h0 ad sz _ _ _ _ _ hc34) sv_sx0 rfl rfl (Nat.le_of_ble_eq_true rfl) ⟨by rw [hR]; decide, by rw [hR]; decide⟩ ⟨by rw [hR]; decide, by rw [hR]; decide⟩ dX9_form_34 ?_
      refine sv_if_ne (tgt := 61) C dX9_form_37 (by decide) (fun c37 => ?_) (fun c37 => ?_)
      · replace hf := sv_if_f c37 hf
        refine sv_sub (lv' := [(0, .ref h0), (1, .int x1)]) [0, 1] rfl ?_
        exact w_X9_form_61 C hZ hR hN ih _ _ hf
      · replace hf := sv_if_t c37 hf
        refine sv_aload_n 0 C dX9_form_40 rfl rfl ?_
        refine md_getr C fl_X9_20 (by decide) dX9_form_41 ?_
        refine sv_iload_n 1 C dX9_form_44 rfl rfl ?_
        obtain ⟨g45, hf⟩ := sv_g_some hf
        refine md_iald C 2 rfl g45 dX9_form_45 ?_
        refine sv_i2l C dX9_form_46 ?_
        refine sv_ldc2 C kw_590 dX9_form_47 ?_
        refine sv_ldc2 C kw_591 dX9_form_50 ?_
        obtain ⟨q53, hc53, hf⟩ := sv_bind_some hf
        refine sv_callS0 C ms_X9_74 (m_X9_in (sv_l X) E h0 ad sz _ _ _ _ _ hc53) sv_sx0 rfl rfl (Nat.le_of_ble_eq_true rfl) ⟨by rw [hR]; decide, by rw [hR]; decide⟩ ⟨by rw [hR]; decide, by rw [hR]; decide⟩ dX9_form_53 ?_
        refine sv_if_ne (tgt := 61) C dX9_form_56 (by decide) (fun c56 => ?_) (fun c56 => ?_)
        · replace hf := sv_if_f c56 hf
          refine sv_sub (lv' := [(0, .ref h0), (1, .int x1)]) [0, 1] rfl ?_
          exact w_X9_form_61 C hZ hR hN ih _ _ hf
        · replace hf := sv_if_t c56 hf
          refine sv_iconst (v := (-1)) C dX9_form_59 (by decide) ?_
          exact sv_iret C (by cases hf; exact hZ) dX9_form_60
set_option maxHeartbeats 4000000 in
set_option maxRecDepth 100000 in
theorem m_X9_form (l : Launch) (E : sv_E) (h0 : Nat) (ad : Nat → Nat) (sz : Nat) (B : md_B) (q : Int32 × md_B) (hf : f_X9_form B = some q) : sv_Met l E yX9_form cX9_form 2 (some .int) 5 106 [] [.ref h0] (md_w E h0 ad B) sz (some (.int q.1)) (md_w E h0 ad q.2) sz 0 0 := by
  refine sv_ofJ (by decide) (Nat.le_of_ble_eq_true rfl) ?_
  intro X hX hN hnm hR C hZ
  replace C : sv_C E X cX9_form RX9 [] := C
  show sv_J E X (md_w E h0 ad B) sz 0 0 0 [(0, .ref h0)] []
  rw [f_X9_form] at hf
  refine sv_aload_n 0 C dX9_form_0 rfl rfl ?_
  refine md_getr C fl_X9_29 (by decide) dX9_form_1 ?_
  refine sv_iconst (v := 0) C dX9_form_4 (by decide) ?_
  refine md_iald C 5 rfl (by decide) dX9_form_5 ?_
  refine sv_bipush (v := 6) C dX9_form_6 (by decide) ?_
  refine sv_icmp_eq (tgt := 13) C dX9_form_8 (by decide) (fun c8 => ?_) (fun c8 => ?_)
  · replace hf := sv_if_t c8 hf
    refine sv_iconst (v := 1) C dX9_form_13 (by decide) ?_
    refine sv_istore_n (lv' := [(1, .int 1), (0, .ref h0)]) C dX9_form_14 rfl (by rw [hN]; decide) rfl ?_
    refine sv_sub (lv' := [(0, .ref h0), (1, .int 1)]) [1, 0] rfl ?_
    exact w_X9_form_15 C hZ hR hN sv_fu _ _ hf
  · replace hf := sv_if_f c8 hf
    refine sv_iconst (v := (-1)) C dX9_form_11 (by decide) ?_
    exact sv_iret C (by cases hf; exact hZ) dX9_form_12
def f_X9_size (B : md_B) (x1 : Int32) : Option (Int32 × md_B) :=
  sv_g (sv_inb x1 80) (
    sv_g (sv_inb x1 80) (
      some ((B.2 12 x1.toNatClampNeg) - (B.2 11 x1.toNatClampNeg), B)))
set_option maxHeartbeats 4000000 in
set_option maxRecDepth 100000 in
theorem m_X9_size (l : Launch) (E : sv_E) (h0 : Nat) (ad : Nat → Nat) (sz : Nat) (B : md_B) (x1 : Int32) (q : Int32 × md_B) (hf : f_X9_size B x1 = some q) : sv_Met l E yX9_size cX9_size 2 (some .int) 0 0 [] [.ref h0, .int x1] (md_w E h0 ad B) sz (some (.int q.1)) (md_w E h0 ad q.2) sz 0 0 := by
  refine sv_ofJ (by decide) (Nat.le_of_ble_eq_true rfl) ?_
  intro X hX hN hnm hR C hZ
  replace C : sv_C E X cX9_size RX9 [] := C
  show sv_J E X (md_w E h0 ad B) sz 0 0 0 [(0, .ref h0), (1, .int x1)] []
  rw [f_X9_size] at hf
  refine sv_aload_n 0 C dX9_size_0 rfl rfl ?_
  refine md_getr C fl_X9_29 (by decide) dX9_size_1 ?_
  refine sv_iload_n 1 C dX9_size_4 rfl rfl ?_
  obtain ⟨g5, hf⟩ := sv_g_some hf
  refine md_iald C 5 rfl g5 dX9_size_5 ?_
  refine sv_aload_n 0 C dX9_size_6 rfl rfl ?_
  refine md_getr C fl_X9_26 (by decide) dX9_size_7 ?_
  refine sv_iload_n 1 C dX9_size_10 rfl rfl ?_
  obtain ⟨g11, hf⟩ := sv_g_some hf
  refine md_iald C 4 rfl g11 dX9_size_11 ?_
  refine sv_isub C dX9_size_12 ?_
  exact sv_iret C (by cases hf; exact hZ) dX9_size_13
def f_X9_at (B : md_B) (x1 : Int32) (x2 : Int32) : Option (Int32 × md_B) :=
  sv_g (sv_inb x1 80) (
    sv_g (sv_inb ((B.2 11 x1.toNatClampNeg) + x2) 79) (
      some (B.2 6 ((B.2 11 x1.toNatClampNeg) + x2).toNatClampNeg, B)))
set_option maxHeartbeats 4000000 in
set_option maxRecDepth 100000 in
theorem m_X9_at (l : Launch) (E : sv_E) (h0 : Nat) (ad : Nat → Nat) (sz : Nat) (B : md_B) (x1 : Int32) (x2 : Int32) (q : Int32 × md_B) (hf : f_X9_at B x1 x2 = some q) : sv_Met l E yX9_at cX9_at 3 (some .int) 0 0 [] [.ref h0, .int x1, .int x2] (md_w E h0 ad B) sz (some (.int q.1)) (md_w E h0 ad q.2) sz 0 0 := by
  refine sv_ofJ (by decide) (Nat.le_of_ble_eq_true rfl) ?_
  intro X hX hN hnm hR C hZ
  replace C : sv_C E X cX9_at RX9 [] := C
  show sv_J E X (md_w E h0 ad B) sz 0 0 0 [(0, .ref h0), (1, .int x1), (2, .int x2)] []
  rw [f_X9_at] at hf
  refine sv_aload_n 0 C dX9_at_0 rfl rfl ?_
  refine md_getr C fl_X9_20 (by decide) dX9_at_1 ?_
  refine sv_aload_n 0 C dX9_at_4 rfl rfl ?_
  refine md_getr C fl_X9_26 (by decide) dX9_at_5 ?_
  refine sv_iload_n 1 C dX9_at_8 rfl rfl ?_
  obtain ⟨g9, hf⟩ := sv_g_some hf
  refine md_iald C 4 rfl g9 dX9_at_9 ?_
  refine sv_iload_n 2 C dX9_at_10 rfl rfl ?_
  refine sv_iadd C dX9_at_11 ?_
  obtain ⟨g12, hf⟩ := sv_g_some hf
  refine md_iald C 2 rfl g12 dX9_at_12 ?_
  exact sv_iret C (by cases hf; exact hZ) dX9_at_13
def f_X9_isDigit (B : md_B) (x0 : Int32) : Option (Int32 × md_B) :=
  (f_X9_in B x0.toInt64 48 57).bind (fun q8 =>
    sv_g (decide (vp_nar .boolean q8.1 = q8.1)) (
      some (q8.1, q8.2)))
set_option maxHeartbeats 4000000 in
set_option maxRecDepth 100000 in
theorem m_X9_isDigit (l : Launch) (E : sv_E) (h0 : Nat) (ad : Nat → Nat) (sz : Nat) (B : md_B) (x0 : Int32) (q : Int32 × md_B) (hf : f_X9_isDigit B x0 = some q) : sv_Met l E yX9_isDigit cX9_isDigit 1 (some .boolean) 1 25 [] [.int x0] (md_w E h0 ad B) sz (some (.int q.1)) (md_w E h0 ad q.2) sz 0 0 := by
  refine sv_ofJ (by decide) (Nat.le_of_ble_eq_true rfl) ?_
  intro X hX hN hnm hR C hZ
  replace C : sv_C E X cX9_isDigit RX9 [] := C
  show sv_J E X (md_w E h0 ad B) sz 0 0 0 [(0, .int x0)] []
  rw [f_X9_isDigit] at hf
  refine sv_iload_n 0 C dX9_isDigit_0 rfl rfl ?_
  refine sv_i2l C dX9_isDigit_1 ?_
  refine sv_ldc2 C kw_590 dX9_isDigit_2 ?_
  refine sv_ldc2 C kw_591 dX9_isDigit_5 ?_
  obtain ⟨q8, hc8, hf⟩ := sv_bind_some hf
  refine sv_callS0 C ms_X9_74 (m_X9_in (sv_l X) E h0 ad sz _ _ _ _ _ hc8) sv_sx0 rfl rfl (Nat.le_of_ble_eq_true rfl) ⟨by rw [hR]; decide, by rw [hR]; decide⟩ ⟨by rw [hR]; decide, by rw [hR]; decide⟩ dX9_isDigit_8 ?_
  obtain ⟨g11, hf⟩ := sv_g_some hf
  exact sv_zret (ty := .boolean) C (sv_nz (of_decide_eq_true g11)) (by cases hf; exact hZ) dX9_isDigit_11
def f_X9_digits_2 : Nat → md_B → Int32 → Int32 → Int32 → Option (Int32 × md_B)
  | 0, _, _, _, _ => none
  | n + 1, B, x1, x2, x3 =>
    (f_X9_size B x1).bind (fun q7 =>
      if q7.1 ≤ (x2 + x3) then
        some (x3, q7.2)
      else
        (f_X9_at q7.2 x1 (x2 + x3)).bind (fun q18 =>
          (f_X9_isDigit q18.2 q18.1).bind (fun q21 =>
            if q21.1 = 0 then
              some (x3, q21.2)
            else
              (f_X9_digits_2 n) q21.2 x1 x2 (x3 + 1))))
def f_X9_digits (B : md_B) (x1 : Int32) (x2 : Int32) : Option (Int32 × md_B) :=
  f_X9_digits_2 sv_fu B x1 x2 0
set_option maxHeartbeats 4000000 in
set_option maxRecDepth 100000 in
theorem w_X9_digits_2 {E : sv_E} {X : sv_X} {sz : Nat} {q : Int32 × md_B} {h0 : Nat} {ad : Nat → Nat} (C : sv_C E X cX9_digits RX9 []) (hZ : sv_Z E X (some .int) (some (.int q.1)) (md_w E h0 ad q.2) sz 0 0) (hR : sv_R X = { frames := 2, cells := 0, slots := 0, locals := 45 }) (hN : sv_nL X = 4) : ∀ (n : Nat) (B : md_B) (x1 : Int32) (x2 : Int32) (x3 : Int32), f_X9_digits_2 n B x1 x2 x3 = some q → sv_J E X (md_w E h0 ad B) sz 0 0 2 [(0, .ref h0), (1, .int x1), (2, .int x2), (3, .int x3)] [] := by
  intro n
  induction n with
  | zero =>
    intro B x1 x2 x3 hf
    rw [f_X9_digits_2] at hf
    cases hf
  | succ n ih =>
    intro B x1 x2 x3 hf
    rw [f_X9_digits_2] at hf
    refine sv_iload_n 2 C dX9_digits_2 rfl rfl ?_
    refine sv_iload_n 3 C dX9_digits_3 rfl rfl ?_
    refine sv_iadd C dX9_digits_4 ?_
    refine sv_aload_n 0 C dX9_digits_5 rfl rfl ?_
    refine sv_iload_n 1 C dX9_digits_6 rfl rfl ?_
    obtain ⟨q7, hc7, hf⟩ := sv_bind_some hf
    refine sv_callV0 C mv_X9_153 (m_X9_size (sv_l X) E h0 ad sz _ _ _ hc7) sv_sx0 0 rfl rfl rfl rfl (Nat.le_of_ble_eq_true rfl) ⟨by rw [hR]; decide, by rw [hR]; decide⟩ ⟨by rw [hR]; decide, by rw [hR]; decide⟩ dX9_digits_7 ?_
    refine sv_icmp_ge (tgt := 33) C dX9_digits_10 (by decide) (fun c10 => ?_) (fun c10 => ?_)
    · replace hf := sv_if_t c10 hf
      refine sv_iload_n 3 C dX9_digits_33 rfl rfl ?_
      exact sv_iret C (by cases hf; exact hZ) dX9_digits_34
    · replace hf := sv_if_f c10 hf
      refine sv_aload_n 0 C dX9_digits_13 rfl rfl ?_
      refine sv_iload_n 1 C dX9_digits_14 rfl rfl ?_
      refine sv_iload_n 2 C dX9_digits_15 rfl rfl ?_
      refine sv_iload_n 3 C dX9_digits_16 rfl rfl ?_
      refine sv_iadd C dX9_digits_17 ?_
      obtain ⟨q18, hc18, hf⟩ := sv_bind_some hf
      refine sv_callV0 C mv_X9_156 (m_X9_at (sv_l X) E h0 ad sz _ _ _ _ hc18) sv_sx0 0 rfl rfl rfl rfl (Nat.le_of_ble_eq_true rfl) ⟨by rw [hR]; decide, by rw [hR]; decide⟩ ⟨by rw [hR]; decide, by rw [hR]; decide⟩ dX9_digits_18 ?_
      obtain ⟨q21, hc21, hf⟩ := sv_bind_some hf
      refine sv_callS0 C ms_X9_160 (m_X9_isDigit (sv_l X) E h0 ad sz _ _ _ hc21) sv_sx0 rfl rfl (Nat.le_of_ble_eq_true rfl) ⟨by rw [hR]; decide, by rw [hR]; decide⟩ ⟨by rw [hR]; decide, by rw [hR]; decide⟩ dX9_digits_21 ?_
      refine sv_if_eq (tgt := 33) C dX9_digits_24 (by decide) (fun c24 => ?_) (fun c24 => ?_)
      · replace hf := sv_if_t c24 hf
        refine sv_iload_n 3 C dX9_digits_33 rfl rfl ?_
        exact sv_iret C (by cases hf; exact hZ) dX9_digits_34
      · replace hf := sv_if_f c24 hf
        refine sv_iinc (v := x3 + 1) (lv' := [(3, .int (x3 + 1)), (0, .ref h0), (1, .int x1), (2, .int x2)]) 3 C dX9_digits_27 rfl rfl (by rw [hN]; decide) rfl ?_
        refine sv_goto (tgt := 2) C dX9_digits_30 (by decide) ?_
        refine sv_sub (lv' := [(0, .ref h0), (1, .int x1), (2, .int x2), (3, .int (x3 + 1))]) [1, 2, 3, 0] rfl ?_
        exact ih _ _ _ _ hf
set_option maxHeartbeats 4000000 in
set_option maxRecDepth 100000 in
theorem m_X9_digits (l : Launch) (E : sv_E) (h0 : Nat) (ad : Nat → Nat) (sz : Nat) (B : md_B) (x1 : Int32) (x2 : Int32) (q : Int32 × md_B) (hf : f_X9_digits B x1 x2 = some q) : sv_Met l E yX9_digits cX9_digits 4 (some .int) 2 45 [] [.ref h0, .int x1, .int x2] (md_w E h0 ad B) sz (some (.int q.1)) (md_w E h0 ad q.2) sz 0 0 := by
  refine sv_ofJ (by decide) (Nat.le_of_ble_eq_true rfl) ?_
  intro X hX hN hnm hR C hZ
  replace C : sv_C E X cX9_digits RX9 [] := C
  show sv_J E X (md_w E h0 ad B) sz 0 0 0 [(0, .ref h0), (1, .int x1), (2, .int x2)] []
  rw [f_X9_digits] at hf
  refine sv_iconst (v := 0) C dX9_digits_0 (by decide) ?_
  refine sv_istore_n (lv' := [(3, .int 0), (0, .ref h0), (1, .int x1), (2, .int x2)]) C dX9_digits_1 rfl (by rw [hN]; decide) rfl ?_
  refine sv_sub (lv' := [(0, .ref h0), (1, .int x1), (2, .int x2), (3, .int 0)]) [1, 2, 3, 0] rfl ?_
  exact w_X9_digits_2 C hZ hR hN sv_fu _ _ _ _ hf
def f_X9_bad (B : md_B) : Option (Int32 × md_B) :=
  some ((-2147483648), md_pf B 14 0)
set_option maxHeartbeats 4000000 in
set_option maxRecDepth 100000 in
theorem m_X9_bad (l : Launch) (E : sv_E) (h0 : Nat) (ad : Nat → Nat) (sz : Nat) (B : md_B) (q : Int32 × md_B) (hf : f_X9_bad B = some q) : sv_Met l E yX9_bad cX9_bad 1 (some .int) 0 0 [] [.ref h0] (md_w E h0 ad B) sz (some (.int q.1)) (md_w E h0 ad q.2) sz 0 0 := by
  refine sv_ofJ (by decide) (Nat.le_of_ble_eq_true rfl) ?_
  intro X hX hN hnm hR C hZ
  replace C : sv_C E X cX9_bad RX9 [] := C
  show sv_J E X (md_w E h0 ad B) sz 0 0 0 [(0, .ref h0)] []
  rw [f_X9_bad] at hf
  refine sv_aload_n 0 C dX9_bad_0 rfl rfl ?_
  refine sv_iconst (v := 0) C dX9_bad_1 (by decide) ?_
  refine md_puti C fl_X9_149 (by decide) (by decide) (by decide) dX9_bad_2 ?_
  refine sv_ldc C kw_562 dX9_bad_5 ?_
  exact sv_iret C (by cases hf; exact hZ) dX9_bad_7
def f_X9_whole_6 : Nat → md_B → Int32 → Int32 → Int32 → Int32 → Int32 → Option (Int32 × md_B)
  | 0, _, _, _, _, _, _ => none
  | n + 1, B, x1, x2, x3, x4, x5 =>
    if (x2 + x3) ≤ x5 then
      some (x4, B)
    else
      (f_X9_at B x1 x5).bind (fun q23 =>
        (f_X9_whole_6 n) q23.2 x1 x2 x3 (((10 * x4) + q23.1) - 48) (x5 + 1))
def f_X9_whole (B : md_B) (x1 : Int32) (x2 : Int32) (x3 : Int32) : Option (Int32 × md_B) :=
  f_X9_whole_6 sv_fu B x1 x2 x3 0 x2
set_option maxHeartbeats 4000000 in
set_option maxRecDepth 100000 in
theorem w_X9_whole_6 {E : sv_E} {X : sv_X} {sz : Nat} {q : Int32 × md_B} {h0 : Nat} {ad : Nat → Nat} (C : sv_C E X cX9_whole RX9 []) (hZ : sv_Z E X (some .int) (some (.int q.1)) (md_w E h0 ad q.2) sz 0 0) (hR : sv_R X = { frames := 1, cells := 0, slots := 0, locals := 22 }) (hN : sv_nL X = 6) : ∀ (n : Nat) (B : md_B) (x1 : Int32) (x2 : Int32) (x3 : Int32) (x4 : Int32) (x5 : Int32), f_X9_whole_6 n B x1 x2 x3 x4 x5 = some q → sv_J E X (md_w E h0 ad B) sz 0 0 6 [(0, .ref h0), (1, .int x1), (2, .int x2), (3, .int x3), (4, .int x4), (5, .int x5)] [] := by
  intro n
  induction n with
  | zero =>
    intro B x1 x2 x3 x4 x5 hf
    rw [f_X9_whole_6] at hf
    cases hf
  | succ n ih =>
    intro B x1 x2 x3 x4 x5 hf
    rw [f_X9_whole_6] at hf
    refine sv_iload 5 C dX9_whole_6 rfl ?_
    refine sv_iload_n 2 C dX9_whole_8 rfl rfl ?_
    refine sv_iload_n 3 C dX9_whole_9 rfl rfl ?_
    refine sv_iadd C dX9_whole_10 ?_
    refine sv_icmp_ge (tgt := 38) C dX9_whole_11 (by decide) (fun c11 => ?_) (fun c11 => ?_)
    · replace hf := sv_if_t c11 hf
      refine sv_iload 4 C dX9_whole_38 rfl ?_
      exact sv_iret C (by cases hf; exact hZ) dX9_whole_40
    · replace hf := sv_if_f c11 hf
      refine sv_bipush (v := 10) C dX9_whole_14 (by decide) ?_
      refine sv_iload 4 C dX9_whole_16 rfl ?_
      refine sv_imul C dX9_whole_18 ?_
      refine sv_aload_n 0 C dX9_whole_19 rfl rfl ?_
      refine sv_iload_n 1 C dX9_whole_20 rfl rfl ?_
      refine sv_iload 5 C dX9_whole_21 rfl ?_
      obtain ⟨q23, hc23, hf⟩ := sv_bind_some hf
      refine sv_callV0 C mv_X9_156 (m_X9_at (sv_l X) E h0 ad sz _ _ _ _ hc23) sv_sx0 0 rfl rfl rfl rfl (Nat.le_of_ble_eq_true rfl) ⟨by rw [hR]; decide, by rw [hR]; decide⟩ ⟨by rw [hR]; decide, by rw [hR]; decide⟩ dX9_whole_23 ?_
      refine sv_iadd C dX9_whole_26 ?_
      refine sv_bipush (v := 48) C dX9_whole_27 (by decide) ?_
      refine sv_isub C dX9_whole_29 ?_
      refine sv_istore (lv' := [(4, .int (((10 * x4) + q23.1) - 48)), (0, .ref h0), (1, .int x1), (2, .int x2), (3, .int x3), (5, .int x5)]) C dX9_whole_30 (by rw [hN]; decide) rfl ?_
      refine sv_iinc (v := x5 + 1) (lv' := [(5, .int (x5 + 1)), (4, .int (((10 * x4) + q23.1) - 48)), (0, .ref h0), (1, .int x1), (2, .int x2), (3, .int x3)]) 5 C dX9_whole_32 rfl rfl (by rw [hN]; decide) rfl ?_
      refine sv_goto (tgt := 6) C dX9_whole_35 (by decide) ?_
      refine sv_sub (lv' := [(0, .ref h0), (1, .int x1), (2, .int x2), (3, .int x3), (4, .int (((10 * x4) + q23.1) - 48)), (5, .int (x5 + 1))]) [2, 3, 4, 5, 1, 0] rfl ?_
      exact ih _ _ _ _ _ _ hf
set_option maxHeartbeats 4000000 in
set_option maxRecDepth 100000 in
theorem m_X9_whole (l : Launch) (E : sv_E) (h0 : Nat) (ad : Nat → Nat) (sz : Nat) (B : md_B) (x1 : Int32) (x2 : Int32) (x3 : Int32) (q : Int32 × md_B) (hf : f_X9_whole B x1 x2 x3 = some q) : sv_Met l E yX9_whole cX9_whole 6 (some .int) 1 22 [] [.ref h0, .int x1, .int x2, .int x3] (md_w E h0 ad B) sz (some (.int q.1)) (md_w E h0 ad q.2) sz 0 0 := by
  refine sv_ofJ (by decide) (Nat.le_of_ble_eq_true rfl) ?_
  intro X hX hN hnm hR C hZ
  replace C : sv_C E X cX9_whole RX9 [] := C
  show sv_J E X (md_w E h0 ad B) sz 0 0 0 [(0, .ref h0), (1, .int x1), (2, .int x2), (3, .int x3)] []
  rw [f_X9_whole] at hf
  refine sv_iconst (v := 0) C dX9_whole_0 (by decide) ?_
  refine sv_istore (lv' := [(4, .int 0), (0, .ref h0), (1, .int x1), (2, .int x2), (3, .int x3)]) C dX9_whole_1 (by rw [hN]; decide) rfl ?_
  refine sv_iload_n 3 C dX9_whole_3 rfl rfl ?_
  refine sv_istore (lv' := [(5, .int x2), (4, .int 0), (0, .ref h0), (1, .int x1), (2, .int x2), (3, .int x3)]) C dX9_whole_4 (by rw [hN]; decide) rfl ?_
  refine sv_sub (lv' := [(0, .ref h0), (1, .int x1), (2, .int x2), (3, .int x3), (4, .int 0), (5, .int x2)]) [2, 3, 4, 5, 1, 0] rfl ?_
  exact w_X9_whole_6 C hZ hR hN sv_fu _ _ _ _ _ _ hf
def f_X9_behind_52 (B : md_B) : Option (Int32 × md_B) :=
  (f_X9_bad B).bind (fun q53 =>
    some (q53.1, q53.2))
def f_X9_behind_100 (k63 : md_B → Int32 → Int32 → Int32 → Int32 → Int32 → Int32 → Option (Int32 × md_B)) (B : md_B) (x1 : Int32) (x2 : Int32) (x4 : Int32) (x5 : Int32) (x7 : Int32) (s0 : Int32) (s1 : Int32) : Option (Int32 × md_B) :=
  k63 B x1 x2 x4 x5 (s1 + s0) (x7 + 1)
def f_X9_behind_63 : Nat → md_B → Int32 → Int32 → Int32 → Int32 → Int32 → Int32 → Option (Int32 × md_B)
  | 0, _, _, _, _, _, _, _ => none
  | n + 1, B, x1, x2, x4, x5, x6, x7 =>
    if x4 ≤ x7 then
      some (x6, B)
    else
      if x5 ≤ x7 then
        f_X9_behind_100 (f_X9_behind_63 n) B x1 x2 x4 x5 x7 0 (10 * x6)
      else
        (f_X9_at B x1 ((x2 + 1) + x7)).bind (fun q90 =>
          f_X9_behind_100 (f_X9_behind_63 n) q90.2 x1 x2 x4 x5 x7 (q90.1 - 48) (10 * x6))
def f_X9_behind_57 (B : md_B) (x1 : Int32) (x2 : Int32) (x4 : Int32) (x5 : Int32) : Option (Int32 × md_B) :=
  f_X9_behind_63 sv_fu B x1 x2 x4 x5 0 0
def f_X9_behind (B : md_B) (x1 : Int32) (x2 : Int32) (x3 : Int32) (x4 : Int32) : Option (Int32 × md_B) :=
  (f_X9_size B x1).bind (fun q2 =>
    if ((q2.1 - x2) - 1) < 0 then
      f_X9_behind_57 q2.2 x1 x2 x4 ((q2.1 - x2) - 1)
    else
      (f_X9_at q2.2 x1 x2).bind (fun q19 =>
        if q19.1 = 46 then
          (f_X9_in q19.2 (((q2.1 - x2) - 1).toInt64) 1 x3.toInt64).bind (fun q33 =>
            if q33.1 = 0 then
              f_X9_behind_52 q33.2
            else
              (f_X9_digits q33.2 x1 (x2 + 1)).bind (fun q44 =>
                if q44.1 = ((q2.1 - x2) - 1) then
                  f_X9_behind_57 q44.2 x1 x2 x4 ((q2.1 - x2) - 1)
                else
                  f_X9_behind_52 q44.2))
        else
          f_X9_behind_52 q19.2))
set_option maxHeartbeats 4000000 in
set_option maxRecDepth 100000 in
theorem w_X9_behind_52 {E : sv_E} {X : sv_X} {sz : Nat} {q : Int32 × md_B} {h0 : Nat} {ad : Nat → Nat} (C : sv_C E X cX9_behind RX9 []) (hZ : sv_Z E X (some .int) (some (.int q.1)) (md_w E h0 ad q.2) sz 0 0) (hR : sv_R X = { frames := 3, cells := 0, slots := 0, locals := 68 }) (hN : sv_nL X = 8) (B : md_B) (hf : f_X9_behind_52 B = some q) : sv_J E X (md_w E h0 ad B) sz 0 0 52 [(0, .ref h0)] [] := by
  rw [f_X9_behind_52] at hf
  refine sv_aload_n 0 C dX9_behind_52 rfl rfl ?_
  obtain ⟨q53, hc53, hf⟩ := sv_bind_some hf
  refine sv_callV0 C mv_X9_166 (m_X9_bad (sv_l X) E h0 ad sz _ _ hc53) sv_sx0 0 rfl rfl rfl rfl (Nat.le_of_ble_eq_true rfl) ⟨by rw [hR]; decide, by rw [hR]; decide⟩ ⟨by rw [hR]; decide, by rw [hR]; decide⟩ dX9_behind_53 ?_
  exact sv_iret C (by cases hf; exact hZ) dX9_behind_56
set_option maxHeartbeats 4000000 in
set_option maxRecDepth 100000 in
theorem w_X9_behind_100 {E : sv_E} {X : sv_X} {sz : Nat} {q : Int32 × md_B} {h0 : Nat} {ad : Nat → Nat} (C : sv_C E X cX9_behind RX9 []) (hZ : sv_Z E X (some .int) (some (.int q.1)) (md_w E h0 ad q.2) sz 0 0) (hR : sv_R X = { frames := 3, cells := 0, slots := 0, locals := 68 }) (hN : sv_nL X = 8) {k63 : md_B → Int32 → Int32 → Int32 → Int32 → Int32 → Int32 → Option (Int32 × md_B)} (hk63 : ∀ (B : md_B) (x1 : Int32) (x2 : Int32) (x4 : Int32) (x5 : Int32) (x6 : Int32) (x7 : Int32), k63 B x1 x2 x4 x5 x6 x7 = some q → sv_J E X (md_w E h0 ad B) sz 0 0 63 [(0, .ref h0), (1, .int x1), (2, .int x2), (4, .int x4), (5, .int x5), (6, .int x6), (7, .int x7)] []) (B : md_B) (x1 : Int32) (x2 : Int32) (x4 : Int32) (x5 : Int32) (x7 : Int32) (s0 : Int32) (s1 : Int32) (hf : f_X9_behind_100 k63 B x1 x2 x4 x5 x7 s0 s1 = some q) : sv_J E X (md_w E h0 ad B) sz 0 0 100 [(0, .ref h0), (1, .int x1), (2, .int x2), (4, .int x4), (5, .int x5), (7, .int x7)] [.int s0, .int s1] := by
  rw [f_X9_behind_100] at hf
  refine sv_iadd C dX9_behind_100 ?_
  refine sv_istore (lv' := [(6, .int (s1 + s0)), (0, .ref h0), (1, .int x1), (2, .int x2), (4, .int x4), (5, .int x5), (7, .int x7)]) C dX9_behind_101 (by rw [hN]; decide) rfl ?_
  refine sv_iinc (v := x7 + 1) (lv' := [(7, .int (x7 + 1)), (6, .int (s1 + s0)), (0, .ref h0), (1, .int x1), (2, .int x2), (4, .int x4), (5, .int x5)]) 6 C dX9_behind_103 rfl rfl (by rw [hN]; decide) rfl ?_
  refine sv_goto (tgt := 63) C dX9_behind_106 (by decide) ?_
  refine sv_sub (lv' := [(0, .ref h0), (1, .int x1), (2, .int x2), (4, .int x4), (5, .int x5), (6, .int (s1 + s0)), (7, .int (x7 + 1))]) [2, 3, 4, 5, 6, 1, 0] rfl ?_
  exact hk63 _ _ _ _ _ _ _ hf
set_option maxHeartbeats 4000000 in
set_option maxRecDepth 100000 in
theorem w_X9_behind_63 {E : sv_E} {X : sv_X} {sz : Nat} {q : Int32 × md_B} {h0 : Nat} {ad : Nat → Nat} (C : sv_C E X cX9_behind RX9 []) (hZ : sv_Z E X (some .int) (some (.int q.1)) (md_w E h0 ad q.2) sz 0 0) (hR : sv_R X = { frames := 3, cells := 0, slots := 0, locals := 68 }) (hN : sv_nL X = 8) : ∀ (n : Nat) (B : md_B) (x1 : Int32) (x2 : Int32) (x4 : Int32) (x5 : Int32) (x6 : Int32) (x7 : Int32), f_X9_behind_63 n B x1 x2 x4 x5 x6 x7 = some q → sv_J E X (md_w E h0 ad B) sz 0 0 63 [(0, .ref h0), (1, .int x1), (2, .int x2), (4, .int x4), (5, .int x5), (6, .int x6), (7, .int x7)] [] := by
  intro n
  induction n with
  | zero =>
    intro B x1 x2 x4 x5 x6 x7 hf
    rw [f_X9_behind_63] at hf
    cases hf
  | succ n ih =>
    intro B x1 x2 x4 x5 x6 x7 hf
    rw [f_X9_behind_63] at hf
    refine sv_iload 6 C dX9_behind_63 rfl ?_
    refine sv_iload 3 C dX9_behind_65 rfl ?_
    refine sv_icmp_ge (tgt := 109) C dX9_behind_67 (by decide) (fun c67 => ?_) (fun c67 => ?_)
    · replace hf := sv_if_t c67 hf
      refine sv_iload 5 C dX9_behind_109 rfl ?_
      exact sv_iret C (by cases hf; exact hZ) dX9_behind_111
    · replace hf := sv_if_f c67 hf
      refine sv_bipush (v := 10) C dX9_behind_70 (by decide) ?_
      refine sv_iload 5 C dX9_behind_72 rfl ?_
      refine sv_imul C dX9_behind_74 ?_
      refine sv_iload 6 C dX9_behind_75 rfl ?_
      refine sv_iload 4 C dX9_behind_77 rfl ?_
      refine sv_icmp_ge (tgt := 99) C dX9_behind_79 (by decide) (fun c79 => ?_) (fun c79 => ?_)
      · replace hf := sv_if_t c79 hf
        refine sv_iconst (v := 0) C dX9_behind_99 (by decide) ?_
        refine sv_sub (lv' := [(0, .ref h0), (1, .int x1), (2, .int x2), (4, .int x4), (5, .int x5), (7, .int x7)]) [0, 1, 2, 3, 4, 6] rfl ?_
        exact w_X9_behind_100 C hZ hR hN ih _ _ _ _ _ _ _ _ hf
      · replace hf := sv_if_f c79 hf
        refine sv_aload_n 0 C dX9_behind_82 rfl rfl ?_
        refine sv_iload_n 1 C dX9_behind_83 rfl rfl ?_
        refine sv_iload_n 2 C dX9_behind_84 rfl rfl ?_
        refine sv_iconst (v := 1) C dX9_behind_85 (by decide) ?_
        refine sv_iadd C dX9_behind_86 ?_
        refine sv_iload 6 C dX9_behind_87 rfl ?_
        refine sv_iadd C dX9_behind_89 ?_
        obtain ⟨q90, hc90, hf⟩ := sv_bind_some hf
        refine sv_callV0 C mv_X9_156 (m_X9_at (sv_l X) E h0 ad sz _ _ _ _ hc90) sv_sx0 0 rfl rfl rfl rfl (Nat.le_of_ble_eq_true rfl) ⟨by rw [hR]; decide, by rw [hR]; decide⟩ ⟨by rw [hR]; decide, by rw [hR]; decide⟩ dX9_behind_90 ?_
        refine sv_bipush (v := 48) C dX9_behind_93 (by decide) ?_
        refine sv_isub C dX9_behind_95 ?_
        refine sv_goto (tgt := 100) C dX9_behind_96 (by decide) ?_
        refine sv_sub (lv' := [(0, .ref h0), (1, .int x1), (2, .int x2), (4, .int x4), (5, .int x5), (7, .int x7)]) [0, 1, 2, 3, 4, 6] rfl ?_
        exact w_X9_behind_100 C hZ hR hN ih _ _ _ _ _ _ _ _ hf
set_option maxHeartbeats 4000000 in
set_option maxRecDepth 100000 in
theorem w_X9_behind_57 {E : sv_E} {X : sv_X} {sz : Nat} {q : Int32 × md_B} {h0 : Nat} {ad : Nat → Nat} (C : sv_C E X cX9_behind RX9 []) (hZ : sv_Z E X (some .int) (some (.int q.1)) (md_w E h0 ad q.2) sz 0 0) (hR : sv_R X = { frames := 3, cells := 0, slots := 0, locals := 68 }) (hN : sv_nL X = 8) (B : md_B) (x1 : Int32) (x2 : Int32) (x4 : Int32) (x5 : Int32) (hf : f_X9_behind_57 B x1 x2 x4 x5 = some q) : sv_J E X (md_w E h0 ad B) sz 0 0 57 [(0, .ref h0), (1, .int x1), (2, .int x2), (4, .int x4), (5, .int x5)] [] := by
  rw [f_X9_behind_57] at hf
  refine sv_iconst (v := 0) C dX9_behind_57 (by decide) ?_
  refine sv_istore (lv' := [(6, .int 0), (0, .ref h0), (1, .int x1), (2, .int x2), (4, .int x4), (5, .int x5)]) C dX9_behind_58 (by rw [hN]; decide) rfl ?_
  refine sv_iconst (v := 0) C dX9_behind_60 (by decide) ?_
  refine sv_istore (lv' := [(7, .int 0), (6, .int 0), (0, .ref h0), (1, .int x1), (2, .int x2), (4, .int x4), (5, .int x5)]) C dX9_behind_61 (by rw [hN]; decide) rfl ?_
  refine sv_sub (lv' := [(0, .ref h0), (1, .int x1), (2, .int x2), (4, .int x4), (5, .int x5), (6, .int 0), (7, .int 0)]) [2, 3, 4, 5, 6, 1, 0] rfl ?_
  exact w_X9_behind_63 C hZ hR hN sv_fu _ _ _ _ _ _ _ hf
set_option maxHeartbeats 4000000 in
set_option maxRecDepth 100000 in
theorem m_X9_behind (l : Launch) (E : sv_E) (h0 : Nat) (ad : Nat → Nat) (sz : Nat) (B : md_B) (x1 : Int32) (x2 : Int32) (x3 : Int32) (x4 : Int32) (q : Int32 × md_B) (hf : f_X9_behind B x1 x2 x3 x4 = some q) : sv_Met l E yX9_behind cX9_behind 8 (some .int) 3 68 [] [.ref h0, .int x1, .int x2, .int x3, .int x4] (md_w E h0 ad B) sz (some (.int q.1)) (md_w E h0 ad q.2) sz 0 0 := by
  refine sv_ofJ (by decide) (Nat.le_of_ble_eq_true rfl) ?_
  intro X hX hN hnm hR C hZ
  replace C : sv_C E X cX9_behind RX9 [] := C
  show sv_J E X (md_w E h0 ad B) sz 0 0 0 [(0, .ref h0), (1, .int x1), (2, .int x2), (3, .int x3), (4, .int x4)] []
  rw [f_X9_behind] at hf
  refine sv_aload_n 0 C dX9_behind_0 rfl rfl ?_
  refine sv_iload_n 1 C dX9_behind_1 rfl rfl ?_
  obtain ⟨q2, hc2, hf⟩ := sv_bind_some hf
  refine sv_callV0 C mv_X9_153 (m_X9_size (sv_l X) E h0 ad sz _ _ _ hc2) sv_sx0 0 rfl rfl rfl rfl (Nat.le_of_ble_eq_true rfl) ⟨by rw [hR]; decide, by rw [hR]; decide⟩ ⟨by rw [hR]; decide, by rw [hR]; decide⟩ dX9_behind_2 ?_
  refine sv_iload_n 2 C dX9_behind_5 rfl rfl ?_
  refine sv_isub C dX9_behind_6 ?_
  refine sv_iconst (v := 1) C dX9_behind_7 (by decide) ?_
  refine sv_isub C dX9_behind_8 ?_
  refine sv_istore (lv' := [(5, .int ((q2.1 - x2) - 1)), (0, .ref h0), (1, .int x1), (2, .int x2), (3, .int x3), (4, .int x4)]) C dX9_behind_9 (by rw [hN]; decide) rfl ?_
  refine sv_iload 0 C dX9_behind_11 rfl ?_
  refine sv_if_lt (tgt := 57) C dX9_behind_13 (by decide) (fun c13 => ?_) (fun c13 => ?_)
  · replace hf := sv_if_t c13 hf
    refine sv_sub (lv' := [(0, .ref h0), (1, .int x1), (2, .int x2), (4, .int x4), (5, .int ((q2.1 - x2) - 1))]) [1, 2, 3, 5, 0] rfl ?_
    exact w_X9_behind_57 C hZ hR hN _ _ _ _ _ hf
  · replace hf := sv_if_f c13 hf
    refine sv_aload_n 1 C dX9_behind_16 rfl rfl ?_
    refine sv_iload_n 2 C dX9_behind_17 rfl rfl ?_
    refine sv_iload_n 3 C dX9_behind_18 rfl rfl ?_
    obtain ⟨q19, hc19, hf⟩ := sv_bind_some hf
    refine sv_callV0 C mv_X9_156 (m_X9_at (sv_l X) E h0 ad sz _ _ _ _ hc19) sv_sx0 0 rfl rfl rfl rfl (Nat.le_of_ble_eq_true rfl) ⟨by rw [hR]; decide, by rw [hR]; decide⟩ ⟨by rw [hR]; decide, by rw [hR]; decide⟩ dX9_behind_19 ?_
    refine sv_bipush (v := 46) C dX9_behind_22 (by decide) ?_
    refine sv_icmp_ne (tgt := 52) C dX9_behind_24 (by decide) (fun c24 => ?_) (fun c24 => ?_)
    · replace hf := sv_if_f c24 hf
      refine sv_sub (lv' := [(0, .ref h0)]) [1] rfl ?_
      exact w_X9_behind_52 C hZ hR hN _ hf
    · replace hf := sv_if_t c24 hf
      refine sv_iload 0 C dX9_behind_27 rfl ?_
      refine sv_i2l C dX9_behind_29 ?_
      refine sv_lconst (v := 1) C dX9_behind_30 (by decide) ?_
      refine sv_iload_n 4 C dX9_behind_31 rfl rfl ?_
      refine sv_i2l C dX9_behind_32 ?_
      obtain ⟨q33, hc33, hf⟩ := sv_bind_some hf
      refine sv_callS0 C ms_X9_74 (m_X9_in (sv_l X) E h0 ad sz _ _ _ _ _ hc33) sv_sx0 rfl rfl (Nat.le_of_ble_eq_true rfl) ⟨by rw [hR]; decide, by rw [hR]; decide⟩ ⟨by rw [hR]; decide, by rw [hR]; decide⟩ dX9_behind_33 ?_
      refine sv_if_eq (tgt := 52) C dX9_behind_36 (by decide) (fun c36 => ?_) (fun c36 => ?_)
      · replace hf := sv_if_t c36 hf
        refine sv_sub (lv' := [(0, .ref h0)]) [1] rfl ?_
        exact w_X9_behind_52 C hZ hR hN _ hf
      · replace hf := sv_if_f c36 hf
        refine sv_aload_n 1 C dX9_behind_39 rfl rfl ?_
        refine sv_iload_n 2 C dX9_behind_40 rfl rfl ?_
        refine sv_iload_n 3 C dX9_behind_41 rfl rfl ?_
        refine sv_iconst (v := 1) C dX9_behind_42 (by decide) ?_
        refine sv_iadd C dX9_behind_43 ?_
        obtain ⟨q44, hc44, hf⟩ := sv_bind_some hf
        refine sv_callV0 C mv_X9_163 (m_X9_digits (sv_l X) E h0 ad sz _ _ _ _ hc44) sv_sx0 0 rfl rfl rfl rfl (Nat.le_of_ble_eq_true rfl) ⟨by rw [hR]; decide, by rw [hR]; decide⟩ ⟨by rw [hR]; decide, by rw [hR]; decide⟩ dX9_behind_44 ?_
        refine sv_iload 0 C dX9_behind_47 rfl ?_
        refine sv_icmp_eq (tgt := 57) C dX9_behind_49 (by decide) (fun c49 => ?_) (fun c49 => ?_)
        · replace hf := sv_if_t c49 hf
          refine sv_sub (lv' := [(0, .ref h0), (1, .int x1), (2, .int x2), (4, .int x4), (5, .int ((q2.1 - x2) - 1))]) [1, 2, 3, 5, 0] rfl ?_
          exact w_X9_behind_57 C hZ hR hN _ _ _ _ _ hf
        · replace hf := sv_if_f c49 hf
          refine sv_sub (lv' := [(0, .ref h0)]) [1] rfl ?_
          exact w_X9_behind_52 C hZ hR hN _ hf
def f_X9_time_94 (B : md_B) : Option (Int32 × md_B) :=
  (f_X9_bad B).bind (fun q95 =>
    some (q95.1, q95.2))
def f_X9_time (B : md_B) (x1 : Int32) : Option (Int32 × md_B) :=
  (f_X9_size B x1).bind (fun q2 =>
    if q2.1 = 0 then
      some ((-2147483648), q2.2)
    else
      (f_X9_digits q2.2 x1 0).bind (fun q14 =>
        if q14.1 = 6 then
          (f_X9_whole q14.2 x1 0 2).bind (fun q31 =>
            (f_X9_whole q31.2 x1 2 2).bind (fun q39 =>
              (f_X9_whole q39.2 x1 4 2).bind (fun q47 =>
                (f_X9_behind q47.2 x1 6 3 3).bind (fun q58 =>
                  if q58.1 = (-2147483648) then
                    some ((-2147483648), q58.2)
                  else
                    if 23 < q31.1 then
                      f_X9_time_94 q58.2
                    else
                      if 59 < q39.1 then
                        f_X9_time_94 q58.2
                      else
                        if q47.1 ≤ 59 then
                          some ((((((q31.1 * 60) + q39.1) * 60) + q47.1) * 1000) + q58.1, q58.2)
                        else
                          f_X9_time_94 q58.2))))
        else
          (f_X9_bad q14.2).bind (fun q23 =>
            some (q23.1, q23.2))))
set_option maxHeartbeats 4000000 in
set_option maxRecDepth 100000 in
theorem w_X9_time_94 {E : sv_E} {X : sv_X} {sz : Nat} {q : Int32 × md_B} {h0 : Nat} {ad : Nat → Nat} (C : sv_C E X cX9_time RX9 []) (hZ : sv_Z E X (some .int) (some (.int q.1)) (md_w E h0 ad q.2) sz 0 0) (hR : sv_R X = { frames := 4, cells := 0, slots := 0, locals := 95 }) (hN : sv_nL X = 6) (B : md_B) (hf : f_X9_time_94 B = some q) : sv_J E X (md_w E h0 ad B) sz 0 0 94 [(0, .ref h0)] [] := by
  rw [f_X9_time_94] at hf
  refine sv_aload_n 0 C dX9_time_94 rfl rfl ?_
  obtain ⟨q95, hc95, hf⟩ := sv_bind_some hf
  refine sv_callV0 C mv_X9_166 (m_X9_bad (sv_l X) E h0 ad sz _ _ hc95) sv_sx0 0 rfl rfl rfl rfl (Nat.le_of_ble_eq_true rfl) ⟨by rw [hR]; decide, by rw [hR]; decide⟩ ⟨by rw [hR]; decide, by rw [hR]; decide⟩ dX9_time_95 ?_
  refine sv_goto (tgt := 120) C dX9_time_98 (by decide) ?_
  exact sv_iret C (by cases hf; exact hZ) dX9_time_120
set_option maxHeartbeats 4000000 in
set_option maxRecDepth 100000 in
theorem m_X9_time (l : Launch) (E : sv_E) (h0 : Nat) (ad : Nat → Nat) (sz : Nat) (B : md_B) (x1 : Int32) (q : Int32 × md_B) (hf : f_X9_time B x1 = some q) : sv_Met l E yX9_time cX9_time 6 (some .int) 4 95 [] [.ref h0, .int x1] (md_w E h0 ad B) sz (some (.int q.1)) (md_w E h0 ad q.2) sz 0 0 := by
  refine sv_ofJ (by decide) (Nat.le_of_ble_eq_true rfl) ?_
  intro X hX hN hnm hR C hZ
  replace C : sv_C E X cX9_time RX9 [] := C
  show sv_J E X (md_w E h0 ad B) sz 0 0 0 [(0, .ref h0), (1, .int x1)] []
  rw [f_X9_time] at hf
  refine sv_aload_n 0 C dX9_time_0 rfl rfl ?_
  refine sv_iload_n 1 C dX9_time_1 rfl rfl ?_
  obtain ⟨q2, hc2, hf⟩ := sv_bind_some hf
  refine sv_callV0 C mv_X9_153 (m_X9_size (sv_l X) E h0 ad sz _ _ _ hc2) sv_sx0 0 rfl rfl rfl rfl (Nat.le_of_ble_eq_true rfl) ⟨by rw [hR]; decide, by rw [hR]; decide⟩ ⟨by rw [hR]; decide, by rw [hR]; decide⟩ dX9_time_2 ?_
  refine sv_if_ne (tgt := 11) C dX9_time_5 (by decide) (fun c5 => ?_) (fun c5 => ?_)
  · replace hf := sv_if_f c5 hf
    refine sv_aload_n 0 C dX9_time_11 rfl rfl ?_
    refine sv_iload_n 1 C dX9_time_12 rfl rfl ?_
    refine sv_iconst (v := 0) C dX9_time_13 (by decide) ?_
    obtain ⟨q14, hc14, hf⟩ := sv_bind_some hf
    refine sv_callV0 C mv_X9_163 (m_X9_digits (sv_l X) E h0 ad sz _ _ _ _ hc14) sv_sx0 0 rfl rfl rfl rfl (Nat.le_of_ble_eq_true rfl) ⟨by rw [hR]; decide, by rw [hR]; decide⟩ ⟨by rw [hR]; decide, by rw [hR]; decide⟩ dX9_time_14 ?_
    refine sv_bipush (v := 6) C dX9_time_17 (by decide) ?_
    refine sv_icmp_eq (tgt := 27) C dX9_time_19 (by decide) (fun c19 => ?_) (fun c19 => ?_)
    · replace hf := sv_if_t c19 hf
      refine sv_aload_n 0 C dX9_time_27 rfl rfl ?_
      refine sv_iload_n 1 C dX9_time_28 rfl rfl ?_
      refine sv_iconst (v := 0) C dX9_time_29 (by decide) ?_
      refine sv_iconst (v := 2) C dX9_time_30 (by decide) ?_
      obtain ⟨q31, hc31, hf⟩ := sv_bind_some hf
      refine sv_callV0 C mv_X9_173 (m_X9_whole (sv_l X) E h0 ad sz _ _ _ _ _ hc31) sv_sx0 0 rfl rfl rfl rfl (Nat.le_of_ble_eq_true rfl) ⟨by rw [hR]; decide, by rw [hR]; decide⟩ ⟨by rw [hR]; decide, by rw [hR]; decide⟩ dX9_time_31 ?_
      refine sv_istore_n (lv' := [(2, .int q31.1), (0, .ref h0), (1, .int x1)]) C dX9_time_34 rfl (by rw [hN]; decide) rfl ?_
      refine sv_aload_n 1 C dX9_time_35 rfl rfl ?_
      refine sv_iload_n 2 C dX9_time_36 rfl rfl ?_
      refine sv_iconst (v := 2) C dX9_time_37 (by decide) ?_
      refine sv_iconst (v := 2) C dX9_time_38 (by decide) ?_
      obtain ⟨q39, hc39, hf⟩ := sv_bind_some hf
      refine sv_callV0 C mv_X9_173 (m_X9_whole (sv_l X) E h0 ad sz _ _ _ _ _ hc39) sv_sx0 0 rfl rfl rfl rfl (Nat.le_of_ble_eq_true rfl) ⟨by rw [hR]; decide, by rw [hR]; decide⟩ ⟨by rw [hR]; decide, by rw [hR]; decide⟩ dX9_time_39 ?_
      refine sv_istore_n (lv' := [(3, .int q39.1), (2, .int q31.1), (0, .ref h0), (1, .int x1)]) C dX9_time_42 rfl (by rw [hN]; decide) rfl ?_
      refine sv_aload_n 2 C dX9_time_43 rfl rfl ?_
      refine sv_iload_n 3 C dX9_time_44 rfl rfl ?_
      refine sv_iconst (v := 4) C dX9_time_45 (by decide) ?_
      refine sv_iconst (v := 2) C dX9_time_46 (by decide) ?_
      obtain ⟨q47, hc47, hf⟩ := sv_bind_some hf
      refine sv_callV0 C mv_X9_173 (m_X9_whole (sv_l X) E h0 ad sz _ _ _ _ _ hc47) sv_sx0 0 rfl rfl rfl rfl (Nat.le_of_ble_eq_true rfl) ⟨by rw [hR]; decide, by rw [hR]; decide⟩ ⟨by rw [hR]; decide, by rw [hR]; decide⟩ dX9_time_47 ?_
      refine sv_istore (lv' := [(4, .int q47.1), (3, .int q39.1), (2, .int q31.1), (0, .ref h0), (1, .int x1)]) C dX9_time_50 (by rw [hN]; decide) rfl ?_
      refine sv_aload_n 3 C dX9_time_52 rfl rfl ?_
      refine sv_iload_n 4 C dX9_time_53 rfl rfl ?_
      refine sv_bipush (v := 6) C dX9_time_54 (by decide) ?_
      refine sv_iconst (v := 3) C dX9_time_56 (by decide) ?_
      refine sv_iconst (v := 3) C dX9_time_57 (by decide) ?_
      obtain ⟨q58, hc58, hf⟩ := sv_bind_some hf
      refine sv_callV0 C mv_X9_169 (m_X9_behind (sv_l X) E h0 ad sz _ _ _ _ _ _ hc58) sv_sx0 0 rfl rfl rfl rfl (Nat.le_of_ble_eq_true rfl) ⟨by rw [hR]; decide, by rw [hR]; decide⟩ ⟨by rw [hR]; decide, by rw [hR]; decide⟩ dX9_time_58 ?_
      refine sv_istore (lv' := [(5, .int q58.1), (4, .int q47.1), (3, .int q39.1), (2, .int q31.1), (0, .ref h0), (1, .int x1)]) C dX9_time_61 (by rw [hN]; decide) rfl ?_
      refine sv_iload 0 C dX9_time_63 rfl ?_
      refine sv_ldc C kw_562 dX9_time_65 ?_
      refine sv_icmp_ne (tgt := 75) C dX9_time_67 (by decide) (fun c67 => ?_) (fun c67 => ?_)
      · replace hf := sv_if_f c67 hf
        refine sv_iload_n 3 C dX9_time_75 rfl rfl ?_
        refine sv_bipush (v := 23) C dX9_time_76 (by decide) ?_
        refine sv_icmp_gt (tgt := 94) C dX9_time_78 (by decide) (fun c78 => ?_) (fun c78 => ?_)
        · replace hf := sv_if_t c78 hf
          refine sv_sub (lv' := [(0, .ref h0)]) [4] rfl ?_
          exact w_X9_time_94 C hZ hR hN _ hf
        · replace hf := sv_if_f c78 hf
          refine sv_iload_n 2 C dX9_time_81 rfl rfl ?_
          refine sv_bipush (v := 59) C dX9_time_82 (by decide) ?_
          refine sv_icmp_gt (tgt := 94) C dX9_time_84 (by decide) (fun c84 => ?_) (fun c84 => ?_)
          · replace hf := sv_if_t c84 hf
            refine sv_sub (lv' := [(0, .ref h0)]) [4] rfl ?_
            exact w_X9_time_94 C hZ hR hN _ hf
          · replace hf := sv_if_f c84 hf
            refine sv_iload 1 C dX9_time_87 rfl ?_
            refine sv_bipush (v := 59) C dX9_time_89 (by decide) ?_
            refine sv_icmp_le (tgt := 101) C dX9_time_91 (by decide) (fun c91 => ?_) (fun c91 => ?_)
            · replace hf := sv_if_t c91 hf
              refine sv_iload_n 3 C dX9_time_101 rfl rfl ?_
              refine sv_bipush (v := 60) C dX9_time_102 (by decide) ?_
              refine sv_imul C dX9_time_104 ?_
              refine sv_iload_n 2 C dX9_time_105 rfl rfl ?_
              refine sv_iadd C dX9_time_106 ?_
              refine sv_bipush (v := 60) C dX9_time_107 (by decide) ?_
              refine sv_imul C dX9_time_109 ?_
              refine sv_iload 1 C dX9_time_110 rfl ?_
              refine sv_iadd C dX9_time_112 ?_
              refine sv_sipush (v := 1000) C dX9_time_113 (by decide) ?_
              refine sv_imul C dX9_time_116 ?_
              refine sv_iload 0 C dX9_time_117 rfl ?_
              refine sv_iadd C dX9_time_119 ?_
              exact sv_iret C (by cases hf; exact hZ) dX9_time_120
            · replace hf := sv_if_f c91 hf
              refine sv_sub (lv' := [(0, .ref h0)]) [4] rfl ?_
              exact w_X9_time_94 C hZ hR hN _ hf
      · replace hf := sv_if_t c67 hf
        refine sv_ldc C kw_562 dX9_time_70 ?_
        refine sv_goto (tgt := 120) C dX9_time_72 (by decide) ?_
        exact sv_iret C (by cases hf; exact hZ) dX9_time_120
    · replace hf := sv_if_f c19 hf
      refine sv_aload_n 0 C dX9_time_22 rfl rfl ?_
      obtain ⟨q23, hc23, hf⟩ := sv_bind_some hf
      refine sv_callV0 C mv_X9_166 (m_X9_bad (sv_l X) E h0 ad sz _ _ hc23) sv_sx0 0 rfl rfl rfl rfl (Nat.le_of_ble_eq_true rfl) ⟨by rw [hR]; decide, by rw [hR]; decide⟩ ⟨by rw [hR]; decide, by rw [hR]; decide⟩ dX9_time_23 ?_
      exact sv_iret C (by cases hf; exact hZ) dX9_time_26
  · replace hf := sv_if_t c5 hf
    refine sv_ldc C kw_562 dX9_time_8 ?_
    exact sv_iret C (by cases hf; exact hZ) dX9_time_10
