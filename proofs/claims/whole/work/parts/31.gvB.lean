def f_X1_split_102 (T : gh_T) (a0 : Nat) (a1 : Nat) (k38 : gh_V → Int32 → Int32 → Option (gh_V)) (V : gh_V) (x2 : Int32) (x3 : Int32) : Option (gh_V) :=
  k38 V x2 (x3 + 1)
def f_X1_split_38 (T : gh_T) (a0 : Nat) (a1 : Nat) : Nat → gh_V → Int32 → Int32 → Option (gh_V)
  | 0, _, _, _ => none
  | n + 1, V, x2, x3 =>
    if x2 ≤ x3 then
      (T.2.2.1 1 a0).bind (fun b109 =>
        sv_g (sv_inb (V.1 2 a0) (T.2.2.2.1 b109)) (
          some (gh_pa V b109 (V.1 2 a0) (x2 + 1))))
    else
      (f_X5_at T V a1 x3).bind (fun q45 =>
        (T.2.2.1 0 a0).bind (fun b51 =>
          sv_g (sv_inb x3 (T.2.2.2.1 b51)) (
            if q45.1 = 44 then
              (T.2.2.1 1 a0).bind (fun b71 =>
                if ((Int32.ofNat (T.2.2.2.1 b71)) - 1) ≤ ((gh_pa q45.2 b51 x3 (vp_nar .byte q45.1.toInt8.toInt32)).1 2 a0) then
                  f_X1_split_102 T a0 a1 (f_X1_split_38 T a0 a1 n) (gh_pa q45.2 b51 x3 (vp_nar .byte q45.1.toInt8.toInt32)) x2 x3
                else
                  (T.2.2.1 1 a0).bind (fun b81 =>
                    sv_g (sv_inb ((gh_pa q45.2 b51 x3 (vp_nar .byte q45.1.toInt8.toInt32)).1 2 a0) (T.2.2.2.1 b81)) (
                      f_X1_split_102 T a0 a1 (f_X1_split_38 T a0 a1 n) (gh_pf (gh_pa (gh_pa q45.2 b51 x3 (vp_nar .byte q45.1.toInt8.toInt32)) b81 ((gh_pa q45.2 b51 x3 (vp_nar .byte q45.1.toInt8.toInt32)).1 2 a0) (x3 + 1)) 2 a0 (((gh_pa (gh_pa q45.2 b51 x3 (vp_nar .byte q45.1.toInt8.toInt32)) b81 ((gh_pa q45.2 b51 x3 (vp_nar .byte q45.1.toInt8.toInt32)).1 2 a0) (x3 + 1)).1 2 a0) + 1)) x2 x3)))
            else
              f_X1_split_102 T a0 a1 (f_X1_split_38 T a0 a1 n) (gh_pa q45.2 b51 x3 (vp_nar .byte q45.1.toInt8.toInt32)) x2 x3)))
def f_X1_split_35 (T : gh_T) (a0 : Nat) (a1 : Nat) (V : gh_V) (s0 : Int32) : Option (gh_V) :=
  f_X1_split_38 T a0 a1 sv_fu V s0 0
def f_X1_split (T : gh_T) (V : gh_V) (a0 : Nat) (a1 : Nat) : Option (gh_V) :=
  (T.2.2.1 1 a0).bind (fun b11 =>
    sv_g (sv_inb (0 : Int32) (T.2.2.2.1 b11)) (
      if 78 < ((gh_pa (gh_pf (gh_pf V 3 a0 1) 2 a0 1) b11 0 0).1 3 a1) then
        f_X1_split_35 T a0 a1 (gh_pa (gh_pf (gh_pf V 3 a0 1) 2 a0 1) b11 0 0) 78
      else
        f_X1_split_35 T a0 a1 (gh_pa (gh_pf (gh_pf V 3 a0 1) 2 a0 1) b11 0 0) ((gh_pa (gh_pf (gh_pf V 3 a0 1) 2 a0 1) b11 0 0).1 3 a1)))
set_option maxHeartbeats 4000000 in
set_option maxRecDepth 100000 in
theorem w_X1_split_102 {E : sv_E} {X : sv_X} {sz : Nat} {q : gh_V} {T : gh_T} {a0 : Nat} {a1 : Nat} (C : sv_C E X cX1_split RX1 []) (hZ : sv_Z E X none none (gh_w E T q) sz 0 0) (hR : sv_R X = { frames := 1, cells := 0, slots := 0, locals := 21 }) (hN : sv_nL X = 5) (hT : gh_ok T) (o_a0 : gh_is T a0 1) (o_a1 : gh_is T a1 5) {k38 : gh_V → Int32 → Int32 → Option (gh_V)} (hk38 : ∀ (V : gh_V) (x2 : Int32) (x3 : Int32), k38 V x2 x3 = some q → sv_J E X (gh_w E T V) sz 0 0 38 [(0, .ref a0), (1, .ref a1), (2, .int x2), (3, .int x3)] []) (V : gh_V) (x2 : Int32) (x3 : Int32) (hf : f_X1_split_102 T a0 a1 k38 V x2 x3 = some q) : sv_J E X (gh_w E T V) sz 0 0 102 [(0, .ref a0), (1, .ref a1), (2, .int x2), (3, .int x3)] [] := by
  rw [f_X1_split_102] at hf
  refine sv_iinc (v := x3 + 1) (lv' := [(3, .int (x3 + 1)), (0, .ref a0), (1, .ref a1), (2, .int x2)]) 3 C dX1_split_102 rfl rfl (by rw [hN]; decide) rfl ?_
  refine sv_goto (tgt := 38) C dX1_split_105 (by decide) ?_
  refine sv_sub (lv' := [(0, .ref a0), (1, .ref a1), (2, .int x2), (3, .int (x3 + 1))]) [1, 2, 3, 0] rfl ?_
  exact hk38 _ _ _ hf
set_option maxHeartbeats 4000000 in
set_option maxRecDepth 100000 in
theorem w_X1_split_38 {E : sv_E} {X : sv_X} {sz : Nat} {q : gh_V} {T : gh_T} {a0 : Nat} {a1 : Nat} (C : sv_C E X cX1_split RX1 []) (hZ : sv_Z E X none none (gh_w E T q) sz 0 0) (hR : sv_R X = { frames := 1, cells := 0, slots := 0, locals := 21 }) (hN : sv_nL X = 5) (hT : gh_ok T) (o_a0 : gh_is T a0 1) (o_a1 : gh_is T a1 5) : ∀ (n : Nat) (V : gh_V) (x2 : Int32) (x3 : Int32), f_X1_split_38 T a0 a1 n V x2 x3 = some q → sv_J E X (gh_w E T V) sz 0 0 38 [(0, .ref a0), (1, .ref a1), (2, .int x2), (3, .int x3)] [] := by
  intro n
  induction n with
  | zero =>
    intro V x2 x3 hf
    rw [f_X1_split_38] at hf
    cases hf
  | succ n ih =>
    intro V x2 x3 hf
    rw [f_X1_split_38] at hf
    refine sv_iload_n 3 C dX1_split_38 rfl rfl ?_
    refine sv_iload_n 2 C dX1_split_39 rfl rfl ?_
    refine sv_icmp_ge (tgt := 108) C dX1_split_40 (by decide) (fun c40 => ?_) (fun c40 => ?_)
    · replace hf := sv_if_t c40 hf
      refine sv_aload_n 0 C dX1_split_108 rfl rfl ?_
      obtain ⟨b109, hb109, hf⟩ := sv_bind_some hf
      have o_b109 : gh_is T b109 10 := gh_okr hT o_a0 rfl hb109
      refine gh_getr (d := 10) C fl_X1_17 o_a0 (by decide) (by decide) hb109 dX1_split_109 ?_
      refine sv_aload_n 0 C dX1_split_112 rfl rfl ?_
      refine gh_geti C fl_X1_25 o_a0 (by decide) (by decide) dX1_split_113 ?_
      refine sv_iload_n 2 C dX1_split_116 rfl rfl ?_
      refine sv_iconst (v := 1) C dX1_split_117 (by decide) ?_
      refine sv_iadd C dX1_split_118 ?_
      obtain ⟨g119, hf⟩ := sv_g_some hf
      refine gh_iast C o_b109 g119 dX1_split_119 ?_
      exact sv_vret C (by cases hf; exact hZ) dX1_split_120
    · replace hf := sv_if_f c40 hf
      refine sv_aload_n 1 C dX1_split_43 rfl rfl ?_
      refine sv_iload_n 3 C dX1_split_44 rfl rfl ?_
      obtain ⟨q45, hc45, hf⟩ := sv_bind_some hf
      refine gh_callV0 C mv_X1_32 (m_X5_at (sv_l X) E T sz _ _ _ _ hc45 hT o_a1) sv_sx0 o_a1 (by decide) rfl rfl rfl (Nat.le_of_ble_eq_true rfl) ⟨by rw [hR]; decide, by rw [hR]; decide⟩ ⟨by rw [hR]; decide, by rw [hR]; decide⟩ dX1_split_45 ?_
      refine sv_istore (lv' := [(4, .int q45.1), (0, .ref a0), (1, .ref a1), (2, .int x2), (3, .int x3)]) C dX1_split_48 (by rw [hN]; decide) rfl ?_
      refine sv_aload_n 1 C dX1_split_50 rfl rfl ?_
      obtain ⟨b51, hb51, hf⟩ := sv_bind_some hf
      have o_b51 : gh_is T b51 9 := gh_okr hT o_a0 rfl hb51
      refine gh_getr (d := 9) C fl_X1_11 o_a0 (by decide) (by decide) hb51 dX1_split_51 ?_
      refine sv_iload_n 4 C dX1_split_54 rfl rfl ?_
      refine sv_iload 0 C dX1_split_55 rfl ?_
      refine sv_i2b C dX1_split_57 ?_
      obtain ⟨g58, hf⟩ := sv_g_some hf
      refine gh_bast C o_b51 g58 dX1_split_58 ?_
      refine sv_iload 0 C dX1_split_59 rfl ?_
      refine sv_bipush (v := 44) C dX1_split_61 (by decide) ?_
      refine sv_icmp_ne (tgt := 102) C dX1_split_63 (by decide) (fun c63 => ?_) (fun c63 => ?_)
      · replace hf := sv_if_f c63 hf
        refine sv_sub (lv' := [(0, .ref a0), (1, .ref a1), (2, .int x2), (3, .int x3)]) [1, 2, 3, 4] rfl ?_
        exact w_X1_split_102 C hZ hR hN hT o_a0 o_a1 ih _ _ _ hf
      · replace hf := sv_if_t c63 hf
        refine sv_aload_n 1 C dX1_split_66 rfl rfl ?_
        refine gh_geti C fl_X1_25 o_a0 (by decide) (by decide) dX1_split_67 ?_
        refine sv_aload_n 1 C dX1_split_70 rfl rfl ?_
        obtain ⟨b71, hb71, hf⟩ := sv_bind_some hf
        have o_b71 : gh_is T b71 10 := gh_okr hT o_a0 rfl hb71
        refine gh_getr (d := 10) C fl_X1_17 o_a0 (by decide) (by decide) hb71 dX1_split_71 ?_
        refine gh_alen C o_b71 (by decide) dX1_split_74 ?_
        refine sv_iconst (v := 1) C dX1_split_75 (by decide) ?_
        refine sv_isub C dX1_split_76 ?_
        refine sv_icmp_ge (tgt := 102) C dX1_split_77 (by decide) (fun c77 => ?_) (fun c77 => ?_)
        · replace hf := sv_if_t c77 hf
          refine sv_sub (lv' := [(0, .ref a0), (1, .ref a1), (2, .int x2), (3, .int x3)]) [1, 2, 3, 4] rfl ?_
          exact w_X1_split_102 C hZ hR hN hT o_a0 o_a1 ih _ _ _ hf
        · replace hf := sv_if_f c77 hf
          refine sv_aload_n 1 C dX1_split_80 rfl rfl ?_
          obtain ⟨b81, hb81, hf⟩ := sv_bind_some hf
          have o_b81 : gh_is T b81 10 := gh_okr hT o_a0 rfl hb81
          refine gh_getr (d := 10) C fl_X1_17 o_a0 (by decide) (by decide) hb81 dX1_split_81 ?_
          refine sv_aload_n 1 C dX1_split_84 rfl rfl ?_
          refine gh_geti C fl_X1_25 o_a0 (by decide) (by decide) dX1_split_85 ?_
          refine sv_iload_n 4 C dX1_split_88 rfl rfl ?_
          refine sv_iconst (v := 1) C dX1_split_89 (by decide) ?_
          refine sv_iadd C dX1_split_90 ?_
          obtain ⟨g91, hf⟩ := sv_g_some hf
          refine gh_iast C o_b81 g91 dX1_split_91 ?_
          refine sv_aload_n 1 C dX1_split_92 rfl rfl ?_
          refine sv_dup C dX1_split_93 rfl ?_
          refine gh_geti C fl_X1_25 o_a0 (by decide) (by decide) dX1_split_94 ?_
          refine sv_iconst (v := 1) C dX1_split_97 (by decide) ?_
          refine sv_iadd C dX1_split_98 ?_
          refine gh_puti C fl_X1_25 o_a0 (by decide) (by decide) rfl rfl dX1_split_99 ?_
          refine sv_sub (lv' := [(0, .ref a0), (1, .ref a1), (2, .int x2), (3, .int x3)]) [1, 2, 3, 4] rfl ?_
          exact w_X1_split_102 C hZ hR hN hT o_a0 o_a1 ih _ _ _ hf
set_option maxHeartbeats 4000000 in
set_option maxRecDepth 100000 in
theorem w_X1_split_35 {E : sv_E} {X : sv_X} {sz : Nat} {q : gh_V} {T : gh_T} {a0 : Nat} {a1 : Nat} (C : sv_C E X cX1_split RX1 []) (hZ : sv_Z E X none none (gh_w E T q) sz 0 0) (hR : sv_R X = { frames := 1, cells := 0, slots := 0, locals := 21 }) (hN : sv_nL X = 5) (hT : gh_ok T) (o_a0 : gh_is T a0 1) (o_a1 : gh_is T a1 5) (V : gh_V) (s0 : Int32) (hf : f_X1_split_35 T a0 a1 V s0 = some q) : sv_J E X (gh_w E T V) sz 0 0 35 [(0, .ref a0), (1, .ref a1)] [.int s0] := by
  rw [f_X1_split_35] at hf
  refine sv_istore_n (lv' := [(2, .int s0), (0, .ref a0), (1, .ref a1)]) C dX1_split_35 rfl (by rw [hN]; decide) rfl ?_
  refine sv_iconst (v := 0) C dX1_split_36 (by decide) ?_
  refine sv_istore_n (lv' := [(3, .int 0), (2, .int s0), (0, .ref a0), (1, .ref a1)]) C dX1_split_37 rfl (by rw [hN]; decide) rfl ?_
  refine sv_sub (lv' := [(0, .ref a0), (1, .ref a1), (2, .int s0), (3, .int 0)]) [2, 3, 1, 0] rfl ?_
  exact w_X1_split_38 C hZ hR hN hT o_a0 o_a1 sv_fu _ _ _ hf
set_option maxHeartbeats 4000000 in
set_option maxRecDepth 100000 in
theorem m_X1_split (l : Launch) (E : sv_E) (T : gh_T) (sz : Nat) (V : gh_V) (a0 : Nat) (a1 : Nat) (q : gh_V) (hf : f_X1_split T V a0 a1 = some q) (hT : gh_ok T) (o_a0 : gh_is T a0 1) (o_a1 : gh_is T a1 5) : sv_Met l E yX1_split cX1_split 5 none 1 21 [] [.ref a0, .ref a1] (gh_w E T V) sz none (gh_w E T q) sz 0 0 := by
  refine sv_ofJ (by decide) (Nat.le_of_ble_eq_true rfl) ?_
  intro X hX hN hnm hR C hZ
  replace C : sv_C E X cX1_split RX1 [] := C
  show sv_J E X (gh_w E T V) sz 0 0 0 [(0, .ref a0), (1, .ref a1)] []
  rw [f_X1_split] at hf
  refine sv_aload_n 0 C dX1_split_0 rfl rfl ?_
  refine sv_iconst (v := 1) C dX1_split_1 (by decide) ?_
  refine gh_puti C fl_X1_21 o_a0 (by decide) (by decide) (by decide) (by decide) dX1_split_2 ?_
  refine sv_aload_n 0 C dX1_split_5 rfl rfl ?_
  refine sv_iconst (v := 1) C dX1_split_6 (by decide) ?_
  refine gh_puti C fl_X1_25 o_a0 (by decide) (by decide) rfl rfl dX1_split_7 ?_
  refine sv_aload_n 0 C dX1_split_10 rfl rfl ?_
  obtain ⟨b11, hb11, hf⟩ := sv_bind_some hf
  have o_b11 : gh_is T b11 10 := gh_okr hT o_a0 rfl hb11
  refine gh_getr (d := 10) C fl_X1_17 o_a0 (by decide) (by decide) hb11 dX1_split_11 ?_
  refine sv_iconst (v := 0) C dX1_split_14 (by decide) ?_
  refine sv_iconst (v := 0) C dX1_split_15 (by decide) ?_
  obtain ⟨g16, hf⟩ := sv_g_some hf
  refine gh_iast C o_b11 g16 dX1_split_16 ?_
  refine sv_aload_n 1 C dX1_split_17 rfl rfl ?_
  refine gh_geti C fl_X1_29 o_a1 (by decide) (by decide) dX1_split_18 ?_
  refine sv_bipush (v := 78) C dX1_split_21 (by decide) ?_
  refine sv_icmp_gt (tgt := 33) C dX1_split_23 (by decide) (fun c23 => ?_) (fun c23 => ?_)
  · replace hf := sv_if_t c23 hf
    refine sv_bipush (v := 78) C dX1_split_33 (by decide) ?_
    refine sv_sub (lv' := [(0, .ref a0), (1, .ref a1)]) [0, 1] rfl ?_
    exact w_X1_split_35 C hZ hR hN hT o_a0 o_a1 _ _ hf
  · replace hf := sv_if_f c23 hf
    refine sv_aload_n 1 C dX1_split_26 rfl rfl ?_
    refine gh_geti C fl_X1_29 o_a1 (by decide) (by decide) dX1_split_27 ?_
    refine sv_goto (tgt := 35) C dX1_split_30 (by decide) ?_
    refine sv_sub (lv' := [(0, .ref a0), (1, .ref a1)]) [0, 1] rfl ?_
    exact w_X1_split_35 C hZ hR hN hT o_a0 o_a1 _ _ hf
def f_X1_to (T : gh_T) (V : gh_V) (a0 : Nat) (x1 : Int32) : Option (Int32 × gh_V) :=
  if x1 < 0 then
    some (0, V)
  else
    if (V.1 2 a0) ≤ x1 then
      some (0, V)
    else
      (T.2.2.1 1 a0).bind (fun b13 =>
        sv_g (sv_inb (x1 + 1) (T.2.2.2.1 b13)) (
          some ((V.2 b13 (x1 + 1).toNatClampNeg) - 1, V)))
set_option maxHeartbeats 4000000 in
set_option maxRecDepth 100000 in
theorem m_X1_to (l : Launch) (E : sv_E) (T : gh_T) (sz : Nat) (V : gh_V) (a0 : Nat) (x1 : Int32) (q : Int32 × gh_V) (hf : f_X1_to T V a0 x1 = some q) (hT : gh_ok T) (o_a0 : gh_is T a0 1) : sv_Met l E yX1_to cX1_to 2 (some .int) 0 0 [] [.ref a0, .int x1] (gh_w E T V) sz (some (.int q.1)) (gh_w E T q.2) sz 0 0 := by
  refine sv_ofJ (by decide) (Nat.le_of_ble_eq_true rfl) ?_
  intro X hX hN hnm hR C hZ
  replace C : sv_C E X cX1_to RX1 [] := C
  show sv_J E X (gh_w E T V) sz 0 0 0 [(0, .ref a0), (1, .int x1)] []
  rw [f_X1_to] at hf
  refine sv_iload_n 1 C dX1_to_0 rfl rfl ?_
  refine sv_if_lt (tgt := 25) C dX1_to_1 (by decide) (fun c1 => ?_) (fun c1 => ?_)
  · replace hf := sv_if_t c1 hf
    refine sv_iconst (v := 0) C dX1_to_25 (by decide) ?_
    exact sv_iret C (by cases hf; exact hZ) dX1_to_26
  · replace hf := sv_if_f c1 hf
    refine sv_iload_n 1 C dX1_to_4 rfl rfl ?_
    refine sv_aload_n 0 C dX1_to_5 rfl rfl ?_
    refine gh_geti C fl_X1_25 o_a0 (by decide) (by decide) dX1_to_6 ?_
    refine sv_icmp_ge (tgt := 25) C dX1_to_9 (by decide) (fun c9 => ?_) (fun c9 => ?_)
    · replace hf := sv_if_t c9 hf
      refine sv_iconst (v := 0) C dX1_to_25 (by decide) ?_
      exact sv_iret C (by cases hf; exact hZ) dX1_to_26
    · replace hf := sv_if_f c9 hf
      refine sv_aload_n 0 C dX1_to_12 rfl rfl ?_
      obtain ⟨b13, hb13, hf⟩ := sv_bind_some hf
      have o_b13 : gh_is T b13 10 := gh_okr hT o_a0 rfl hb13
      refine gh_getr (d := 10) C fl_X1_17 o_a0 (by decide) (by decide) hb13 dX1_to_13 ?_
      refine sv_iload_n 1 C dX1_to_16 rfl rfl ?_
      refine sv_iconst (v := 1) C dX1_to_17 (by decide) ?_
      refine sv_iadd C dX1_to_18 ?_
      obtain ⟨g19, hf⟩ := sv_g_some hf
      refine gh_iald C o_b13 g19 dX1_to_19 ?_
      refine sv_iconst (v := 1) C dX1_to_20 (by decide) ?_
      refine sv_isub C dX1_to_21 ?_
      refine sv_goto (tgt := 26) C dX1_to_22 (by decide) ?_
      exact sv_iret C (by cases hf; exact hZ) dX1_to_26
def f_X1_isForm (T : gh_T) (V : gh_V) (a0 : Nat) (t1 : List Int32) : Option (Int32 × gh_V) :=
  (T.2.2.1 0 a0).bind (fun b1 =>
    sv_g (sv_inb (2 : Int32) (T.2.2.2.1 b1)) (
      (f_J0_charAt_5068e t1 0).bind (fun q8 =>
        if (V.2 b1 (2 : Int32).toNatClampNeg) = q8 then
          (T.2.2.1 0 a0).bind (fun b15 =>
            sv_g (sv_inb (3 : Int32) (T.2.2.2.1 b15)) (
              (f_J0_charAt_5068e t1 1).bind (fun q22 =>
                if (V.2 b15 (3 : Int32).toNatClampNeg) = q22 then
                  (T.2.2.1 0 a0).bind (fun b29 =>
                    sv_g (sv_inb (4 : Int32) (T.2.2.2.1 b29)) (
                      (f_J0_charAt_5068e t1 2).bind (fun q36 =>
                        if (V.2 b29 (4 : Int32).toNatClampNeg) = q36 then
                          some (1, V)
                        else
                          some (0, V))))
                else
                  some (0, V))))
        else
          some (0, V))))
set_option maxHeartbeats 4000000 in
set_option maxRecDepth 100000 in
theorem m_X1_isForm (l : Launch) (E : sv_E) (T : gh_T) (sz : Nat) (k1 v1 : Nat) (V : gh_V) (a0 : Nat) (t1 : List Int32) (q : Int32 × gh_V) (hf : f_X1_isForm T V a0 t1 = some q) (hT : gh_ok T) (o_a0 : gh_is T a0 1) : sv_Met l E yX1_isForm cX1_isForm 2 (some .boolean) 4 85 [(k1, v1, t1)] [.ref a0, .ref k1] (gh_w E T V) sz (some (.int q.1)) (gh_w E T q.2) sz 0 0 := by
  refine sv_ofJ (by decide) (Nat.le_of_ble_eq_true rfl) ?_
  intro X hX hN hnm hR C hZ
  replace C : sv_C E X cX1_isForm RX1 [(k1, v1, t1)] := C
  show sv_J E X (gh_w E T V) sz 0 0 0 [(0, .ref a0), (1, .ref k1)] []
  rw [f_X1_isForm] at hf
  refine sv_aload_n 0 C dX1_isForm_0 rfl rfl ?_
  obtain ⟨b1, hb1, hf⟩ := sv_bind_some hf
  have o_b1 : gh_is T b1 9 := gh_okr hT o_a0 rfl hb1
  refine gh_getr (d := 9) C fl_X1_11 o_a0 (by decide) (by decide) hb1 dX1_isForm_1 ?_
  refine sv_iconst (v := 2) C dX1_isForm_4 (by decide) ?_
  obtain ⟨g5, hf⟩ := sv_g_some hf
  refine gh_bald C o_b1 g5 dX1_isForm_5 ?_
  refine sv_aload_n 1 C dX1_isForm_6 rfl rfl ?_
  refine sv_iconst (v := 0) C dX1_isForm_7 (by decide) ?_
  obtain ⟨q8, hc8, hf⟩ := sv_bind_some hf
  refine ss_callV (v := v1) (t := t1) C mv_X1_53 (m_J0_charAt_5068e (sv_l X) E _ sz k1 v1 _ _ _ hc8) sv_sx1 (List.mem_cons_self) rfl rfl rfl (Nat.le_of_ble_eq_true rfl) ⟨by rw [hR]; decide, by rw [hR]; decide⟩ ⟨by rw [hR]; decide, by rw [hR]; decide⟩ dX1_isForm_8 ?_
  refine sv_icmp_ne (tgt := 46) C dX1_isForm_11 (by decide) (fun c11 => ?_) (fun c11 => ?_)
  · replace hf := sv_if_f c11 hf
    refine sv_iconst (v := 0) C dX1_isForm_46 (by decide) ?_
    exact sv_zret (ty := .boolean) C (by decide) (by cases hf; exact hZ) dX1_isForm_47
  · replace hf := sv_if_t c11 hf
    refine sv_aload_n 0 C dX1_isForm_14 rfl rfl ?_
    obtain ⟨b15, hb15, hf⟩ := sv_bind_some hf
    have o_b15 : gh_is T b15 9 := gh_okr hT o_a0 rfl hb15
    refine gh_getr (d := 9) C fl_X1_11 o_a0 (by decide) (by decide) hb15 dX1_isForm_15 ?_
    refine sv_iconst (v := 3) C dX1_isForm_18 (by decide) ?_
    obtain ⟨g19, hf⟩ := sv_g_some hf
    refine gh_bald C o_b15 g19 dX1_isForm_19 ?_
    refine sv_aload_n 1 C dX1_isForm_20 rfl rfl ?_
    refine sv_iconst (v := 1) C dX1_isForm_21 (by decide) ?_
    obtain ⟨q22, hc22, hf⟩ := sv_bind_some hf
    refine ss_callV (v := v1) (t := t1) C mv_X1_53 (m_J0_charAt_5068e (sv_l X) E _ sz k1 v1 _ _ _ hc22) sv_sx1 (List.mem_cons_self) rfl rfl rfl (Nat.le_of_ble_eq_true rfl) ⟨by rw [hR]; decide, by rw [hR]; decide⟩ ⟨by rw [hR]; decide, by rw [hR]; decide⟩ dX1_isForm_22 ?_
    refine sv_icmp_ne (tgt := 46) C dX1_isForm_25 (by decide) (fun c25 => ?_) (fun c25 => ?_)
    · replace hf := sv_if_f c25 hf
      refine sv_iconst (v := 0) C dX1_isForm_46 (by decide) ?_
      exact sv_zret (ty := .boolean) C (by decide) (by cases hf; exact hZ) dX1_isForm_47
    · replace hf := sv_if_t c25 hf
      refine sv_aload_n 0 C dX1_isForm_28 rfl rfl ?_
      obtain ⟨b29, hb29, hf⟩ := sv_bind_some hf
      have o_b29 : gh_is T b29 9 := gh_okr hT o_a0 rfl hb29
      refine gh_getr (d := 9) C fl_X1_11 o_a0 (by decide) (by decide) hb29 dX1_isForm_29 ?_
      refine sv_iconst (v := 4) C dX1_isForm_32 (by decide) ?_
      obtain ⟨g33, hf⟩ := sv_g_some hf
      refine gh_bald C o_b29 g33 dX1_isForm_33 ?_
      refine sv_aload_n 1 C dX1_isForm_34 rfl rfl ?_
      refine sv_iconst (v := 2) C dX1_isForm_35 (by decide) ?_
      obtain ⟨q36, hc36, hf⟩ := sv_bind_some hf
      refine ss_callV (v := v1) (t := t1) C mv_X1_53 (m_J0_charAt_5068e (sv_l X) E _ sz k1 v1 _ _ _ hc36) sv_sx1 (List.mem_cons_self) rfl rfl rfl (Nat.le_of_ble_eq_true rfl) ⟨by rw [hR]; decide, by rw [hR]; decide⟩ ⟨by rw [hR]; decide, by rw [hR]; decide⟩ dX1_isForm_36 ?_
      refine sv_icmp_ne (tgt := 46) C dX1_isForm_39 (by decide) (fun c39 => ?_) (fun c39 => ?_)
      · replace hf := sv_if_f c39 hf
        refine sv_iconst (v := 0) C dX1_isForm_46 (by decide) ?_
        exact sv_zret (ty := .boolean) C (by decide) (by cases hf; exact hZ) dX1_isForm_47
      · replace hf := sv_if_t c39 hf
        refine sv_iconst (v := 1) C dX1_isForm_42 (by decide) ?_
        refine sv_goto (tgt := 47) C dX1_isForm_43 (by decide) ?_
        exact sv_zret (ty := .boolean) C (by decide) (by cases hf; exact hZ) dX1_isForm_47
def f_X1_form_67 (T : gh_T) (a0 : Nat) (k13 : gh_V → Int32 → Int32 → Option (Int32 × gh_V)) (V : gh_V) (x1 : Int32) (x2 : Int32) (s0 : Int32) : Option (Int32 × gh_V) :=
  if s0 = 0 then
    some (0, V)
  else
    k13 V x1 (x2 + 1)
def f_X1_form_62 (T : gh_T) (a0 : Nat) (k13 : gh_V → Int32 → Int32 → Option (Int32 × gh_V)) (V : gh_V) (x1 : Int32) (x2 : Int32) : Option (Int32 × gh_V) :=
  f_X1_form_67 T a0 k13 V x1 x2 1
def f_X1_form_66 (T : gh_T) (a0 : Nat) (k13 : gh_V → Int32 → Int32 → Option (Int32 × gh_V)) (V : gh_V) (x1 : Int32) (x2 : Int32) : Option (Int32 × gh_V) :=
  f_X1_form_67 T a0 k13 V x1 x2 0
def f_X1_form_40 (T : gh_T) (a0 : Nat) (k13 : gh_V → Int32 → Int32 → Option (Int32 × gh_V)) (V : gh_V) (x1 : Int32) (x2 : Int32) : Option (Int32 × gh_V) :=
  (T.2.2.1 0 a0).bind (fun b41 =>
    sv_g (sv_inb x2 (T.2.2.2.1 b41)) (
      if (V.2 b41 x2.toNatClampNeg) < 48 then
        f_X1_form_66 T a0 k13 V x1 x2
      else
        (T.2.2.1 0 a0).bind (fun b52 =>
          sv_g (sv_inb x2 (T.2.2.2.1 b52)) (
            if 57 < (V.2 b52 x2.toNatClampNeg) then
              f_X1_form_66 T a0 k13 V x1 x2
            else
              f_X1_form_62 T a0 k13 V x1 x2))))
def f_X1_form_13 (T : gh_T) (a0 : Nat) : Nat → gh_V → Int32 → Int32 → Option (Int32 × gh_V)
  | 0, _, _, _ => none
  | n + 1, V, x1, x2 =>
    if 5 ≤ x2 then
      if x1 = 33 then
        (f_X1_isForm T V a0 ([86, 68, 77])).bind (fun q89 =>
          if q89.1 = 0 then
            (f_X1_isForm T q89.2 a0 ([86, 68, 79])).bind (fun q98 =>
              if q98.1 = 0 then
                some (0, q98.2)
              else
                some (4, q98.2))
          else
            some (4, q89.2))
      else
        (f_X1_isForm T V a0 ([71, 71, 65])).bind (fun q113 =>
          if q113.1 = 0 then
            (f_X1_isForm T q113.2 a0 ([82, 77, 67])).bind (fun q124 =>
              if q124.1 = 0 then
                (f_X1_isForm T q124.2 a0 ([86, 84, 71])).bind (fun q135 =>
                  if q135.1 = 0 then
                    some (0, q135.2)
                  else
                    some (3, q135.2))
              else
                some (2, q124.2))
          else
            some (1, q113.2))
    else
      (T.2.2.1 0 a0).bind (fun b19 =>
        sv_g (sv_inb x2 (T.2.2.2.1 b19)) (
          if (V.2 b19 x2.toNatClampNeg) < 65 then
            f_X1_form_40 T a0 (f_X1_form_13 T a0 n) V x1 x2
          else
            (T.2.2.1 0 a0).bind (fun b30 =>
              sv_g (sv_inb x2 (T.2.2.2.1 b30)) (
                if (V.2 b30 x2.toNatClampNeg) ≤ 90 then
                  f_X1_form_62 T a0 (f_X1_form_13 T a0 n) V x1 x2
                else
                  f_X1_form_40 T a0 (f_X1_form_13 T a0 n) V x1 x2))))
def f_X1_form (T : gh_T) (V : gh_V) (a0 : Nat) (x1 : Int32) : Option (Int32 × gh_V) :=
  (f_X1_to T V a0 0).bind (fun q2 =>
    if q2.1 = 5 then
      f_X1_form_13 T a0 sv_fu q2.2 x1 0
    else
      some (0, q2.2))
set_option maxHeartbeats 4000000 in
set_option maxRecDepth 100000 in
theorem w_X1_form_67 {E : sv_E} {X : sv_X} {sz : Nat} {q : Int32 × gh_V} {T : gh_T} {a0 : Nat} (C : sv_C E X cX1_form RX1 []) (hZ : sv_Z E X (some .int) (some (.int q.1)) (gh_w E T q.2) sz 0 0) (hR : sv_R X = { frames := 5, cells := 0, slots := 0, locals := 106 }) (hN : sv_nL X = 4) (hT : gh_ok T) (o_a0 : gh_is T a0 1) {k13 : gh_V → Int32 → Int32 → Option (Int32 × gh_V)} (hk13 : ∀ (V : gh_V) (x1 : Int32) (x2 : Int32), k13 V x1 x2 = some q → sv_J E X (gh_w E T V) sz 0 0 13 [(0, .ref a0), (1, .int x1), (2, .int x2)] []) (V : gh_V) (x1 : Int32) (x2 : Int32) (s0 : Int32) (hf : f_X1_form_67 T a0 k13 V x1 x2 s0 = some q) : sv_J E X (gh_w E T V) sz 0 0 67 [(0, .ref a0), (1, .int x1), (2, .int x2)] [.int s0] := by
  rw [f_X1_form_67] at hf
  refine sv_istore_n (lv' := [(3, .int s0), (0, .ref a0), (1, .int x1), (2, .int x2)]) C dX1_form_67 rfl (by rw [hN]; decide) rfl ?_
  refine sv_iload_n 0 C dX1_form_68 rfl rfl ?_
  refine sv_if_ne (tgt := 74) C dX1_form_69 (by decide) (fun c69 => ?_) (fun c69 => ?_)
  · replace hf := sv_if_f c69 hf
    refine sv_iinc (v := x2 + 1) (lv' := [(2, .int (x2 + 1)), (3, .int s0), (0, .ref a0), (1, .int x1)]) 3 C dX1_form_74 rfl rfl (by rw [hN]; decide) rfl ?_
    refine sv_goto (tgt := 13) C dX1_form_77 (by decide) ?_
    refine sv_sub (lv' := [(0, .ref a0), (1, .int x1), (2, .int (x2 + 1))]) [2, 3, 0] rfl ?_
    exact hk13 _ _ _ hf
  · replace hf := sv_if_t c69 hf
    refine sv_iconst (v := 0) C dX1_form_72 (by decide) ?_
    exact sv_iret C (by cases hf; exact hZ) dX1_form_73
set_option maxHeartbeats 4000000 in
set_option maxRecDepth 100000 in
theorem w_X1_form_62 {E : sv_E} {X : sv_X} {sz : Nat} {q : Int32 × gh_V} {T : gh_T} {a0 : Nat} (C : sv_C E X cX1_form RX1 []) (hZ : sv_Z E X (some .int) (some (.int q.1)) (gh_w E T q.2) sz 0 0) (hR : sv_R X = { frames := 5, cells := 0, slots := 0, locals := 106 }) (hN : sv_nL X = 4) (hT : gh_ok T) (o_a0 : gh_is T a0 1) {k13 : gh_V → Int32 → Int32 → Option (Int32 × gh_V)} (hk13 : ∀ (V : gh_V) (x1 : Int32) (x2 : Int32), k13 V x1 x2 = some q → sv_J E X (gh_w E T V) sz 0 0 13 [(0, .ref a0), (1, .int x1), (2, .int x2)] []) (V : gh_V) (x1 : Int32) (x2 : Int32) (hf : f_X1_form_62 T a0 k13 V x1 x2 = some q) : sv_J E X (gh_w E T V) sz 0 0 62 [(0, .ref a0), (1, .int x1), (2, .int x2)] [] := by
  rw [f_X1_form_62] at hf
  refine sv_iconst (v := 1) C dX1_form_62 (by decide) ?_
  refine sv_goto (tgt := 67) C dX1_form_63 (by decide) ?_
  refine sv_sub (lv' := [(0, .ref a0), (1, .int x1), (2, .int x2)]) [0, 1, 2] rfl ?_
  exact w_X1_form_67 C hZ hR hN hT o_a0 hk13 _ _ _ _ hf
set_option maxHeartbeats 4000000 in
set_option maxRecDepth 100000 in
theorem w_X1_form_66 {E : sv_E} {X : sv_X} {sz : Nat} {q : Int32 × gh_V} {T : gh_T} {a0 : Nat} (C : sv_C E X cX1_form RX1 []) (hZ : sv_Z E X (some .int) (some (.int q.1)) (gh_w E T q.2) sz 0 0) (hR : sv_R X = { frames := 5, cells := 0, slots := 0, locals := 106 }) (hN : sv_nL X = 4) (hT : gh_ok T) (o_a0 : gh_is T a0 1) {k13 : gh_V → Int32 → Int32 → Option (Int32 × gh_V)} (hk13 : ∀ (V : gh_V) (x1 : Int32) (x2 : Int32), k13 V x1 x2 = some q → sv_J E X (gh_w E T V) sz 0 0 13 [(0, .ref a0), (1, .int x1), (2, .int x2)] []) (V : gh_V) (x1 : Int32) (x2 : Int32) (hf : f_X1_form_66 T a0 k13 V x1 x2 = some q) : sv_J E X (gh_w E T V) sz 0 0 66 [(0, .ref a0), (1, .int x1), (2, .int x2)] [] := by
  rw [f_X1_form_66] at hf
  refine sv_iconst (v := 0) C dX1_form_66 (by decide) ?_
  refine sv_sub (lv' := [(0, .ref a0), (1, .int x1), (2, .int x2)]) [0, 1, 2] rfl ?_
  exact w_X1_form_67 C hZ hR hN hT o_a0 hk13 _ _ _ _ hf
set_option maxHeartbeats 4000000 in
set_option maxRecDepth 100000 in
theorem w_X1_form_40 {E : sv_E} {X : sv_X} {sz : Nat} {q : Int32 × gh_V} {T : gh_T} {a0 : Nat} (C : sv_C E X cX1_form RX1 []) (hZ : sv_Z E X (some .int) (some (.int q.1)) (gh_w E T q.2) sz 0 0) (hR : sv_R X = { frames := 5, cells := 0, slots := 0, locals := 106 }) (hN : sv_nL X = 4) (hT : gh_ok T) (o_a0 : gh_is T a0 1) {k13 : gh_V → Int32 → Int32 → Option (Int32 × gh_V)} (hk13 : ∀ (V : gh_V) (x1 : Int32) (x2 : Int32), k13 V x1 x2 = some q → sv_J E X (gh_w E T V) sz 0 0 13 [(0, .ref a0), (1, .int x1), (2, .int x2)] []) (V : gh_V) (x1 : Int32) (x2 : Int32) (hf : f_X1_form_40 T a0 k13 V x1 x2 = some q) : sv_J E X (gh_w E T V) sz 0 0 40 [(0, .ref a0), (1, .int x1), (2, .int x2)] [] := by
  rw [f_X1_form_40] at hf
  refine sv_aload_n 0 C dX1_form_40 rfl rfl ?_
  obtain ⟨b41, hb41, hf⟩ := sv_bind_some hf
  have o_b41 : gh_is T b41 9 := gh_okr hT o_a0 rfl hb41
  refine gh_getr (d := 9) C fl_X1_11 o_a0 (by decide) (by decide) hb41 dX1_form_41 ?_
  refine sv_iload_n 2 C dX1_form_44 rfl rfl ?_
  obtain ⟨g45, hf⟩ := sv_g_some hf
  refine gh_bald C o_b41 g45 dX1_form_45 ?_
  refine sv_bipush (v := 48) C dX1_form_46 (by decide) ?_
  refine sv_icmp_lt (tgt := 66) C dX1_form_48 (by decide) (fun c48 => ?_) (fun c48 => ?_)
  · replace hf := sv_if_t c48 hf
    refine sv_sub (lv' := [(0, .ref a0), (1, .int x1), (2, .int x2)]) [0, 1, 2] rfl ?_
    exact w_X1_form_66 C hZ hR hN hT o_a0 hk13 _ _ _ hf
  · replace hf := sv_if_f c48 hf
    refine sv_aload_n 0 C dX1_form_51 rfl rfl ?_
    obtain ⟨b52, hb52, hf⟩ := sv_bind_some hf
    have o_b52 : gh_is T b52 9 := gh_okr hT o_a0 rfl hb52
    refine gh_getr (d := 9) C fl_X1_11 o_a0 (by decide) (by decide) hb52 dX1_form_52 ?_
    refine sv_iload_n 2 C dX1_form_55 rfl rfl ?_
    obtain ⟨g56, hf⟩ := sv_g_some hf
    refine gh_bald C o_b52 g56 dX1_form_56 ?_
    refine sv_bipush (v := 57) C dX1_form_57 (by decide) ?_
    refine sv_icmp_gt (tgt := 66) C dX1_form_59 (by decide) (fun c59 => ?_) (fun c59 => ?_)
    · replace hf := sv_if_t c59 hf
      refine sv_sub (lv' := [(0, .ref a0), (1, .int x1), (2, .int x2)]) [0, 1, 2] rfl ?_
      exact w_X1_form_66 C hZ hR hN hT o_a0 hk13 _ _ _ hf
    · replace hf := sv_if_f c59 hf
      refine sv_sub (lv' := [(0, .ref a0), (1, .int x1), (2, .int x2)]) [0, 1, 2] rfl ?_
      exact w_X1_form_62 C hZ hR hN hT o_a0 hk13 _ _ _ hf
set_option maxHeartbeats 4000000 in
set_option maxRecDepth 100000 in
theorem w_X1_form_13 {E : sv_E} {X : sv_X} {sz : Nat} {q : Int32 × gh_V} {T : gh_T} {a0 : Nat} (C : sv_C E X cX1_form RX1 []) (hZ : sv_Z E X (some .int) (some (.int q.1)) (gh_w E T q.2) sz 0 0) (hR : sv_R X = { frames := 5, cells := 0, slots := 0, locals := 106 }) (hN : sv_nL X = 4) (hT : gh_ok T) (o_a0 : gh_is T a0 1) : ∀ (n : Nat) (V : gh_V) (x1 : Int32) (x2 : Int32), f_X1_form_13 T a0 n V x1 x2 = some q → sv_J E X (gh_w E T V) sz 0 0 13 [(0, .ref a0), (1, .int x1), (2, .int x2)] [] := by
  intro n
  induction n with
  | zero =>
    intro V x1 x2 hf
    rw [f_X1_form_13] at hf
    cases hf
  | succ n ih =>
    intro V x1 x2 hf
    rw [f_X1_form_13] at hf
    refine sv_iload_n 2 C dX1_form_13 rfl rfl ?_
    refine sv_iconst (v := 5) C dX1_form_14 (by decide) ?_
    refine sv_icmp_ge (tgt := 80) C dX1_form_15 (by decide) (fun c15 => ?_) (fun c15 => ?_)
    · replace hf := sv_if_t c15 hf
      refine sv_iload_n 1 C dX1_form_80 rfl rfl ?_
      refine sv_bipush (v := 33) C dX1_form_81 (by decide) ?_
      refine sv_icmp_ne (tgt := 110) C dX1_form_83 (by decide) (fun c83 => ?_) (fun c83 => ?_)
      · replace hf := sv_if_f c83 hf
        refine sv_aload_n 0 C dX1_form_110 rfl rfl ?_
        refine sv_ldcS (i := 14) C (by rfl) dX1_form_111 ?_
        obtain ⟨q113, hc113, hf⟩ := sv_bind_some hf
        refine gh_callV0 C mv_X1_41 (m_X1_isForm (sv_l X) E T sz (E.2.2.1 14) (E.2.2.2.1 14) _ _ _ _ hc113 hT o_a0) (sv_sxi (i := 14) (by rfl)) o_a0 (by decide) rfl rfl rfl (Nat.le_of_ble_eq_true rfl) ⟨by rw [hR]; decide, by rw [hR]; decide⟩ ⟨by rw [hR]; decide, by rw [hR]; decide⟩ dX1_form_113 ?_
        refine sv_if_eq (tgt := 121) C dX1_form_116 (by decide) (fun c116 => ?_) (fun c116 => ?_)
        · replace hf := sv_if_t c116 hf
          refine sv_aload_n 0 C dX1_form_121 rfl rfl ?_
          refine sv_ldcS (i := 15) C (by rfl) dX1_form_122 ?_
          obtain ⟨q124, hc124, hf⟩ := sv_bind_some hf
          refine gh_callV0 C mv_X1_41 (m_X1_isForm (sv_l X) E T sz (E.2.2.1 15) (E.2.2.2.1 15) _ _ _ _ hc124 hT o_a0) (sv_sxi (i := 15) (by rfl)) o_a0 (by decide) rfl rfl rfl (Nat.le_of_ble_eq_true rfl) ⟨by rw [hR]; decide, by rw [hR]; decide⟩ ⟨by rw [hR]; decide, by rw [hR]; decide⟩ dX1_form_124 ?_
          refine sv_if_eq (tgt := 132) C dX1_form_127 (by decide) (fun c127 => ?_) (fun c127 => ?_)
          · replace hf := sv_if_t c127 hf
            refine sv_aload_n 0 C dX1_form_132 rfl rfl ?_
            refine sv_ldcS (i := 16) C (by rfl) dX1_form_133 ?_
            obtain ⟨q135, hc135, hf⟩ := sv_bind_some hf
            refine gh_callV0 C mv_X1_41 (m_X1_isForm (sv_l X) E T sz (E.2.2.1 16) (E.2.2.2.1 16) _ _ _ _ hc135 hT o_a0) (sv_sxi (i := 16) (by rfl)) o_a0 (by decide) rfl rfl rfl (Nat.le_of_ble_eq_true rfl) ⟨by rw [hR]; decide, by rw [hR]; decide⟩ ⟨by rw [hR]; decide, by rw [hR]; decide⟩ dX1_form_135 ?_
            refine sv_if_eq (tgt := 145) C dX1_form_138 (by decide) (fun c138 => ?_) (fun c138 => ?_)
            · replace hf := sv_if_t c138 hf
              refine sv_iconst (v := 0) C dX1_form_145 (by decide) ?_
              exact sv_iret C (by cases hf; exact hZ) dX1_form_146
            · replace hf := sv_if_f c138 hf
              refine sv_iconst (v := 3) C dX1_form_141 (by decide) ?_
              refine sv_goto (tgt := 146) C dX1_form_142 (by decide) ?_
              exact sv_iret C (by cases hf; exact hZ) dX1_form_146
          · replace hf := sv_if_f c127 hf
            refine sv_iconst (v := 2) C dX1_form_130 (by decide) ?_
            exact sv_iret C (by cases hf; exact hZ) dX1_form_131
        · replace hf := sv_if_f c116 hf
          refine sv_iconst (v := 1) C dX1_form_119 (by decide) ?_
          exact sv_iret C (by cases hf; exact hZ) dX1_form_120
      · replace hf := sv_if_t c83 hf
        refine sv_aload_n 0 C dX1_form_86 rfl rfl ?_
        refine sv_ldcS (i := 12) C (by rfl) dX1_form_87 ?_
        obtain ⟨q89, hc89, hf⟩ := sv_bind_some hf
        refine gh_callV0 C mv_X1_41 (m_X1_isForm (sv_l X) E T sz (E.2.2.1 12) (E.2.2.2.1 12) _ _ _ _ hc89 hT o_a0) (sv_sxi (i := 12) (by rfl)) o_a0 (by decide) rfl rfl rfl (Nat.le_of_ble_eq_true rfl) ⟨by rw [hR]; decide, by rw [hR]; decide⟩ ⟨by rw [hR]; decide, by rw [hR]; decide⟩ dX1_form_89 ?_
        refine sv_if_ne (tgt := 104) C dX1_form_92 (by decide) (fun c92 => ?_) (fun c92 => ?_)
        · replace hf := sv_if_f c92 hf
          refine sv_iconst (v := 4) C dX1_form_104 (by decide) ?_
          refine sv_goto (tgt := 109) C dX1_form_105 (by decide) ?_
          exact sv_iret C (by cases hf; exact hZ) dX1_form_109
        · replace hf := sv_if_t c92 hf
          refine sv_aload_n 0 C dX1_form_95 rfl rfl ?_
          refine sv_ldcS (i := 13) C (by rfl) dX1_form_96 ?_
          obtain ⟨q98, hc98, hf⟩ := sv_bind_some hf
          refine gh_callV0 C mv_X1_41 (m_X1_isForm (sv_l X) E T sz (E.2.2.1 13) (E.2.2.2.1 13) _ _ _ _ hc98 hT o_a0) (sv_sxi (i := 13) (by rfl)) o_a0 (by decide) rfl rfl rfl (Nat.le_of_ble_eq_true rfl) ⟨by rw [hR]; decide, by rw [hR]; decide⟩ ⟨by rw [hR]; decide, by rw [hR]; decide⟩ dX1_form_98 ?_
          refine sv_if_eq (tgt := 108) C dX1_form_101 (by decide) (fun c101 => ?_) (fun c101 => ?_)
          · replace hf := sv_if_t c101 hf
            refine sv_iconst (v := 0) C dX1_form_108 (by decide) ?_
            exact sv_iret C (by cases hf; exact hZ) dX1_form_109
          · replace hf := sv_if_f c101 hf
            refine sv_iconst (v := 4) C dX1_form_104 (by decide) ?_
            refine sv_goto (tgt := 109) C dX1_form_105 (by decide) ?_
            exact sv_iret C (by cases hf; exact hZ) dX1_form_109
    · replace hf := sv_if_f c15 hf
      refine sv_aload_n 0 C dX1_form_18 rfl rfl ?_
      obtain ⟨b19, hb19, hf⟩ := sv_bind_some hf
      have o_b19 : gh_is T b19 9 := gh_okr hT o_a0 rfl hb19
      refine gh_getr (d := 9) C fl_X1_11 o_a0 (by decide) (by decide) hb19 dX1_form_19 ?_
      refine sv_iload_n 2 C dX1_form_22 rfl rfl ?_
      obtain ⟨g23, hf⟩ := sv_g_some hf
      refine gh_bald C o_b19 g23 dX1_form_23 ?_
      refine sv_bipush (v := 65) C dX1_form_24 (by decide) ?_
      refine sv_icmp_lt (tgt := 40) C dX1_form_26 (by decide) (fun c26 => ?_) (fun c26 => ?_)
      · replace hf := sv_if_t c26 hf
        refine sv_sub (lv' := [(0, .ref a0), (1, .int x1), (2, .int x2)]) [0, 1, 2] rfl ?_
        exact w_X1_form_40 C hZ hR hN hT o_a0 ih _ _ _ hf
      · replace hf := sv_if_f c26 hf
        refine sv_aload_n 0 C dX1_form_29 rfl rfl ?_
        obtain ⟨b30, hb30, hf⟩ := sv_bind_some hf
        have o_b30 : gh_is T b30 9 := gh_okr hT o_a0 rfl hb30
        refine gh_getr (d := 9) C fl_X1_11 o_a0 (by decide) (by decide) hb30 dX1_form_30 ?_
        refine sv_iload_n 2 C dX1_form_33 rfl rfl ?_
        obtain ⟨g34, hf⟩ := sv_g_some hf
        refine gh_bald C o_b30 g34 dX1_form_34 ?_
        refine sv_bipush (v := 90) C dX1_form_35 (by decide) ?_
        refine sv_icmp_le (tgt := 62) C dX1_form_37 (by decide) (fun c37 => ?_) (fun c37 => ?_)
        · replace hf := sv_if_t c37 hf
          refine sv_sub (lv' := [(0, .ref a0), (1, .int x1), (2, .int x2)]) [0, 1, 2] rfl ?_
          exact w_X1_form_62 C hZ hR hN hT o_a0 ih _ _ _ hf
        · replace hf := sv_if_f c37 hf
          refine sv_sub (lv' := [(0, .ref a0), (1, .int x1), (2, .int x2)]) [0, 1, 2] rfl ?_
          exact w_X1_form_40 C hZ hR hN hT o_a0 ih _ _ _ hf
set_option maxHeartbeats 4000000 in
set_option maxRecDepth 100000 in
theorem m_X1_form (l : Launch) (E : sv_E) (T : gh_T) (sz : Nat) (V : gh_V) (a0 : Nat) (x1 : Int32) (q : Int32 × gh_V) (hf : f_X1_form T V a0 x1 = some q) (hT : gh_ok T) (o_a0 : gh_is T a0 1) : sv_Met l E yX1_form cX1_form 4 (some .int) 5 106 [] [.ref a0, .int x1] (gh_w E T V) sz (some (.int q.1)) (gh_w E T q.2) sz 0 0 := by
  refine sv_ofJ (by decide) (Nat.le_of_ble_eq_true rfl) ?_
  intro X hX hN hnm hR C hZ
  replace C : sv_C E X cX1_form RX1 [] := C
  show sv_J E X (gh_w E T V) sz 0 0 0 [(0, .ref a0), (1, .int x1)] []
  rw [f_X1_form] at hf
  refine sv_aload_n 0 C dX1_form_0 rfl rfl ?_
  refine sv_iconst (v := 0) C dX1_form_1 (by decide) ?_
  obtain ⟨q2, hc2, hf⟩ := sv_bind_some hf
  refine gh_callV0 C mv_X1_36 (m_X1_to (sv_l X) E T sz _ _ _ _ hc2 hT o_a0) sv_sx0 o_a0 (by decide) rfl rfl rfl (Nat.le_of_ble_eq_true rfl) ⟨by rw [hR]; decide, by rw [hR]; decide⟩ ⟨by rw [hR]; decide, by rw [hR]; decide⟩ dX1_form_2 ?_
  refine sv_iconst (v := 5) C dX1_form_5 (by decide) ?_
  refine sv_icmp_eq (tgt := 11) C dX1_form_6 (by decide) (fun c6 => ?_) (fun c6 => ?_)
  · replace hf := sv_if_t c6 hf
    refine sv_iconst (v := 0) C dX1_form_11 (by decide) ?_
    refine sv_istore_n (lv' := [(2, .int 0), (0, .ref a0), (1, .int x1)]) C dX1_form_12 rfl (by rw [hN]; decide) rfl ?_
    refine sv_sub (lv' := [(0, .ref a0), (1, .int x1), (2, .int 0)]) [1, 2, 0] rfl ?_
    exact w_X1_form_13 C hZ hR hN hT o_a0 sv_fu _ _ _ hf
  · replace hf := sv_if_f c6 hf
    refine sv_iconst (v := 0) C dX1_form_9 (by decide) ?_
    exact sv_iret C (by cases hf; exact hZ) dX1_form_10
def f_X1_from (T : gh_T) (V : gh_V) (a0 : Nat) (x1 : Int32) : Option (Int32 × gh_V) :=
  if x1 < 0 then
    some (0, V)
  else
    if (V.1 2 a0) ≤ x1 then
      some (0, V)
    else
      (T.2.2.1 1 a0).bind (fun b13 =>
        sv_g (sv_inb x1 (T.2.2.2.1 b13)) (
          some (V.2 b13 x1.toNatClampNeg, V)))
set_option maxHeartbeats 4000000 in
set_option maxRecDepth 100000 in
theorem m_X1_from (l : Launch) (E : sv_E) (T : gh_T) (sz : Nat) (V : gh_V) (a0 : Nat) (x1 : Int32) (q : Int32 × gh_V) (hf : f_X1_from T V a0 x1 = some q) (hT : gh_ok T) (o_a0 : gh_is T a0 1) : sv_Met l E yX1_from cX1_from 2 (some .int) 0 0 [] [.ref a0, .int x1] (gh_w E T V) sz (some (.int q.1)) (gh_w E T q.2) sz 0 0 := by
  refine sv_ofJ (by decide) (Nat.le_of_ble_eq_true rfl) ?_
  intro X hX hN hnm hR C hZ
  replace C : sv_C E X cX1_from RX1 [] := C
  show sv_J E X (gh_w E T V) sz 0 0 0 [(0, .ref a0), (1, .int x1)] []
  rw [f_X1_from] at hf
  refine sv_iload_n 1 C dX1_from_0 rfl rfl ?_
  refine sv_if_lt (tgt := 21) C dX1_from_1 (by decide) (fun c1 => ?_) (fun c1 => ?_)
  · replace hf := sv_if_t c1 hf
    refine sv_iconst (v := 0) C dX1_from_21 (by decide) ?_
    exact sv_iret C (by cases hf; exact hZ) dX1_from_22
  · replace hf := sv_if_f c1 hf
    refine sv_iload_n 1 C dX1_from_4 rfl rfl ?_
    refine sv_aload_n 0 C dX1_from_5 rfl rfl ?_
    refine gh_geti C fl_X1_25 o_a0 (by decide) (by decide) dX1_from_6 ?_
    refine sv_icmp_ge (tgt := 21) C dX1_from_9 (by decide) (fun c9 => ?_) (fun c9 => ?_)
    · replace hf := sv_if_t c9 hf
      refine sv_iconst (v := 0) C dX1_from_21 (by decide) ?_
      exact sv_iret C (by cases hf; exact hZ) dX1_from_22
    · replace hf := sv_if_f c9 hf
      refine sv_aload_n 0 C dX1_from_12 rfl rfl ?_
      obtain ⟨b13, hb13, hf⟩ := sv_bind_some hf
      have o_b13 : gh_is T b13 10 := gh_okr hT o_a0 rfl hb13
      refine gh_getr (d := 10) C fl_X1_17 o_a0 (by decide) (by decide) hb13 dX1_from_13 ?_
      refine sv_iload_n 1 C dX1_from_16 rfl rfl ?_
      obtain ⟨g17, hf⟩ := sv_g_some hf
      refine gh_iald C o_b13 g17 dX1_from_17 ?_
      refine sv_goto (tgt := 22) C dX1_from_18 (by decide) ?_
      exact sv_iret C (by cases hf; exact hZ) dX1_from_22
def f_X1_isEmpty (T : gh_T) (V : gh_V) (a0 : Nat) (x1 : Int32) : Option (Int32 × gh_V) :=
  (f_X1_from T V a0 x1).bind (fun q2 =>
    (f_X1_to T q2.2 a0 x1).bind (fun q7 =>
      if q2.1 < q7.1 then
        some (0, q7.2)
      else
        some (1, q7.2)))
set_option maxHeartbeats 4000000 in
set_option maxRecDepth 100000 in
theorem m_X1_isEmpty (l : Launch) (E : sv_E) (T : gh_T) (sz : Nat) (V : gh_V) (a0 : Nat) (x1 : Int32) (q : Int32 × gh_V) (hf : f_X1_isEmpty T V a0 x1 = some q) (hT : gh_ok T) (o_a0 : gh_is T a0 1) : sv_Met l E yX1_isEmpty cX1_isEmpty 2 (some .boolean) 1 21 [] [.ref a0, .int x1] (gh_w E T V) sz (some (.int q.1)) (gh_w E T q.2) sz 0 0 := by
  refine sv_ofJ (by decide) (Nat.le_of_ble_eq_true rfl) ?_
  intro X hX hN hnm hR C hZ
  replace C : sv_C E X cX1_isEmpty RX1 [] := C
  show sv_J E X (gh_w E T V) sz 0 0 0 [(0, .ref a0), (1, .int x1)] []
  rw [f_X1_isEmpty] at hf
  refine sv_aload_n 0 C dX1_isEmpty_0 rfl rfl ?_
  refine sv_iload_n 1 C dX1_isEmpty_1 rfl rfl ?_
  obtain ⟨q2, hc2, hf⟩ := sv_bind_some hf
  refine gh_callV0 C mv_X1_59 (m_X1_from (sv_l X) E T sz _ _ _ _ hc2 hT o_a0) sv_sx0 o_a0 (by decide) rfl rfl rfl (Nat.le_of_ble_eq_true rfl) ⟨by rw [hR]; decide, by rw [hR]; decide⟩ ⟨by rw [hR]; decide, by rw [hR]; decide⟩ dX1_isEmpty_2 ?_
  refine sv_aload_n 0 C dX1_isEmpty_5 rfl rfl ?_
  refine sv_iload_n 1 C dX1_isEmpty_6 rfl rfl ?_
  obtain ⟨q7, hc7, hf⟩ := sv_bind_some hf
  refine gh_callV0 C mv_X1_36 (m_X1_to (sv_l X) E T sz _ _ _ _ hc7 hT o_a0) sv_sx0 o_a0 (by decide) rfl rfl rfl (Nat.le_of_ble_eq_true rfl) ⟨by rw [hR]; decide, by rw [hR]; decide⟩ ⟨by rw [hR]; decide, by rw [hR]; decide⟩ dX1_isEmpty_7 ?_
  refine sv_icmp_lt (tgt := 17) C dX1_isEmpty_10 (by decide) (fun c10 => ?_) (fun c10 => ?_)
  · replace hf := sv_if_t c10 hf
    refine sv_iconst (v := 0) C dX1_isEmpty_17 (by decide) ?_
    exact sv_zret (ty := .boolean) C (by decide) (by cases hf; exact hZ) dX1_isEmpty_18
  · replace hf := sv_if_f c10 hf
    refine sv_iconst (v := 1) C dX1_isEmpty_13 (by decide) ?_
    refine sv_goto (tgt := 18) C dX1_isEmpty_14 (by decide) ?_
    exact sv_zret (ty := .boolean) C (by decide) (by cases hf; exact hZ) dX1_isEmpty_18
def f_X1_at (T : gh_T) (V : gh_V) (a0 : Nat) (x1 : Int32) : Option (Int32 × gh_V) :=
  if x1 < 0 then
    some ((-2147483648), V)
  else
    (T.2.2.1 0 a0).bind (fun b6 =>
      if (Int32.ofNat (T.2.2.2.1 b6)) ≤ x1 then
        some ((-2147483648), V)
      else
        (T.2.2.1 0 a0).bind (fun b14 =>
          sv_g (sv_inb x1 (T.2.2.2.1 b14)) (
            some (V.2 b14 x1.toNatClampNeg, V))))
set_option maxHeartbeats 4000000 in
set_option maxRecDepth 100000 in
theorem m_X1_at (l : Launch) (E : sv_E) (T : gh_T) (sz : Nat) (V : gh_V) (a0 : Nat) (x1 : Int32) (q : Int32 × gh_V) (hf : f_X1_at T V a0 x1 = some q) (hT : gh_ok T) (o_a0 : gh_is T a0 1) : sv_Met l E yX1_at cX1_at 2 (some .int) 0 0 [] [.ref a0, .int x1] (gh_w E T V) sz (some (.int q.1)) (gh_w E T q.2) sz 0 0 := by
  refine sv_ofJ (by decide) (Nat.le_of_ble_eq_true rfl) ?_
  intro X hX hN hnm hR C hZ
  replace C : sv_C E X cX1_at RX1 [] := C
  show sv_J E X (gh_w E T V) sz 0 0 0 [(0, .ref a0), (1, .int x1)] []
  rw [f_X1_at] at hf
  refine sv_iload_n 1 C dX1_at_0 rfl rfl ?_
  refine sv_if_lt (tgt := 22) C dX1_at_1 (by decide) (fun c1 => ?_) (fun c1 => ?_)
  · replace hf := sv_if_t c1 hf
    refine sv_ldc C kw_81 dX1_at_22 ?_
    exact sv_iret C (by cases hf; exact hZ) dX1_at_24
  · replace hf := sv_if_f c1 hf
    refine sv_iload_n 1 C dX1_at_4 rfl rfl ?_
    refine sv_aload_n 0 C dX1_at_5 rfl rfl ?_
    obtain ⟨b6, hb6, hf⟩ := sv_bind_some hf
    have o_b6 : gh_is T b6 9 := gh_okr hT o_a0 rfl hb6
    refine gh_getr (d := 9) C fl_X1_11 o_a0 (by decide) (by decide) hb6 dX1_at_6 ?_
    refine gh_alen C o_b6 (by decide) dX1_at_9 ?_
    refine sv_icmp_ge (tgt := 22) C dX1_at_10 (by decide) (fun c10 => ?_) (fun c10 => ?_)
    · replace hf := sv_if_t c10 hf
      refine sv_ldc C kw_81 dX1_at_22 ?_
      exact sv_iret C (by cases hf; exact hZ) dX1_at_24
    · replace hf := sv_if_f c10 hf
      refine sv_aload_n 0 C dX1_at_13 rfl rfl ?_
      obtain ⟨b14, hb14, hf⟩ := sv_bind_some hf
      have o_b14 : gh_is T b14 9 := gh_okr hT o_a0 rfl hb14
      refine gh_getr (d := 9) C fl_X1_11 o_a0 (by decide) (by decide) hb14 dX1_at_14 ?_
      refine sv_iload_n 1 C dX1_at_17 rfl rfl ?_
      obtain ⟨g18, hf⟩ := sv_g_some hf
      refine gh_bald C o_b14 g18 dX1_at_18 ?_
      refine sv_goto (tgt := 24) C dX1_at_19 (by decide) ?_
      exact sv_iret C (by cases hf; exact hZ) dX1_at_24
def f_X1_wrong (T : gh_T) (V : gh_V) (a0 : Nat) : Option (Int32 × gh_V) :=
  some ((-2147483648), gh_pf V 3 a0 0)
set_option maxHeartbeats 4000000 in
set_option maxRecDepth 100000 in
theorem m_X1_wrong (l : Launch) (E : sv_E) (T : gh_T) (sz : Nat) (V : gh_V) (a0 : Nat) (q : Int32 × gh_V) (hf : f_X1_wrong T V a0 = some q) (hT : gh_ok T) (o_a0 : gh_is T a0 1) : sv_Met l E yX1_wrong cX1_wrong 1 (some .int) 0 0 [] [.ref a0] (gh_w E T V) sz (some (.int q.1)) (gh_w E T q.2) sz 0 0 := by
  refine sv_ofJ (by decide) (Nat.le_of_ble_eq_true rfl) ?_
  intro X hX hN hnm hR C hZ
  replace C : sv_C E X cX1_wrong RX1 [] := C
  show sv_J E X (gh_w E T V) sz 0 0 0 [(0, .ref a0)] []
  rw [f_X1_wrong] at hf
  refine sv_aload_n 0 C dX1_wrong_0 rfl rfl ?_
  refine sv_iconst (v := 0) C dX1_wrong_1 (by decide) ?_
  refine gh_puti C fl_X1_21 o_a0 (by decide) (by decide) (by decide) (by decide) dX1_wrong_2 ?_
  refine sv_ldc C kw_81 dX1_wrong_5 ?_
  exact sv_iret C (by cases hf; exact hZ) dX1_wrong_7
def f_X1_digitAt_40 (T : gh_T) (a0 : Nat) (V : gh_V) (x1 : Int32) (s0 : Int32) : Option (Int32 × gh_V) :=
  if s0 = 0 then
    some ((-1), V)
  else
    (T.2.2.1 0 a0).bind (fun b46 =>
      sv_g (sv_inb x1 (T.2.2.2.1 b46)) (
        some ((V.2 b46 x1.toNatClampNeg) - 48, V)))
def f_X1_digitAt_39 (T : gh_T) (a0 : Nat) (V : gh_V) (x1 : Int32) : Option (Int32 × gh_V) :=
  f_X1_digitAt_40 T a0 V x1 0
def f_X1_digitAt (T : gh_T) (V : gh_V) (a0 : Nat) (x1 : Int32) : Option (Int32 × gh_V) :=
  if x1 < 0 then
    f_X1_digitAt_39 T a0 V x1
  else
    (T.2.2.1 0 a0).bind (fun b6 =>
      if (Int32.ofNat (T.2.2.2.1 b6)) ≤ x1 then
        f_X1_digitAt_39 T a0 V x1
      else
        (T.2.2.1 0 a0).bind (fun b14 =>
          sv_g (sv_inb x1 (T.2.2.2.1 b14)) (
            if (V.2 b14 x1.toNatClampNeg) < 48 then
              f_X1_digitAt_39 T a0 V x1
            else
              (T.2.2.1 0 a0).bind (fun b25 =>
                sv_g (sv_inb x1 (T.2.2.2.1 b25)) (
                  if 57 < (V.2 b25 x1.toNatClampNeg) then
                    f_X1_digitAt_39 T a0 V x1
                  else
                    f_X1_digitAt_40 T a0 V x1 1)))))
set_option maxHeartbeats 4000000 in
set_option maxRecDepth 100000 in
theorem w_X1_digitAt_40 {E : sv_E} {X : sv_X} {sz : Nat} {q : Int32 × gh_V} {T : gh_T} {a0 : Nat} (C : sv_C E X cX1_digitAt RX1 []) (hZ : sv_Z E X (some .int) (some (.int q.1)) (gh_w E T q.2) sz 0 0) (hR : sv_R X = { frames := 0, cells := 0, slots := 0, locals := 0 }) (hN : sv_nL X = 3) (hT : gh_ok T) (o_a0 : gh_is T a0 1) (V : gh_V) (x1 : Int32) (s0 : Int32) (hf : f_X1_digitAt_40 T a0 V x1 s0 = some q) : sv_J E X (gh_w E T V) sz 0 0 40 [(0, .ref a0), (1, .int x1)] [.int s0] := by
  rw [f_X1_digitAt_40] at hf
  refine sv_istore_n (lv' := [(2, .int s0), (0, .ref a0), (1, .int x1)]) C dX1_digitAt_40 rfl (by rw [hN]; decide) rfl ?_
  refine sv_iload_n 0 C dX1_digitAt_41 rfl rfl ?_
  refine sv_if_eq (tgt := 57) C dX1_digitAt_42 (by decide) (fun c42 => ?_) (fun c42 => ?_)
  · replace hf := sv_if_t c42 hf
    refine sv_iconst (v := (-1)) C dX1_digitAt_57 (by decide) ?_
    exact sv_iret C (by cases hf; exact hZ) dX1_digitAt_58
  · replace hf := sv_if_f c42 hf
    refine sv_aload_n 1 C dX1_digitAt_45 rfl rfl ?_
    obtain ⟨b46, hb46, hf⟩ := sv_bind_some hf
    have o_b46 : gh_is T b46 9 := gh_okr hT o_a0 rfl hb46
    refine gh_getr (d := 9) C fl_X1_11 o_a0 (by decide) (by decide) hb46 dX1_digitAt_46 ?_
    refine sv_iload_n 2 C dX1_digitAt_49 rfl rfl ?_
    obtain ⟨g50, hf⟩ := sv_g_some hf
    refine gh_bald C o_b46 g50 dX1_digitAt_50 ?_
    refine sv_bipush (v := 48) C dX1_digitAt_51 (by decide) ?_
    refine sv_isub C dX1_digitAt_53 ?_
    refine sv_goto (tgt := 58) C dX1_digitAt_54 (by decide) ?_
    exact sv_iret C (by cases hf; exact hZ) dX1_digitAt_58
set_option maxHeartbeats 4000000 in
set_option maxRecDepth 100000 in
theorem w_X1_digitAt_39 {E : sv_E} {X : sv_X} {sz : Nat} {q : Int32 × gh_V} {T : gh_T} {a0 : Nat} (C : sv_C E X cX1_digitAt RX1 []) (hZ : sv_Z E X (some .int) (some (.int q.1)) (gh_w E T q.2) sz 0 0) (hR : sv_R X = { frames := 0, cells := 0, slots := 0, locals := 0 }) (hN : sv_nL X = 3) (hT : gh_ok T) (o_a0 : gh_is T a0 1) (V : gh_V) (x1 : Int32) (hf : f_X1_digitAt_39 T a0 V x1 = some q) : sv_J E X (gh_w E T V) sz 0 0 39 [(0, .ref a0), (1, .int x1)] [] := by
  rw [f_X1_digitAt_39] at hf
  refine sv_iconst (v := 0) C dX1_digitAt_39 (by decide) ?_
  refine sv_sub (lv' := [(0, .ref a0), (1, .int x1)]) [0, 1] rfl ?_
  exact w_X1_digitAt_40 C hZ hR hN hT o_a0 _ _ _ hf
set_option maxHeartbeats 4000000 in
set_option maxRecDepth 100000 in
theorem m_X1_digitAt (l : Launch) (E : sv_E) (T : gh_T) (sz : Nat) (V : gh_V) (a0 : Nat) (x1 : Int32) (q : Int32 × gh_V) (hf : f_X1_digitAt T V a0 x1 = some q) (hT : gh_ok T) (o_a0 : gh_is T a0 1) : sv_Met l E yX1_digitAt cX1_digitAt 3 (some .int) 0 0 [] [.ref a0, .int x1] (gh_w E T V) sz (some (.int q.1)) (gh_w E T q.2) sz 0 0 := by
  refine sv_ofJ (by decide) (Nat.le_of_ble_eq_true rfl) ?_
  intro X hX hN hnm hR C hZ
  replace C : sv_C E X cX1_digitAt RX1 [] := C
  show sv_J E X (gh_w E T V) sz 0 0 0 [(0, .ref a0), (1, .int x1)] []
  rw [f_X1_digitAt] at hf
  refine sv_iload_n 1 C dX1_digitAt_0 rfl rfl ?_
  refine sv_if_lt (tgt := 39) C dX1_digitAt_1 (by decide) (fun c1 => ?_) (fun c1 => ?_)
  · replace hf := sv_if_t c1 hf
    refine sv_sub (lv' := [(0, .ref a0), (1, .int x1)]) [0, 1] rfl ?_
    exact w_X1_digitAt_39 C hZ hR hN hT o_a0 _ _ hf
  · replace hf := sv_if_f c1 hf
    refine sv_iload_n 1 C dX1_digitAt_4 rfl rfl ?_
    refine sv_aload_n 0 C dX1_digitAt_5 rfl rfl ?_
    obtain ⟨b6, hb6, hf⟩ := sv_bind_some hf
    have o_b6 : gh_is T b6 9 := gh_okr hT o_a0 rfl hb6
    refine gh_getr (d := 9) C fl_X1_11 o_a0 (by decide) (by decide) hb6 dX1_digitAt_6 ?_
    refine gh_alen C o_b6 (by decide) dX1_digitAt_9 ?_
    refine sv_icmp_ge (tgt := 39) C dX1_digitAt_10 (by decide) (fun c10 => ?_) (fun c10 => ?_)
    · replace hf := sv_if_t c10 hf
      refine sv_sub (lv' := [(0, .ref a0), (1, .int x1)]) [0, 1] rfl ?_
      exact w_X1_digitAt_39 C hZ hR hN hT o_a0 _ _ hf
    · replace hf := sv_if_f c10 hf
      refine sv_aload_n 0 C dX1_digitAt_13 rfl rfl ?_
      obtain ⟨b14, hb14, hf⟩ := sv_bind_some hf
      have o_b14 : gh_is T b14 9 := gh_okr hT o_a0 rfl hb14
      refine gh_getr (d := 9) C fl_X1_11 o_a0 (by decide) (by decide) hb14 dX1_digitAt_14 ?_
      refine sv_iload_n 1 C dX1_digitAt_17 rfl rfl ?_
      obtain ⟨g18, hf⟩ := sv_g_some hf
      refine gh_bald C o_b14 g18 dX1_digitAt_18 ?_
      refine sv_bipush (v := 48) C dX1_digitAt_19 (by decide) ?_
      refine sv_icmp_lt (tgt := 39) C dX1_digitAt_21 (by decide) (fun c21 => ?_) (fun c21 => ?_)
      · replace hf := sv_if_t c21 hf
        refine sv_sub (lv' := [(0, .ref a0), (1, .int x1)]) [0, 1] rfl ?_
        exact w_X1_digitAt_39 C hZ hR hN hT o_a0 _ _ hf
      · replace hf := sv_if_f c21 hf
        refine sv_aload_n 0 C dX1_digitAt_24 rfl rfl ?_
        obtain ⟨b25, hb25, hf⟩ := sv_bind_some hf
        have o_b25 : gh_is T b25 9 := gh_okr hT o_a0 rfl hb25
        refine gh_getr (d := 9) C fl_X1_11 o_a0 (by decide) (by decide) hb25 dX1_digitAt_25 ?_
        refine sv_iload_n 1 C dX1_digitAt_28 rfl rfl ?_
        obtain ⟨g29, hf⟩ := sv_g_some hf
        refine gh_bald C o_b25 g29 dX1_digitAt_29 ?_
        refine sv_bipush (v := 57) C dX1_digitAt_30 (by decide) ?_
        refine sv_icmp_gt (tgt := 39) C dX1_digitAt_32 (by decide) (fun c32 => ?_) (fun c32 => ?_)
        · replace hf := sv_if_t c32 hf
          refine sv_sub (lv' := [(0, .ref a0), (1, .int x1)]) [0, 1] rfl ?_
          exact w_X1_digitAt_39 C hZ hR hN hT o_a0 _ _ hf
        · replace hf := sv_if_f c32 hf
          refine sv_iconst (v := 1) C dX1_digitAt_35 (by decide) ?_
          refine sv_goto (tgt := 40) C dX1_digitAt_36 (by decide) ?_
          refine sv_sub (lv' := [(0, .ref a0), (1, .int x1)]) [0, 1] rfl ?_
          exact w_X1_digitAt_40 C hZ hR hN hT o_a0 _ _ _ hf
def f_X1_digit_43 (T : gh_T) (a0 : Nat) (V : gh_V) (x4 : Int32) (s0 : Int32) : Option (Int32 × gh_V) :=
  if s0 = 0 then
    (f_X1_wrong T V a0).bind (fun q56 =>
      some (q56.1, q56.2))
  else
    some (x4, V)
def f_X1_digit_42 (T : gh_T) (a0 : Nat) (V : gh_V) (x4 : Int32) : Option (Int32 × gh_V) :=
  f_X1_digit_43 T a0 V x4 0
def f_X1_digit (T : gh_T) (V : gh_V) (a0 : Nat) (x1 : Int32) (x2 : Int32) (x3 : Int32) : Option (Int32 × gh_V) :=
  (f_X1_from T V a0 x1).bind (fun q3 =>
    (f_X1_digitAt T q3.2 a0 q3.1).bind (fun q6 =>
      (f_X1_to T q6.2 a0 x1).bind (fun q13 =>
        (f_X1_from T q13.2 a0 x1).bind (fun q18 =>
          if (q13.1 - q18.1) = 1 then
            if q6.1 < x2 then
              f_X1_digit_42 T a0 q18.2 q6.1
            else
              if x3 < q6.1 then
                f_X1_digit_42 T a0 q18.2 q6.1
              else
                f_X1_digit_43 T a0 q18.2 q6.1 1
          else
            f_X1_digit_42 T a0 q18.2 q6.1))))
set_option maxHeartbeats 4000000 in
set_option maxRecDepth 100000 in
theorem w_X1_digit_43 {E : sv_E} {X : sv_X} {sz : Nat} {q : Int32 × gh_V} {T : gh_T} {a0 : Nat} (C : sv_C E X cX1_digit RX1 []) (hZ : sv_Z E X (some .int) (some (.int q.1)) (gh_w E T q.2) sz 0 0) (hR : sv_R X = { frames := 1, cells := 0, slots := 0, locals := 22 }) (hN : sv_nL X = 6) (hT : gh_ok T) (o_a0 : gh_is T a0 1) (V : gh_V) (x4 : Int32) (s0 : Int32) (hf : f_X1_digit_43 T a0 V x4 s0 = some q) : sv_J E X (gh_w E T V) sz 0 0 43 [(0, .ref a0), (4, .int x4)] [.int s0] := by
  rw [f_X1_digit_43] at hf
  refine sv_istore (lv' := [(5, .int s0), (0, .ref a0), (4, .int x4)]) C dX1_digit_43 (by rw [hN]; decide) rfl ?_
  refine sv_iload 0 C dX1_digit_45 rfl ?_
  refine sv_if_eq (tgt := 55) C dX1_digit_47 (by decide) (fun c47 => ?_) (fun c47 => ?_)
  · replace hf := sv_if_t c47 hf
    refine sv_aload_n 1 C dX1_digit_55 rfl rfl ?_
    obtain ⟨q56, hc56, hf⟩ := sv_bind_some hf
    refine gh_callV0 C mv_X1_66 (m_X1_wrong (sv_l X) E T sz _ _ _ hc56 hT o_a0) sv_sx0 o_a0 (by decide) rfl rfl rfl (Nat.le_of_ble_eq_true rfl) ⟨by rw [hR]; decide, by rw [hR]; decide⟩ ⟨by rw [hR]; decide, by rw [hR]; decide⟩ dX1_digit_56 ?_
    exact sv_iret C (by cases hf; exact hZ) dX1_digit_59
  · replace hf := sv_if_f c47 hf
    refine sv_iload 2 C dX1_digit_50 rfl ?_
    refine sv_goto (tgt := 59) C dX1_digit_52 (by decide) ?_
    exact sv_iret C (by cases hf; exact hZ) dX1_digit_59
set_option maxHeartbeats 4000000 in
set_option maxRecDepth 100000 in
theorem w_X1_digit_42 {E : sv_E} {X : sv_X} {sz : Nat} {q : Int32 × gh_V} {T : gh_T} {a0 : Nat} (C : sv_C E X cX1_digit RX1 []) (hZ : sv_Z E X (some .int) (some (.int q.1)) (gh_w E T q.2) sz 0 0) (hR : sv_R X = { frames := 1, cells := 0, slots := 0, locals := 22 }) (hN : sv_nL X = 6) (hT : gh_ok T) (o_a0 : gh_is T a0 1) (V : gh_V) (x4 : Int32) (hf : f_X1_digit_42 T a0 V x4 = some q) : sv_J E X (gh_w E T V) sz 0 0 42 [(0, .ref a0), (4, .int x4)] [] := by
  rw [f_X1_digit_42] at hf
  refine sv_iconst (v := 0) C dX1_digit_42 (by decide) ?_
  refine sv_sub (lv' := [(0, .ref a0), (4, .int x4)]) [0, 1] rfl ?_
  exact w_X1_digit_43 C hZ hR hN hT o_a0 _ _ _ hf
set_option maxHeartbeats 4000000 in
set_option maxRecDepth 100000 in
theorem m_X1_digit (l : Launch) (E : sv_E) (T : gh_T) (sz : Nat) (V : gh_V) (a0 : Nat) (x1 : Int32) (x2 : Int32) (x3 : Int32) (q : Int32 × gh_V) (hf : f_X1_digit T V a0 x1 x2 x3 = some q) (hT : gh_ok T) (o_a0 : gh_is T a0 1) : sv_Met l E yX1_digit cX1_digit 6 (some .int) 1 22 [] [.ref a0, .int x1, .int x2, .int x3] (gh_w E T V) sz (some (.int q.1)) (gh_w E T q.2) sz 0 0 := by
  refine sv_ofJ (by decide) (Nat.le_of_ble_eq_true rfl) ?_
  intro X hX hN hnm hR C hZ
  replace C : sv_C E X cX1_digit RX1 [] := C
  show sv_J E X (gh_w E T V) sz 0 0 0 [(0, .ref a0), (1, .int x1), (2, .int x2), (3, .int x3)] []
  rw [f_X1_digit] at hf
  refine sv_aload_n 0 C dX1_digit_0 rfl rfl ?_
  refine sv_aload_n 0 C dX1_digit_1 rfl rfl ?_
  refine sv_iload_n 1 C dX1_digit_2 rfl rfl ?_
  obtain ⟨q3, hc3, hf⟩ := sv_bind_some hf
  refine gh_callV0 C mv_X1_59 (m_X1_from (sv_l X) E T sz _ _ _ _ hc3 hT o_a0) sv_sx0 o_a0 (by decide) rfl rfl rfl (Nat.le_of_ble_eq_true rfl) ⟨by rw [hR]; decide, by rw [hR]; decide⟩ ⟨by rw [hR]; decide, by rw [hR]; decide⟩ dX1_digit_3 ?_
  obtain ⟨q6, hc6, hf⟩ := sv_bind_some hf
  refine gh_callV0 C mv_X1_63 (m_X1_digitAt (sv_l X) E T sz _ _ _ _ hc6 hT o_a0) sv_sx0 o_a0 (by decide) rfl rfl rfl (Nat.le_of_ble_eq_true rfl) ⟨by rw [hR]; decide, by rw [hR]; decide⟩ ⟨by rw [hR]; decide, by rw [hR]; decide⟩ dX1_digit_6 ?_
  refine sv_istore (lv' := [(4, .int q6.1), (0, .ref a0), (1, .int x1), (2, .int x2), (3, .int x3)]) C dX1_digit_9 (by rw [hN]; decide) rfl ?_
  refine sv_aload_n 1 C dX1_digit_11 rfl rfl ?_
  refine sv_iload_n 2 C dX1_digit_12 rfl rfl ?_
  obtain ⟨q13, hc13, hf⟩ := sv_bind_some hf
  refine gh_callV0 C mv_X1_36 (m_X1_to (sv_l X) E T sz _ _ _ _ hc13 hT o_a0) sv_sx0 o_a0 (by decide) rfl rfl rfl (Nat.le_of_ble_eq_true rfl) ⟨by rw [hR]; decide, by rw [hR]; decide⟩ ⟨by rw [hR]; decide, by rw [hR]; decide⟩ dX1_digit_13 ?_
  refine sv_aload_n 1 C dX1_digit_16 rfl rfl ?_
  refine sv_iload_n 2 C dX1_digit_17 rfl rfl ?_
  obtain ⟨q18, hc18, hf⟩ := sv_bind_some hf
  refine gh_callV0 C mv_X1_59 (m_X1_from (sv_l X) E T sz _ _ _ _ hc18 hT o_a0) sv_sx0 o_a0 (by decide) rfl rfl rfl (Nat.le_of_ble_eq_true rfl) ⟨by rw [hR]; decide, by rw [hR]; decide⟩ ⟨by rw [hR]; decide, by rw [hR]; decide⟩ dX1_digit_18 ?_
  refine sv_isub C dX1_digit_21 ?_
  refine sv_iconst (v := 1) C dX1_digit_22 (by decide) ?_
  refine sv_icmp_ne (tgt := 42) C dX1_digit_23 (by decide) (fun c23 => ?_) (fun c23 => ?_)
  · replace hf := sv_if_f c23 hf
    refine sv_sub (lv' := [(0, .ref a0), (4, .int q6.1)]) [1, 0] rfl ?_
    exact w_X1_digit_42 C hZ hR hN hT o_a0 _ _ hf
  · replace hf := sv_if_t c23 hf
    refine sv_iload 0 C dX1_digit_26 rfl ?_
    refine sv_iload_n 3 C dX1_digit_28 rfl rfl ?_
    refine sv_icmp_lt (tgt := 42) C dX1_digit_29 (by decide) (fun c29 => ?_) (fun c29 => ?_)
    · replace hf := sv_if_t c29 hf
      refine sv_sub (lv' := [(0, .ref a0), (4, .int q6.1)]) [1, 0] rfl ?_
      exact w_X1_digit_42 C hZ hR hN hT o_a0 _ _ hf
    · replace hf := sv_if_f c29 hf
      refine sv_iload 0 C dX1_digit_32 rfl ?_
      refine sv_iload_n 4 C dX1_digit_34 rfl rfl ?_
      refine sv_icmp_gt (tgt := 42) C dX1_digit_35 (by decide) (fun c35 => ?_) (fun c35 => ?_)
      · replace hf := sv_if_t c35 hf
        refine sv_sub (lv' := [(0, .ref a0), (4, .int q6.1)]) [1, 0] rfl ?_
        exact w_X1_digit_42 C hZ hR hN hT o_a0 _ _ hf
      · replace hf := sv_if_f c35 hf
        refine sv_iconst (v := 1) C dX1_digit_38 (by decide) ?_
        refine sv_goto (tgt := 43) C dX1_digit_39 (by decide) ?_
        refine sv_sub (lv' := [(0, .ref a0), (4, .int q6.1)]) [1, 0] rfl ?_
        exact w_X1_digit_43 C hZ hR hN hT o_a0 _ _ _ hf
def f_X1_oneOf_50 (T : gh_T) (a0 : Nat) (t2 : List Int32) (V : gh_V) (x3 : Int32) (s0 : Int32) : Option (Int32 × gh_V) :=
  if s0 = 0 then
    (f_X1_wrong T V a0).bind (fun q62 =>
      some (q62.1, q62.2))
  else
    some (x3, V)
def f_X1_oneOf_49 (T : gh_T) (a0 : Nat) (t2 : List Int32) (V : gh_V) (x3 : Int32) : Option (Int32 × gh_V) :=
  f_X1_oneOf_50 T a0 t2 V x3 0
def f_X1_oneOf (T : gh_T) (V : gh_V) (a0 : Nat) (x1 : Int32) (t2 : List Int32) : Option (Int32 × gh_V) :=
  (f_X1_isEmpty T V a0 x1).bind (fun q2 =>
    if q2.1 = 0 then
      (f_X1_from T q2.2 a0 x1).bind (fun q14 =>
        (f_X1_at T q14.2 a0 q14.1).bind (fun q17 =>
          (f_X1_to T q17.2 a0 x1).bind (fun q23 =>
            (f_X1_from T q23.2 a0 x1).bind (fun q28 =>
              if (q23.1 - q28.1) = 1 then
                (f_J0_indexOf_0f7a4 t2 ((q17.1.toUInt32 % 65536).toInt32)).bind (fun q39 =>
                  if q39 < 0 then
                    f_X1_oneOf_49 T a0 t2 q28.2 q17.1
                  else
                    f_X1_oneOf_50 T a0 t2 q28.2 q17.1 1)
              else
                f_X1_oneOf_49 T a0 t2 q28.2 q17.1))))
    else
      some ((-2147483648), q2.2))
set_option maxHeartbeats 4000000 in
set_option maxRecDepth 100000 in
theorem w_X1_oneOf_50 {E : sv_E} {X : sv_X} {sz : Nat} {q : Int32 × gh_V} {T : gh_T} {k2 v2 : Nat} {t2 : List Int32} {a0 : Nat} (C : sv_C E X cX1_oneOf RX1 [(k2, v2, t2)]) (hZ : sv_Z E X (some .int) (some (.int q.1)) (gh_w E T q.2) sz 0 0) (hR : sv_R X = { frames := 4, cells := 0, slots := 0, locals := 91 }) (hN : sv_nL X = 5) (hT : gh_ok T) (o_a0 : gh_is T a0 1) (V : gh_V) (x3 : Int32) (s0 : Int32) (hf : f_X1_oneOf_50 T a0 t2 V x3 s0 = some q) : sv_J E X (gh_w E T V) sz 0 0 50 [(0, .ref a0), (3, .int x3)] [.int s0] := by
  rw [f_X1_oneOf_50] at hf
  refine sv_istore (lv' := [(4, .int s0), (0, .ref a0), (3, .int x3)]) C dX1_oneOf_50 (by rw [hN]; decide) rfl ?_
  refine sv_iload 0 C dX1_oneOf_52 rfl ?_
  refine sv_if_eq (tgt := 61) C dX1_oneOf_54 (by decide) (fun c54 => ?_) (fun c54 => ?_)
  · replace hf := sv_if_t c54 hf
    refine sv_aload_n 1 C dX1_oneOf_61 rfl rfl ?_
    obtain ⟨q62, hc62, hf⟩ := sv_bind_some hf
    refine gh_callV0 C mv_X1_66 (m_X1_wrong (sv_l X) E T sz _ _ _ hc62 hT o_a0) sv_sx0 o_a0 (by decide) rfl rfl rfl (Nat.le_of_ble_eq_true rfl) ⟨by rw [hR]; decide, by rw [hR]; decide⟩ ⟨by rw [hR]; decide, by rw [hR]; decide⟩ dX1_oneOf_62 ?_
    exact sv_iret C (by cases hf; exact hZ) dX1_oneOf_65
  · replace hf := sv_if_f c54 hf
    refine sv_iload_n 2 C dX1_oneOf_57 rfl rfl ?_
    refine sv_goto (tgt := 65) C dX1_oneOf_58 (by decide) ?_
    exact sv_iret C (by cases hf; exact hZ) dX1_oneOf_65
set_option maxHeartbeats 4000000 in
set_option maxRecDepth 100000 in
theorem w_X1_oneOf_49 {E : sv_E} {X : sv_X} {sz : Nat} {q : Int32 × gh_V} {T : gh_T} {k2 v2 : Nat} {t2 : List Int32} {a0 : Nat} (C : sv_C E X cX1_oneOf RX1 [(k2, v2, t2)]) (hZ : sv_Z E X (some .int) (some (.int q.1)) (gh_w E T q.2) sz 0 0) (hR : sv_R X = { frames := 4, cells := 0, slots := 0, locals := 91 }) (hN : sv_nL X = 5) (hT : gh_ok T) (o_a0 : gh_is T a0 1) (V : gh_V) (x3 : Int32) (hf : f_X1_oneOf_49 T a0 t2 V x3 = some q) : sv_J E X (gh_w E T V) sz 0 0 49 [(0, .ref a0), (3, .int x3)] [] := by
  rw [f_X1_oneOf_49] at hf
  refine sv_iconst (v := 0) C dX1_oneOf_49 (by decide) ?_
  refine sv_sub (lv' := [(0, .ref a0), (3, .int x3)]) [0, 1] rfl ?_
  exact w_X1_oneOf_50 C hZ hR hN hT o_a0 _ _ _ hf
set_option maxHeartbeats 4000000 in
set_option maxRecDepth 100000 in
theorem m_X1_oneOf (l : Launch) (E : sv_E) (T : gh_T) (sz : Nat) (k2 v2 : Nat) (V : gh_V) (a0 : Nat) (x1 : Int32) (t2 : List Int32) (q : Int32 × gh_V) (hf : f_X1_oneOf T V a0 x1 t2 = some q) (hT : gh_ok T) (o_a0 : gh_is T a0 1) : sv_Met l E yX1_oneOf cX1_oneOf 5 (some .int) 4 91 [(k2, v2, t2)] [.ref a0, .int x1, .ref k2] (gh_w E T V) sz (some (.int q.1)) (gh_w E T q.2) sz 0 0 := by
  refine sv_ofJ (by decide) (Nat.le_of_ble_eq_true rfl) ?_
  intro X hX hN hnm hR C hZ
  replace C : sv_C E X cX1_oneOf RX1 [(k2, v2, t2)] := C
  show sv_J E X (gh_w E T V) sz 0 0 0 [(0, .ref a0), (1, .int x1), (2, .ref k2)] []
  rw [f_X1_oneOf] at hf
  refine sv_aload_n 0 C dX1_oneOf_0 rfl rfl ?_
  refine sv_iload_n 1 C dX1_oneOf_1 rfl rfl ?_
  obtain ⟨q2, hc2, hf⟩ := sv_bind_some hf
  refine gh_callV0 C mv_X1_70 (m_X1_isEmpty (sv_l X) E T sz _ _ _ _ hc2 hT o_a0) sv_sx0 o_a0 (by decide) rfl rfl rfl (Nat.le_of_ble_eq_true rfl) ⟨by rw [hR]; decide, by rw [hR]; decide⟩ ⟨by rw [hR]; decide, by rw [hR]; decide⟩ dX1_oneOf_2 ?_
  refine sv_if_eq (tgt := 11) C dX1_oneOf_5 (by decide) (fun c5 => ?_) (fun c5 => ?_)
  · replace hf := sv_if_t c5 hf
    refine sv_aload_n 0 C dX1_oneOf_11 rfl rfl ?_
    refine sv_aload_n 0 C dX1_oneOf_12 rfl rfl ?_
    refine sv_iload_n 1 C dX1_oneOf_13 rfl rfl ?_
    obtain ⟨q14, hc14, hf⟩ := sv_bind_some hf
    refine gh_callV0 C mv_X1_59 (m_X1_from (sv_l X) E T sz _ _ _ _ hc14 hT o_a0) sv_sx0 o_a0 (by decide) rfl rfl rfl (Nat.le_of_ble_eq_true rfl) ⟨by rw [hR]; decide, by rw [hR]; decide⟩ ⟨by rw [hR]; decide, by rw [hR]; decide⟩ dX1_oneOf_14 ?_
    obtain ⟨q17, hc17, hf⟩ := sv_bind_some hf
    refine gh_callV0 C mv_X1_74 (m_X1_at (sv_l X) E T sz _ _ _ _ hc17 hT o_a0) sv_sx0 o_a0 (by decide) rfl rfl rfl (Nat.le_of_ble_eq_true rfl) ⟨by rw [hR]; decide, by rw [hR]; decide⟩ ⟨by rw [hR]; decide, by rw [hR]; decide⟩ dX1_oneOf_17 ?_
    refine sv_istore_n (lv' := [(3, .int q17.1), (0, .ref a0), (1, .int x1), (2, .ref k2)]) C dX1_oneOf_20 rfl (by rw [hN]; decide) rfl ?_
    refine sv_aload_n 1 C dX1_oneOf_21 rfl rfl ?_
    refine sv_iload_n 2 C dX1_oneOf_22 rfl rfl ?_
    obtain ⟨q23, hc23, hf⟩ := sv_bind_some hf
    refine gh_callV0 C mv_X1_36 (m_X1_to (sv_l X) E T sz _ _ _ _ hc23 hT o_a0) sv_sx0 o_a0 (by decide) rfl rfl rfl (Nat.le_of_ble_eq_true rfl) ⟨by rw [hR]; decide, by rw [hR]; decide⟩ ⟨by rw [hR]; decide, by rw [hR]; decide⟩ dX1_oneOf_23 ?_
    refine sv_aload_n 1 C dX1_oneOf_26 rfl rfl ?_
    refine sv_iload_n 2 C dX1_oneOf_27 rfl rfl ?_
    obtain ⟨q28, hc28, hf⟩ := sv_bind_some hf
    refine gh_callV0 C mv_X1_59 (m_X1_from (sv_l X) E T sz _ _ _ _ hc28 hT o_a0) sv_sx0 o_a0 (by decide) rfl rfl rfl (Nat.le_of_ble_eq_true rfl) ⟨by rw [hR]; decide, by rw [hR]; decide⟩ ⟨by rw [hR]; decide, by rw [hR]; decide⟩ dX1_oneOf_28 ?_
    refine sv_isub C dX1_oneOf_31 ?_
    refine sv_iconst (v := 1) C dX1_oneOf_32 (by decide) ?_
    refine sv_icmp_ne (tgt := 49) C dX1_oneOf_33 (by decide) (fun c33 => ?_) (fun c33 => ?_)
    · replace hf := sv_if_f c33 hf
      refine sv_sub (lv' := [(0, .ref a0), (3, .int q17.1)]) [1, 0] rfl ?_
      exact w_X1_oneOf_49 C hZ hR hN hT o_a0 _ _ hf
    · replace hf := sv_if_t c33 hf
      refine sv_aload_n 3 C dX1_oneOf_36 rfl rfl ?_
      refine sv_iload_n 0 C dX1_oneOf_37 rfl rfl ?_
      refine sv_i2c C dX1_oneOf_38 ?_
      obtain ⟨q39, hc39, hf⟩ := sv_bind_some hf
      refine ss_callV (v := v2) (t := t2) C mv_X1_75 (m_J0_indexOf_0f7a4 (sv_l X) E _ sz k2 v2 _ _ _ hc39) sv_sx1 (List.mem_cons_self) rfl rfl rfl (Nat.le_of_ble_eq_true rfl) ⟨by rw [hR]; decide, by rw [hR]; decide⟩ ⟨by rw [hR]; decide, by rw [hR]; decide⟩ dX1_oneOf_39 ?_
      refine sv_if_lt (tgt := 49) C dX1_oneOf_42 (by decide) (fun c42 => ?_) (fun c42 => ?_)
      · replace hf := sv_if_t c42 hf
        refine sv_sub (lv' := [(0, .ref a0), (3, .int q17.1)]) [1, 0] rfl ?_
        exact w_X1_oneOf_49 C hZ hR hN hT o_a0 _ _ hf
      · replace hf := sv_if_f c42 hf
        refine sv_iconst (v := 1) C dX1_oneOf_45 (by decide) ?_
        refine sv_goto (tgt := 50) C dX1_oneOf_46 (by decide) ?_
        refine sv_sub (lv' := [(0, .ref a0), (3, .int q17.1)]) [1, 0] rfl ?_
        exact w_X1_oneOf_50 C hZ hR hN hT o_a0 _ _ _ hf
  · replace hf := sv_if_f c5 hf
    refine sv_ldc C kw_81 dX1_oneOf_8 ?_
    exact sv_iret C (by cases hf; exact hZ) dX1_oneOf_10
def f_X1_digits_107 (T : gh_T) (a0 : Nat) (V : gh_V) : Option (Int32 × gh_V) :=
  (f_X1_wrong T V a0).bind (fun q108 =>
    some (q108.1, q108.2))
def f_X1_digits_158 (T : gh_T) (a0 : Nat) (k116 : gh_V → Int32 → Int32 → Int32 → Int32 → Option (Int32 × gh_V)) (V : gh_V) (x2 : Int32) (x8 : Int32) (x9 : Int32) (x11 : Int32) : Option (Int32 × gh_V) :=
  k116 V x2 x8 x9 (x11 + 1)
def f_X1_digits_167 (T : gh_T) (a0 : Nat) : Nat → gh_V → Int32 → Int32 → Int32 → Option (Int32 × gh_V)
  | 0, _, _, _, _ => none
  | n + 1, V, x8, x9, x10 =>
    if x9 ≤ x10 then
      some (x8, V)
    else
      (f_X1_digits_167 T a0 n) V (x8 * 10) x9 (x10 + 1)
def f_X1_digits_164 (T : gh_T) (a0 : Nat) (V : gh_V) (x8 : Int32) (x9 : Int32) : Option (Int32 × gh_V) :=
  f_X1_digits_167 T a0 sv_fu V x8 x9 0
def f_X1_digits_116 (T : gh_T) (a0 : Nat) : Nat → gh_V → Int32 → Int32 → Int32 → Int32 → Option (Int32 × gh_V)
  | 0, _, _, _, _, _ => none
  | n + 1, V, x2, x8, x9, x11 =>
    if x2 ≤ x11 then
      f_X1_digits_164 T a0 V x8 x9
    else
      (f_X1_digitAt T V a0 x11).bind (fun q125 =>
        if 0 ≤ q125.1 then
          if x9 ≤ 0 then
            f_X1_digits_158 T a0 (f_X1_digits_116 T a0 n) q125.2 x2 x8 x9 x11
          else
            f_X1_digits_158 T a0 (f_X1_digits_116 T a0 n) q125.2 x2 ((x8 * 10) + q125.1) (x9 + (-1)) x11
        else
          (f_X1_wrong T q125.2 a0).bind (fun q136 =>
            some (q136.1, q136.2)))
def f_X1_digits_50 (T : gh_T) (a0 : Nat) (V : gh_V) (x1 : Int32) (x2 : Int32) (x3 : Int32) (x5 : Int32) (x6 : Int32) (x7 : Int32) (x8 : Int32) : Option (Int32 × gh_V) :=
  if x3 ≤ (x7 - x1) then
    if x2 ≤ x7 then
      f_X1_digits_164 T a0 V x8 x6
    else
      (f_X1_at T V a0 x7).bind (fun q82 =>
        if q82.1 = 46 then
          if (x2 - (x7 + 1)) < 1 then
            f_X1_digits_107 T a0 q82.2
          else
            if (x2 - (x7 + 1)) ≤ x5 then
              f_X1_digits_116 T a0 sv_fu q82.2 x2 x8 x6 (x7 + 1)
            else
              f_X1_digits_107 T a0 q82.2
        else
          f_X1_digits_107 T a0 q82.2)
  else
    (f_X1_wrong T V a0).bind (fun q59 =>
      some (q59.1, q59.2))
def f_X1_digits_6 (T : gh_T) (a0 : Nat) : Nat → gh_V → Int32 → Int32 → Int32 → Int32 → Int32 → Int32 → Int32 → Int32 → Option (Int32 × gh_V)
  | 0, _, _, _, _, _, _, _, _, _ => none
  | n + 1, V, x1, x2, x3, x4, x5, x6, x7, x8 =>
    if x2 ≤ x7 then
      f_X1_digits_50 T a0 V x1 x2 x3 x5 x6 x7 x8
    else
      if x4 ≤ (x7 - x1) then
        f_X1_digits_50 T a0 V x1 x2 x3 x5 x6 x7 x8
      else
        (f_X1_digitAt T V a0 x7).bind (fun q24 =>
          if q24.1 < 0 then
            f_X1_digits_50 T a0 q24.2 x1 x2 x3 x5 x6 x7 x8
          else
            (f_X1_digitAt T q24.2 a0 x7).bind (fun q38 =>
              (f_X1_digits_6 T a0 n) q38.2 x1 x2 x3 x4 x5 x6 (x7 + 1) ((x8 * 10) + q38.1)))
def f_X1_digits (T : gh_T) (V : gh_V) (a0 : Nat) (x1 : Int32) (x2 : Int32) (x3 : Int32) (x4 : Int32) (x5 : Int32) (x6 : Int32) : Option (Int32 × gh_V) :=
  f_X1_digits_6 T a0 sv_fu V x1 x2 x3 x4 x5 x6 x1 0
set_option maxHeartbeats 4000000 in
set_option maxRecDepth 100000 in
theorem w_X1_digits_107 {E : sv_E} {X : sv_X} {sz : Nat} {q : Int32 × gh_V} {T : gh_T} {a0 : Nat} (C : sv_C E X cX1_digits RX1 []) (hZ : sv_Z E X (some .int) (some (.int q.1)) (gh_w E T q.2) sz 0 0) (hR : sv_R X = { frames := 1, cells := 0, slots := 0, locals := 22 }) (hN : sv_nL X = 13) (hT : gh_ok T) (o_a0 : gh_is T a0 1) (V : gh_V) (hf : f_X1_digits_107 T a0 V = some q) : sv_J E X (gh_w E T V) sz 0 0 107 [(0, .ref a0)] [] := by
  rw [f_X1_digits_107] at hf
  refine sv_aload_n 0 C dX1_digits_107 rfl rfl ?_
  obtain ⟨q108, hc108, hf⟩ := sv_bind_some hf
  refine gh_callV0 C mv_X1_66 (m_X1_wrong (sv_l X) E T sz _ _ _ hc108 hT o_a0) sv_sx0 o_a0 (by decide) rfl rfl rfl (Nat.le_of_ble_eq_true rfl) ⟨by rw [hR]; decide, by rw [hR]; decide⟩ ⟨by rw [hR]; decide, by rw [hR]; decide⟩ dX1_digits_108 ?_
  exact sv_iret C (by cases hf; exact hZ) dX1_digits_111
set_option maxHeartbeats 4000000 in
set_option maxRecDepth 100000 in
theorem w_X1_digits_158 {E : sv_E} {X : sv_X} {sz : Nat} {q : Int32 × gh_V} {T : gh_T} {a0 : Nat} (C : sv_C E X cX1_digits RX1 []) (hZ : sv_Z E X (some .int) (some (.int q.1)) (gh_w E T q.2) sz 0 0) (hR : sv_R X = { frames := 1, cells := 0, slots := 0, locals := 22 }) (hN : sv_nL X = 13) (hT : gh_ok T) (o_a0 : gh_is T a0 1) {k116 : gh_V → Int32 → Int32 → Int32 → Int32 → Option (Int32 × gh_V)} (hk116 : ∀ (V : gh_V) (x2 : Int32) (x8 : Int32) (x9 : Int32) (x11 : Int32), k116 V x2 x8 x9 x11 = some q → sv_J E X (gh_w E T V) sz 0 0 116 [(0, .ref a0), (2, .int x2), (8, .int x8), (9, .int x9), (11, .int x11)] []) (V : gh_V) (x2 : Int32) (x8 : Int32) (x9 : Int32) (x11 : Int32) (hf : f_X1_digits_158 T a0 k116 V x2 x8 x9 x11 = some q) : sv_J E X (gh_w E T V) sz 0 0 158 [(0, .ref a0), (2, .int x2), (8, .int x8), (9, .int x9), (11, .int x11)] [] := by
  rw [f_X1_digits_158] at hf
  refine sv_iinc (v := x11 + 1) (lv' := [(11, .int (x11 + 1)), (0, .ref a0), (2, .int x2), (8, .int x8), (9, .int x9)]) 4 C dX1_digits_158 rfl rfl (by rw [hN]; decide) rfl ?_
  refine sv_goto (tgt := 116) C dX1_digits_161 (by decide) ?_
  refine sv_sub (lv' := [(0, .ref a0), (2, .int x2), (8, .int x8), (9, .int x9), (11, .int (x11 + 1))]) [1, 2, 3, 4, 0] rfl ?_
  exact hk116 _ _ _ _ _ hf
set_option maxHeartbeats 4000000 in
set_option maxRecDepth 100000 in
theorem w_X1_digits_167 {E : sv_E} {X : sv_X} {sz : Nat} {q : Int32 × gh_V} {T : gh_T} {a0 : Nat} (C : sv_C E X cX1_digits RX1 []) (hZ : sv_Z E X (some .int) (some (.int q.1)) (gh_w E T q.2) sz 0 0) (hR : sv_R X = { frames := 1, cells := 0, slots := 0, locals := 22 }) (hN : sv_nL X = 13) (hT : gh_ok T) (o_a0 : gh_is T a0 1) : ∀ (n : Nat) (V : gh_V) (x8 : Int32) (x9 : Int32) (x10 : Int32), f_X1_digits_167 T a0 n V x8 x9 x10 = some q → sv_J E X (gh_w E T V) sz 0 0 167 [(8, .int x8), (9, .int x9), (10, .int x10)] [] := by
  intro n
  induction n with
  | zero =>
    intro V x8 x9 x10 hf
    rw [f_X1_digits_167] at hf
    cases hf
  | succ n ih =>
    intro V x8 x9 x10 hf
    rw [f_X1_digits_167] at hf
    refine sv_iload 2 C dX1_digits_167 rfl ?_
    refine sv_iload 1 C dX1_digits_169 rfl ?_
    refine sv_icmp_ge (tgt := 187) C dX1_digits_171 (by decide) (fun c171 => ?_) (fun c171 => ?_)
    · replace hf := sv_if_t c171 hf
      refine sv_iload 0 C dX1_digits_187 rfl ?_
      exact sv_iret C (by cases hf; exact hZ) dX1_digits_189
    · replace hf := sv_if_f c171 hf
      refine sv_iload 0 C dX1_digits_174 rfl ?_
      refine sv_bipush (v := 10) C dX1_digits_176 (by decide) ?_
      refine sv_imul C dX1_digits_178 ?_
      refine sv_istore (lv' := [(8, .int (x8 * 10)), (9, .int x9), (10, .int x10)]) C dX1_digits_179 (by rw [hN]; decide) rfl ?_
      refine sv_iinc (v := x10 + 1) (lv' := [(10, .int (x10 + 1)), (8, .int (x8 * 10)), (9, .int x9)]) 2 C dX1_digits_181 rfl rfl (by rw [hN]; decide) rfl ?_
      refine sv_goto (tgt := 167) C dX1_digits_184 (by decide) ?_
      refine sv_sub (lv' := [(8, .int (x8 * 10)), (9, .int x9), (10, .int (x10 + 1))]) [1, 2, 0] rfl ?_
      exact ih _ _ _ _ hf
set_option maxHeartbeats 4000000 in
set_option maxRecDepth 100000 in
theorem w_X1_digits_164 {E : sv_E} {X : sv_X} {sz : Nat} {q : Int32 × gh_V} {T : gh_T} {a0 : Nat} (C : sv_C E X cX1_digits RX1 []) (hZ : sv_Z E X (some .int) (some (.int q.1)) (gh_w E T q.2) sz 0 0) (hR : sv_R X = { frames := 1, cells := 0, slots := 0, locals := 22 }) (hN : sv_nL X = 13) (hT : gh_ok T) (o_a0 : gh_is T a0 1) (V : gh_V) (x8 : Int32) (x9 : Int32) (hf : f_X1_digits_164 T a0 V x8 x9 = some q) : sv_J E X (gh_w E T V) sz 0 0 164 [(8, .int x8), (9, .int x9)] [] := by
  rw [f_X1_digits_164] at hf
  refine sv_iconst (v := 0) C dX1_digits_164 (by decide) ?_
  refine sv_istore (lv' := [(10, .int 0), (8, .int x8), (9, .int x9)]) C dX1_digits_165 (by rw [hN]; decide) rfl ?_
  refine sv_sub (lv' := [(8, .int x8), (9, .int x9), (10, .int 0)]) [1, 2, 0] rfl ?_
  exact w_X1_digits_167 C hZ hR hN hT o_a0 sv_fu _ _ _ _ hf
set_option maxHeartbeats 4000000 in
set_option maxRecDepth 100000 in
theorem w_X1_digits_116 {E : sv_E} {X : sv_X} {sz : Nat} {q : Int32 × gh_V} {T : gh_T} {a0 : Nat} (C : sv_C E X cX1_digits RX1 []) (hZ : sv_Z E X (some .int) (some (.int q.1)) (gh_w E T q.2) sz 0 0) (hR : sv_R X = { frames := 1, cells := 0, slots := 0, locals := 22 }) (hN : sv_nL X = 13) (hT : gh_ok T) (o_a0 : gh_is T a0 1) : ∀ (n : Nat) (V : gh_V) (x2 : Int32) (x8 : Int32) (x9 : Int32) (x11 : Int32), f_X1_digits_116 T a0 n V x2 x8 x9 x11 = some q → sv_J E X (gh_w E T V) sz 0 0 116 [(0, .ref a0), (2, .int x2), (8, .int x8), (9, .int x9), (11, .int x11)] [] := by
  intro n
  induction n with
  | zero =>
    intro V x2 x8 x9 x11 hf
    rw [f_X1_digits_116] at hf
    cases hf
  | succ n ih =>
    intro V x2 x8 x9 x11 hf
    rw [f_X1_digits_116] at hf
    refine sv_iload 4 C dX1_digits_116 rfl ?_
    refine sv_iload_n 1 C dX1_digits_118 rfl rfl ?_
    refine sv_icmp_ge (tgt := 164) C dX1_digits_119 (by decide) (fun c119 => ?_) (fun c119 => ?_)
    · replace hf := sv_if_t c119 hf
      refine sv_sub (lv' := [(8, .int x8), (9, .int x9)]) [2, 3] rfl ?_
      exact w_X1_digits_164 C hZ hR hN hT o_a0 _ _ _ hf
    · replace hf := sv_if_f c119 hf
      refine sv_aload_n 0 C dX1_digits_122 rfl rfl ?_
      refine sv_iload 4 C dX1_digits_123 rfl ?_
      obtain ⟨q125, hc125, hf⟩ := sv_bind_some hf
      refine gh_callV0 C mv_X1_63 (m_X1_digitAt (sv_l X) E T sz _ _ _ _ hc125 hT o_a0) sv_sx0 o_a0 (by decide) rfl rfl rfl (Nat.le_of_ble_eq_true rfl) ⟨by rw [hR]; decide, by rw [hR]; decide⟩ ⟨by rw [hR]; decide, by rw [hR]; decide⟩ dX1_digits_125 ?_
      refine sv_istore (lv' := [(12, .int q125.1), (0, .ref a0), (2, .int x2), (8, .int x8), (9, .int x9), (11, .int x11)]) C dX1_digits_128 (by rw [hN]; decide) rfl ?_
      refine sv_iload 0 C dX1_digits_130 rfl ?_
      refine sv_if_ge (tgt := 140) C dX1_digits_132 (by decide) (fun c132 => ?_) (fun c132 => ?_)
      · replace hf := sv_if_t c132 hf
        refine sv_iload 4 C dX1_digits_140 rfl ?_
        refine sv_if_le (tgt := 158) C dX1_digits_142 (by decide) (fun c142 => ?_) (fun c142 => ?_)
        · replace hf := sv_if_t c142 hf
          refine sv_sub (lv' := [(0, .ref a0), (2, .int x2), (8, .int x8), (9, .int x9), (11, .int x11)]) [1, 2, 3, 4, 5] rfl ?_
          exact w_X1_digits_158 C hZ hR hN hT o_a0 ih _ _ _ _ _ hf
        · replace hf := sv_if_f c142 hf
          refine sv_iload 3 C dX1_digits_145 rfl ?_
          refine sv_bipush (v := 10) C dX1_digits_147 (by decide) ?_
          refine sv_imul C dX1_digits_149 ?_
          refine sv_iload 0 C dX1_digits_150 rfl ?_
          refine sv_iadd C dX1_digits_152 ?_
          refine sv_istore (lv' := [(8, .int ((x8 * 10) + q125.1)), (12, .int q125.1), (0, .ref a0), (2, .int x2), (9, .int x9), (11, .int x11)]) C dX1_digits_153 (by rw [hN]; decide) rfl ?_
          refine sv_iinc (v := x9 + (-1)) (lv' := [(9, .int (x9 + (-1))), (8, .int ((x8 * 10) + q125.1)), (12, .int q125.1), (0, .ref a0), (2, .int x2), (11, .int x11)]) 4 C dX1_digits_155 rfl rfl (by rw [hN]; decide) rfl ?_
          refine sv_sub (lv' := [(0, .ref a0), (2, .int x2), (8, .int ((x8 * 10) + q125.1)), (9, .int (x9 + (-1))), (11, .int x11)]) [3, 4, 1, 0, 5] rfl ?_
          exact w_X1_digits_158 C hZ hR hN hT o_a0 ih _ _ _ _ _ hf
      · replace hf := sv_if_f c132 hf
        refine sv_aload_n 1 C dX1_digits_135 rfl rfl ?_
        obtain ⟨q136, hc136, hf⟩ := sv_bind_some hf
        refine gh_callV0 C mv_X1_66 (m_X1_wrong (sv_l X) E T sz _ _ _ hc136 hT o_a0) sv_sx0 o_a0 (by decide) rfl rfl rfl (Nat.le_of_ble_eq_true rfl) ⟨by rw [hR]; decide, by rw [hR]; decide⟩ ⟨by rw [hR]; decide, by rw [hR]; decide⟩ dX1_digits_136 ?_
        exact sv_iret C (by cases hf; exact hZ) dX1_digits_139
set_option maxHeartbeats 4000000 in
set_option maxRecDepth 100000 in
theorem w_X1_digits_50 {E : sv_E} {X : sv_X} {sz : Nat} {q : Int32 × gh_V} {T : gh_T} {a0 : Nat} (C : sv_C E X cX1_digits RX1 []) (hZ : sv_Z E X (some .int) (some (.int q.1)) (gh_w E T q.2) sz 0 0) (hR : sv_R X = { frames := 1, cells := 0, slots := 0, locals := 22 }) (hN : sv_nL X = 13) (hT : gh_ok T) (o_a0 : gh_is T a0 1) (V : gh_V) (x1 : Int32) (x2 : Int32) (x3 : Int32) (x5 : Int32) (x6 : Int32) (x7 : Int32) (x8 : Int32) (hf : f_X1_digits_50 T a0 V x1 x2 x3 x5 x6 x7 x8 = some q) : sv_J E X (gh_w E T V) sz 0 0 50 [(0, .ref a0), (1, .int x1), (2, .int x2), (3, .int x3), (5, .int x5), (6, .int x6), (7, .int x7), (8, .int x8)] [] := by
  rw [f_X1_digits_50] at hf
  refine sv_iload 6 C dX1_digits_50 rfl ?_
  refine sv_iload_n 1 C dX1_digits_52 rfl rfl ?_
  refine sv_isub C dX1_digits_53 ?_
  refine sv_iload_n 3 C dX1_digits_54 rfl rfl ?_
  refine sv_icmp_ge (tgt := 63) C dX1_digits_55 (by decide) (fun c55 => ?_) (fun c55 => ?_)
  · replace hf := sv_if_t c55 hf
    refine sv_iload 5 C dX1_digits_63 rfl ?_
    refine sv_istore (lv' := [(9, .int x6), (0, .ref a0), (1, .int x1), (2, .int x2), (3, .int x3), (5, .int x5), (6, .int x6), (7, .int x7), (8, .int x8)]) C dX1_digits_65 (by rw [hN]; decide) rfl ?_
    refine sv_iload 7 C dX1_digits_67 rfl ?_
    refine sv_iload_n 3 C dX1_digits_69 rfl rfl ?_
    refine sv_icmp_ge (tgt := 164) C dX1_digits_70 (by decide) (fun c70 => ?_) (fun c70 => ?_)
    · replace hf := sv_if_t c70 hf
      refine sv_sub (lv' := [(8, .int x8), (9, .int x6)]) [8, 0] rfl ?_
      exact w_X1_digits_164 C hZ hR hN hT o_a0 _ _ _ hf
    · replace hf := sv_if_f c70 hf
      refine sv_iload 7 C dX1_digits_73 rfl ?_
      refine sv_iconst (v := 1) C dX1_digits_75 (by decide) ?_
      refine sv_iadd C dX1_digits_76 ?_
      refine sv_istore (lv' := [(10, .int (x7 + 1)), (9, .int x6), (0, .ref a0), (1, .int x1), (2, .int x2), (3, .int x3), (5, .int x5), (6, .int x6), (7, .int x7), (8, .int x8)]) C dX1_digits_77 (by rw [hN]; decide) rfl ?_
      refine sv_aload_n 2 C dX1_digits_79 rfl rfl ?_
      refine sv_iload 8 C dX1_digits_80 rfl ?_
      obtain ⟨q82, hc82, hf⟩ := sv_bind_some hf
      refine gh_callV0 C mv_X1_74 (m_X1_at (sv_l X) E T sz _ _ _ _ hc82 hT o_a0) sv_sx0 o_a0 (by decide) rfl rfl rfl (Nat.le_of_ble_eq_true rfl) ⟨by rw [hR]; decide, by rw [hR]; decide⟩ ⟨by rw [hR]; decide, by rw [hR]; decide⟩ dX1_digits_82 ?_
      refine sv_bipush (v := 46) C dX1_digits_85 (by decide) ?_
      refine sv_icmp_ne (tgt := 107) C dX1_digits_87 (by decide) (fun c87 => ?_) (fun c87 => ?_)
      · replace hf := sv_if_f c87 hf
        refine sv_sub (lv' := [(0, .ref a0)]) [2] rfl ?_
        exact w_X1_digits_107 C hZ hR hN hT o_a0 _ hf
      · replace hf := sv_if_t c87 hf
        refine sv_iload_n 4 C dX1_digits_90 rfl rfl ?_
        refine sv_iload 0 C dX1_digits_91 rfl ?_
        refine sv_isub C dX1_digits_93 ?_
        refine sv_iconst (v := 1) C dX1_digits_94 (by decide) ?_
        refine sv_icmp_lt (tgt := 107) C dX1_digits_95 (by decide) (fun c95 => ?_) (fun c95 => ?_)
        · replace hf := sv_if_t c95 hf
          refine sv_sub (lv' := [(0, .ref a0)]) [2] rfl ?_
          exact w_X1_digits_107 C hZ hR hN hT o_a0 _ hf
        · replace hf := sv_if_f c95 hf
          refine sv_iload_n 4 C dX1_digits_98 rfl rfl ?_
          refine sv_iload 0 C dX1_digits_99 rfl ?_
          refine sv_isub C dX1_digits_101 ?_
          refine sv_iload 6 C dX1_digits_102 rfl ?_
          refine sv_icmp_le (tgt := 112) C dX1_digits_104 (by decide) (fun c104 => ?_) (fun c104 => ?_)
          · replace hf := sv_if_t c104 hf
            refine sv_iload 0 C dX1_digits_112 rfl ?_
            refine sv_istore (lv' := [(11, .int (x7 + 1)), (10, .int (x7 + 1)), (9, .int x6), (0, .ref a0), (1, .int x1), (2, .int x2), (3, .int x3), (5, .int x5), (6, .int x6), (7, .int x7), (8, .int x8)]) C dX1_digits_114 (by rw [hN]; decide) rfl ?_
            refine sv_sub (lv' := [(0, .ref a0), (2, .int x2), (8, .int x8), (9, .int x6), (11, .int (x7 + 1))]) [3, 5, 10, 2, 0] rfl ?_
            exact w_X1_digits_116 C hZ hR hN hT o_a0 sv_fu _ _ _ _ _ hf
          · replace hf := sv_if_f c104 hf
            refine sv_sub (lv' := [(0, .ref a0)]) [2] rfl ?_
            exact w_X1_digits_107 C hZ hR hN hT o_a0 _ hf
  · replace hf := sv_if_f c55 hf
    refine sv_aload_n 0 C dX1_digits_58 rfl rfl ?_
    obtain ⟨q59, hc59, hf⟩ := sv_bind_some hf
    refine gh_callV0 C mv_X1_66 (m_X1_wrong (sv_l X) E T sz _ _ _ hc59 hT o_a0) sv_sx0 o_a0 (by decide) rfl rfl rfl (Nat.le_of_ble_eq_true rfl) ⟨by rw [hR]; decide, by rw [hR]; decide⟩ ⟨by rw [hR]; decide, by rw [hR]; decide⟩ dX1_digits_59 ?_
    exact sv_iret C (by cases hf; exact hZ) dX1_digits_62
set_option maxHeartbeats 4000000 in
set_option maxRecDepth 100000 in
theorem w_X1_digits_6 {E : sv_E} {X : sv_X} {sz : Nat} {q : Int32 × gh_V} {T : gh_T} {a0 : Nat} (C : sv_C E X cX1_digits RX1 []) (hZ : sv_Z E X (some .int) (some (.int q.1)) (gh_w E T q.2) sz 0 0) (hR : sv_R X = { frames := 1, cells := 0, slots := 0, locals := 22 }) (hN : sv_nL X = 13) (hT : gh_ok T) (o_a0 : gh_is T a0 1) : ∀ (n : Nat) (V : gh_V) (x1 : Int32) (x2 : Int32) (x3 : Int32) (x4 : Int32) (x5 : Int32) (x6 : Int32) (x7 : Int32) (x8 : Int32), f_X1_digits_6 T a0 n V x1 x2 x3 x4 x5 x6 x7 x8 = some q → sv_J E X (gh_w E T V) sz 0 0 6 [(0, .ref a0), (1, .int x1), (2, .int x2), (3, .int x3), (4, .int x4), (5, .int x5), (6, .int x6), (7, .int x7), (8, .int x8)] [] := by
  intro n
  induction n with
  | zero =>
    intro V x1 x2 x3 x4 x5 x6 x7 x8 hf
    rw [f_X1_digits_6] at hf
    cases hf
  | succ n ih =>
    intro V x1 x2 x3 x4 x5 x6 x7 x8 hf
    rw [f_X1_digits_6] at hf
    refine sv_iload 7 C dX1_digits_6 rfl ?_
    refine sv_iload_n 2 C dX1_digits_8 rfl rfl ?_
    refine sv_icmp_ge (tgt := 50) C dX1_digits_9 (by decide) (fun c9 => ?_) (fun c9 => ?_)
    · replace hf := sv_if_t c9 hf
      refine sv_sub (lv' := [(0, .ref a0), (1, .int x1), (2, .int x2), (3, .int x3), (5, .int x5), (6, .int x6), (7, .int x7), (8, .int x8)]) [0, 1, 2, 3, 5, 6, 7, 8] rfl ?_
      exact w_X1_digits_50 C hZ hR hN hT o_a0 _ _ _ _ _ _ _ _ hf
    · replace hf := sv_if_f c9 hf
      refine sv_iload 7 C dX1_digits_12 rfl ?_
      refine sv_iload_n 1 C dX1_digits_14 rfl rfl ?_
      refine sv_isub C dX1_digits_15 ?_
      refine sv_iload 4 C dX1_digits_16 rfl ?_
      refine sv_icmp_ge (tgt := 50) C dX1_digits_18 (by decide) (fun c18 => ?_) (fun c18 => ?_)
      · replace hf := sv_if_t c18 hf
        refine sv_sub (lv' := [(0, .ref a0), (1, .int x1), (2, .int x2), (3, .int x3), (5, .int x5), (6, .int x6), (7, .int x7), (8, .int x8)]) [0, 1, 2, 3, 5, 6, 7, 8] rfl ?_
        exact w_X1_digits_50 C hZ hR hN hT o_a0 _ _ _ _ _ _ _ _ hf
      · replace hf := sv_if_f c18 hf
        refine sv_aload_n 0 C dX1_digits_21 rfl rfl ?_
        refine sv_iload 7 C dX1_digits_22 rfl ?_
        obtain ⟨q24, hc24, hf⟩ := sv_bind_some hf
        refine gh_callV0 C mv_X1_63 (m_X1_digitAt (sv_l X) E T sz _ _ _ _ hc24 hT o_a0) sv_sx0 o_a0 (by decide) rfl rfl rfl (Nat.le_of_ble_eq_true rfl) ⟨by rw [hR]; decide, by rw [hR]; decide⟩ ⟨by rw [hR]; decide, by rw [hR]; decide⟩ dX1_digits_24 ?_
        refine sv_if_lt (tgt := 50) C dX1_digits_27 (by decide) (fun c27 => ?_) (fun c27 => ?_)
        · replace hf := sv_if_t c27 hf
          refine sv_sub (lv' := [(0, .ref a0), (1, .int x1), (2, .int x2), (3, .int x3), (5, .int x5), (6, .int x6), (7, .int x7), (8, .int x8)]) [0, 1, 2, 3, 5, 6, 7, 8] rfl ?_
          exact w_X1_digits_50 C hZ hR hN hT o_a0 _ _ _ _ _ _ _ _ hf
        · replace hf := sv_if_f c27 hf
          refine sv_iload 8 C dX1_digits_30 rfl ?_
          refine sv_bipush (v := 10) C dX1_digits_32 (by decide) ?_
          refine sv_imul C dX1_digits_34 ?_
          refine sv_aload_n 0 C dX1_digits_35 rfl rfl ?_
          refine sv_iload 7 C dX1_digits_36 rfl ?_
          obtain ⟨q38, hc38, hf⟩ := sv_bind_some hf
          refine gh_callV0 C mv_X1_63 (m_X1_digitAt (sv_l X) E T sz _ _ _ _ hc38 hT o_a0) sv_sx0 o_a0 (by decide) rfl rfl rfl (Nat.le_of_ble_eq_true rfl) ⟨by rw [hR]; decide, by rw [hR]; decide⟩ ⟨by rw [hR]; decide, by rw [hR]; decide⟩ dX1_digits_38 ?_
          refine sv_iadd C dX1_digits_41 ?_
          refine sv_istore (lv' := [(8, .int ((x8 * 10) + q38.1)), (0, .ref a0), (1, .int x1), (2, .int x2), (3, .int x3), (4, .int x4), (5, .int x5), (6, .int x6), (7, .int x7)]) C dX1_digits_42 (by rw [hN]; decide) rfl ?_
          refine sv_iinc (v := x7 + 1) (lv' := [(7, .int (x7 + 1)), (8, .int ((x8 * 10) + q38.1)), (0, .ref a0), (1, .int x1), (2, .int x2), (3, .int x3), (4, .int x4), (5, .int x5), (6, .int x6)]) 8 C dX1_digits_44 rfl rfl (by rw [hN]; decide) rfl ?_
          refine sv_goto (tgt := 6) C dX1_digits_47 (by decide) ?_
          refine sv_sub (lv' := [(0, .ref a0), (1, .int x1), (2, .int x2), (3, .int x3), (4, .int x4), (5, .int x5), (6, .int x6), (7, .int (x7 + 1)), (8, .int ((x8 * 10) + q38.1))]) [2, 3, 4, 5, 6, 7, 8, 0, 1] rfl ?_
          exact ih _ _ _ _ _ _ _ _ _ hf
set_option maxHeartbeats 4000000 in
set_option maxRecDepth 100000 in
theorem m_X1_digits (l : Launch) (E : sv_E) (T : gh_T) (sz : Nat) (V : gh_V) (a0 : Nat) (x1 : Int32) (x2 : Int32) (x3 : Int32) (x4 : Int32) (x5 : Int32) (x6 : Int32) (q : Int32 × gh_V) (hf : f_X1_digits T V a0 x1 x2 x3 x4 x5 x6 = some q) (hT : gh_ok T) (o_a0 : gh_is T a0 1) : sv_Met l E yX1_digits cX1_digits 13 (some .int) 1 22 [] [.ref a0, .int x1, .int x2, .int x3, .int x4, .int x5, .int x6] (gh_w E T V) sz (some (.int q.1)) (gh_w E T q.2) sz 0 0 := by
  refine sv_ofJ (by decide) (Nat.le_of_ble_eq_true rfl) ?_
  intro X hX hN hnm hR C hZ
  replace C : sv_C E X cX1_digits RX1 [] := C
  show sv_J E X (gh_w E T V) sz 0 0 0 [(0, .ref a0), (1, .int x1), (2, .int x2), (3, .int x3), (4, .int x4), (5, .int x5), (6, .int x6)] []
  rw [f_X1_digits] at hf
  refine sv_iload_n 1 C dX1_digits_0 rfl rfl ?_
  refine sv_istore (lv' := [(7, .int x1), (0, .ref a0), (1, .int x1), (2, .int x2), (3, .int x3), (4, .int x4), (5, .int x5), (6, .int x6)]) C dX1_digits_1 (by rw [hN]; decide) rfl ?_
  refine sv_iconst (v := 0) C dX1_digits_3 (by decide) ?_
  refine sv_istore (lv' := [(8, .int 0), (7, .int x1), (0, .ref a0), (1, .int x1), (2, .int x2), (3, .int x3), (4, .int x4), (5, .int x5), (6, .int x6)]) C dX1_digits_4 (by rw [hN]; decide) rfl ?_
  refine sv_sub (lv' := [(0, .ref a0), (1, .int x1), (2, .int x2), (3, .int x3), (4, .int x4), (5, .int x5), (6, .int x6), (7, .int x1), (8, .int 0)]) [2, 3, 4, 5, 6, 7, 8, 1, 0] rfl ?_
  exact w_X1_digits_6 C hZ hR hN hT o_a0 sv_fu _ _ _ _ _ _ _ _ _ hf
def f_X1_whole (T : gh_T) (V : gh_V) (a0 : Nat) (x1 : Int32) (x2 : Int32) (x3 : Int32) : Option (Int32 × gh_V) :=
  (f_X1_isEmpty T V a0 x1).bind (fun q2 =>
    if q2.1 = 0 then
      (f_X1_from T q2.2 a0 x1).bind (fun q16 =>
        (f_X1_to T q16.2 a0 x1).bind (fun q21 =>
          (f_X1_digits T q21.2 a0 q16.1 q21.1 x2 x3 0 0).bind (fun q28 =>
            some (q28.1, q28.2))))
    else
      some ((-2147483648), q2.2))
set_option maxHeartbeats 4000000 in
set_option maxRecDepth 100000 in
theorem m_X1_whole (l : Launch) (E : sv_E) (T : gh_T) (sz : Nat) (V : gh_V) (a0 : Nat) (x1 : Int32) (x2 : Int32) (x3 : Int32) (q : Int32 × gh_V) (hf : f_X1_whole T V a0 x1 x2 x3 = some q) (hT : gh_ok T) (o_a0 : gh_is T a0 1) : sv_Met l E yX1_whole cX1_whole 4 (some .int) 2 54 [] [.ref a0, .int x1, .int x2, .int x3] (gh_w E T V) sz (some (.int q.1)) (gh_w E T q.2) sz 0 0 := by
  refine sv_ofJ (by decide) (Nat.le_of_ble_eq_true rfl) ?_
  intro X hX hN hnm hR C hZ
  replace C : sv_C E X cX1_whole RX1 [] := C
  show sv_J E X (gh_w E T V) sz 0 0 0 [(0, .ref a0), (1, .int x1), (2, .int x2), (3, .int x3)] []
  rw [f_X1_whole] at hf
  refine sv_aload_n 0 C dX1_whole_0 rfl rfl ?_
  refine sv_iload_n 1 C dX1_whole_1 rfl rfl ?_
  obtain ⟨q2, hc2, hf⟩ := sv_bind_some hf
  refine gh_callV0 C mv_X1_70 (m_X1_isEmpty (sv_l X) E T sz _ _ _ _ hc2 hT o_a0) sv_sx0 o_a0 (by decide) rfl rfl rfl (Nat.le_of_ble_eq_true rfl) ⟨by rw [hR]; decide, by rw [hR]; decide⟩ ⟨by rw [hR]; decide, by rw [hR]; decide⟩ dX1_whole_2 ?_
  refine sv_if_eq (tgt := 13) C dX1_whole_5 (by decide) (fun c5 => ?_) (fun c5 => ?_)
  · replace hf := sv_if_t c5 hf
    refine sv_aload_n 0 C dX1_whole_13 rfl rfl ?_
    refine sv_aload_n 0 C dX1_whole_14 rfl rfl ?_
    refine sv_iload_n 1 C dX1_whole_15 rfl rfl ?_
    obtain ⟨q16, hc16, hf⟩ := sv_bind_some hf
    refine gh_callV0 C mv_X1_59 (m_X1_from (sv_l X) E T sz _ _ _ _ hc16 hT o_a0) sv_sx0 o_a0 (by decide) rfl rfl rfl (Nat.le_of_ble_eq_true rfl) ⟨by rw [hR]; decide, by rw [hR]; decide⟩ ⟨by rw [hR]; decide, by rw [hR]; decide⟩ dX1_whole_16 ?_
    refine sv_aload_n 0 C dX1_whole_19 rfl rfl ?_
    refine sv_iload_n 1 C dX1_whole_20 rfl rfl ?_
    obtain ⟨q21, hc21, hf⟩ := sv_bind_some hf
    refine gh_callV0 C mv_X1_36 (m_X1_to (sv_l X) E T sz _ _ _ _ hc21 hT o_a0) sv_sx0 o_a0 (by decide) rfl rfl rfl (Nat.le_of_ble_eq_true rfl) ⟨by rw [hR]; decide, by rw [hR]; decide⟩ ⟨by rw [hR]; decide, by rw [hR]; decide⟩ dX1_whole_21 ?_
    refine sv_iload_n 2 C dX1_whole_24 rfl rfl ?_
    refine sv_iload_n 3 C dX1_whole_25 rfl rfl ?_
    refine sv_iconst (v := 0) C dX1_whole_26 (by decide) ?_
    refine sv_iconst (v := 0) C dX1_whole_27 (by decide) ?_
    obtain ⟨q28, hc28, hf⟩ := sv_bind_some hf
    refine gh_callV0 C mv_X1_78 (m_X1_digits (sv_l X) E T sz _ _ _ _ _ _ _ _ _ hc28 hT o_a0) sv_sx0 o_a0 (by decide) rfl rfl rfl (Nat.le_of_ble_eq_true rfl) ⟨by rw [hR]; decide, by rw [hR]; decide⟩ ⟨by rw [hR]; decide, by rw [hR]; decide⟩ dX1_whole_28 ?_
    exact sv_iret C (by cases hf; exact hZ) dX1_whole_31
  · replace hf := sv_if_f c5 hf
    refine sv_ldc C kw_81 dX1_whole_8 ?_
    refine sv_goto (tgt := 31) C dX1_whole_10 (by decide) ?_
    exact sv_iret C (by cases hf; exact hZ) dX1_whole_31
def f_X1_decimal (T : gh_T) (V : gh_V) (a0 : Nat) (x1 : Int32) (x2 : Int32) (x3 : Int32) : Option (Int32 × gh_V) :=
  (f_X1_isEmpty T V a0 x1).bind (fun q2 =>
    if q2.1 = 0 then
      (f_X1_from T q2.2 a0 x1).bind (fun q16 =>
        (f_X1_to T q16.2 a0 x1).bind (fun q21 =>
          (f_X1_digits T q21.2 a0 q16.1 q21.1 1 x3 6 x2).bind (fun q29 =>
            some (q29.1, q29.2))))
    else
      some ((-2147483648), q2.2))
set_option maxHeartbeats 4000000 in
set_option maxRecDepth 100000 in
theorem m_X1_decimal (l : Launch) (E : sv_E) (T : gh_T) (sz : Nat) (V : gh_V) (a0 : Nat) (x1 : Int32) (x2 : Int32) (x3 : Int32) (q : Int32 × gh_V) (hf : f_X1_decimal T V a0 x1 x2 x3 = some q) (hT : gh_ok T) (o_a0 : gh_is T a0 1) : sv_Met l E yX1_decimal cX1_decimal 4 (some .int) 2 54 [] [.ref a0, .int x1, .int x2, .int x3] (gh_w E T V) sz (some (.int q.1)) (gh_w E T q.2) sz 0 0 := by
  refine sv_ofJ (by decide) (Nat.le_of_ble_eq_true rfl) ?_
  intro X hX hN hnm hR C hZ
  replace C : sv_C E X cX1_decimal RX1 [] := C
  show sv_J E X (gh_w E T V) sz 0 0 0 [(0, .ref a0), (1, .int x1), (2, .int x2), (3, .int x3)] []
  rw [f_X1_decimal] at hf
  refine sv_aload_n 0 C dX1_decimal_0 rfl rfl ?_
  refine sv_iload_n 1 C dX1_decimal_1 rfl rfl ?_
  obtain ⟨q2, hc2, hf⟩ := sv_bind_some hf
  refine gh_callV0 C mv_X1_70 (m_X1_isEmpty (sv_l X) E T sz _ _ _ _ hc2 hT o_a0) sv_sx0 o_a0 (by decide) rfl rfl rfl (Nat.le_of_ble_eq_true rfl) ⟨by rw [hR]; decide, by rw [hR]; decide⟩ ⟨by rw [hR]; decide, by rw [hR]; decide⟩ dX1_decimal_2 ?_
  refine sv_if_eq (tgt := 13) C dX1_decimal_5 (by decide) (fun c5 => ?_) (fun c5 => ?_)
  · replace hf := sv_if_t c5 hf
    refine sv_aload_n 0 C dX1_decimal_13 rfl rfl ?_
    refine sv_aload_n 0 C dX1_decimal_14 rfl rfl ?_
    refine sv_iload_n 1 C dX1_decimal_15 rfl rfl ?_
    obtain ⟨q16, hc16, hf⟩ := sv_bind_some hf
    refine gh_callV0 C mv_X1_59 (m_X1_from (sv_l X) E T sz _ _ _ _ hc16 hT o_a0) sv_sx0 o_a0 (by decide) rfl rfl rfl (Nat.le_of_ble_eq_true rfl) ⟨by rw [hR]; decide, by rw [hR]; decide⟩ ⟨by rw [hR]; decide, by rw [hR]; decide⟩ dX1_decimal_16 ?_
    refine sv_aload_n 0 C dX1_decimal_19 rfl rfl ?_
    refine sv_iload_n 1 C dX1_decimal_20 rfl rfl ?_
    obtain ⟨q21, hc21, hf⟩ := sv_bind_some hf
    refine gh_callV0 C mv_X1_36 (m_X1_to (sv_l X) E T sz _ _ _ _ hc21 hT o_a0) sv_sx0 o_a0 (by decide) rfl rfl rfl (Nat.le_of_ble_eq_true rfl) ⟨by rw [hR]; decide, by rw [hR]; decide⟩ ⟨by rw [hR]; decide, by rw [hR]; decide⟩ dX1_decimal_21 ?_
    refine sv_iconst (v := 1) C dX1_decimal_24 (by decide) ?_
    refine sv_iload_n 3 C dX1_decimal_25 rfl rfl ?_
    refine sv_bipush (v := 6) C dX1_decimal_26 (by decide) ?_
    refine sv_iload_n 2 C dX1_decimal_28 rfl rfl ?_
    obtain ⟨q29, hc29, hf⟩ := sv_bind_some hf
    refine gh_callV0 C mv_X1_78 (m_X1_digits (sv_l X) E T sz _ _ _ _ _ _ _ _ _ hc29 hT o_a0) sv_sx0 o_a0 (by decide) rfl rfl rfl (Nat.le_of_ble_eq_true rfl) ⟨by rw [hR]; decide, by rw [hR]; decide⟩ ⟨by rw [hR]; decide, by rw [hR]; decide⟩ dX1_decimal_29 ?_
    exact sv_iret C (by cases hf; exact hZ) dX1_decimal_32
  · replace hf := sv_if_f c5 hf
    refine sv_ldc C kw_81 dX1_decimal_8 ?_
    refine sv_goto (tgt := 32) C dX1_decimal_10 (by decide) ?_
    exact sv_iret C (by cases hf; exact hZ) dX1_decimal_32
def f_X1_signed (T : gh_T) (V : gh_V) (a0 : Nat) (x1 : Int32) (x2 : Int32) (x3 : Int32) : Option (Int32 × gh_V) :=
  (f_X1_from T V a0 x1).bind (fun q3 =>
    (f_X1_at T q3.2 a0 q3.1).bind (fun q6 =>
      if q6.1 = 45 then
        (f_X1_from T q6.2 a0 x1).bind (fun q25 =>
          (f_X1_to T q25.2 a0 x1).bind (fun q32 =>
            (f_X1_digits T q32.2 a0 (q25.1 + 1) q32.1 1 x3 6 x2).bind (fun q40 =>
              if q40.1 = (-2147483648) then
                some ((-2147483648), q40.2)
              else
                some (-q40.1, q40.2))))
      else
        (f_X1_decimal T q6.2 a0 x1 x2 x3).bind (fun q18 =>
          some (q18.1, q18.2))))
set_option maxHeartbeats 4000000 in
set_option maxRecDepth 100000 in
theorem m_X1_signed (l : Launch) (E : sv_E) (T : gh_T) (sz : Nat) (V : gh_V) (a0 : Nat) (x1 : Int32) (x2 : Int32) (x3 : Int32) (q : Int32 × gh_V) (hf : f_X1_signed T V a0 x1 x2 x3 = some q) (hT : gh_ok T) (o_a0 : gh_is T a0 1) : sv_Met l E yX1_signed cX1_signed 5 (some .int) 3 77 [] [.ref a0, .int x1, .int x2, .int x3] (gh_w E T V) sz (some (.int q.1)) (gh_w E T q.2) sz 0 0 := by
  refine sv_ofJ (by decide) (Nat.le_of_ble_eq_true rfl) ?_
  intro X hX hN hnm hR C hZ
  replace C : sv_C E X cX1_signed RX1 [] := C
  show sv_J E X (gh_w E T V) sz 0 0 0 [(0, .ref a0), (1, .int x1), (2, .int x2), (3, .int x3)] []
  rw [f_X1_signed] at hf
  refine sv_aload_n 0 C dX1_signed_0 rfl rfl ?_
  refine sv_aload_n 0 C dX1_signed_1 rfl rfl ?_
  refine sv_iload_n 1 C dX1_signed_2 rfl rfl ?_
  obtain ⟨q3, hc3, hf⟩ := sv_bind_some hf
  refine gh_callV0 C mv_X1_59 (m_X1_from (sv_l X) E T sz _ _ _ _ hc3 hT o_a0) sv_sx0 o_a0 (by decide) rfl rfl rfl (Nat.le_of_ble_eq_true rfl) ⟨by rw [hR]; decide, by rw [hR]; decide⟩ ⟨by rw [hR]; decide, by rw [hR]; decide⟩ dX1_signed_3 ?_
  obtain ⟨q6, hc6, hf⟩ := sv_bind_some hf
  refine gh_callV0 C mv_X1_74 (m_X1_at (sv_l X) E T sz _ _ _ _ hc6 hT o_a0) sv_sx0 o_a0 (by decide) rfl rfl rfl (Nat.le_of_ble_eq_true rfl) ⟨by rw [hR]; decide, by rw [hR]; decide⟩ ⟨by rw [hR]; decide, by rw [hR]; decide⟩ dX1_signed_6 ?_
  refine sv_bipush (v := 45) C dX1_signed_9 (by decide) ?_
  refine sv_icmp_eq (tgt := 22) C dX1_signed_11 (by decide) (fun c11 => ?_) (fun c11 => ?_)
  · replace hf := sv_if_t c11 hf
    refine sv_aload_n 0 C dX1_signed_22 rfl rfl ?_
    refine sv_aload_n 0 C dX1_signed_23 rfl rfl ?_
    refine sv_iload_n 1 C dX1_signed_24 rfl rfl ?_
    obtain ⟨q25, hc25, hf⟩ := sv_bind_some hf
    refine gh_callV0 C mv_X1_59 (m_X1_from (sv_l X) E T sz _ _ _ _ hc25 hT o_a0) sv_sx0 o_a0 (by decide) rfl rfl rfl (Nat.le_of_ble_eq_true rfl) ⟨by rw [hR]; decide, by rw [hR]; decide⟩ ⟨by rw [hR]; decide, by rw [hR]; decide⟩ dX1_signed_25 ?_
    refine sv_iconst (v := 1) C dX1_signed_28 (by decide) ?_
    refine sv_iadd C dX1_signed_29 ?_
    refine sv_aload_n 0 C dX1_signed_30 rfl rfl ?_
    refine sv_iload_n 1 C dX1_signed_31 rfl rfl ?_
    obtain ⟨q32, hc32, hf⟩ := sv_bind_some hf
    refine gh_callV0 C mv_X1_36 (m_X1_to (sv_l X) E T sz _ _ _ _ hc32 hT o_a0) sv_sx0 o_a0 (by decide) rfl rfl rfl (Nat.le_of_ble_eq_true rfl) ⟨by rw [hR]; decide, by rw [hR]; decide⟩ ⟨by rw [hR]; decide, by rw [hR]; decide⟩ dX1_signed_32 ?_
    refine sv_iconst (v := 1) C dX1_signed_35 (by decide) ?_
    refine sv_iload_n 3 C dX1_signed_36 rfl rfl ?_
    refine sv_bipush (v := 6) C dX1_signed_37 (by decide) ?_
    refine sv_iload_n 2 C dX1_signed_39 rfl rfl ?_
    obtain ⟨q40, hc40, hf⟩ := sv_bind_some hf
    refine gh_callV0 C mv_X1_78 (m_X1_digits (sv_l X) E T sz _ _ _ _ _ _ _ _ _ hc40 hT o_a0) sv_sx0 o_a0 (by decide) rfl rfl rfl (Nat.le_of_ble_eq_true rfl) ⟨by rw [hR]; decide, by rw [hR]; decide⟩ ⟨by rw [hR]; decide, by rw [hR]; decide⟩ dX1_signed_40 ?_
    refine sv_istore (lv' := [(4, .int q40.1), (0, .ref a0), (1, .int x1), (2, .int x2), (3, .int x3)]) C dX1_signed_43 (by rw [hN]; decide) rfl ?_
    refine sv_iload 0 C dX1_signed_45 rfl ?_
    refine sv_ldc C kw_81 dX1_signed_47 ?_
    refine sv_icmp_ne (tgt := 57) C dX1_signed_49 (by decide) (fun c49 => ?_) (fun c49 => ?_)
    · replace hf := sv_if_f c49 hf
      refine sv_iload 0 C dX1_signed_57 rfl ?_
      refine sv_ineg C dX1_signed_59 ?_
      exact sv_iret C (by cases hf; exact hZ) dX1_signed_60
    · replace hf := sv_if_t c49 hf
      refine sv_ldc C kw_81 dX1_signed_52 ?_
      refine sv_goto (tgt := 60) C dX1_signed_54 (by decide) ?_
      exact sv_iret C (by cases hf; exact hZ) dX1_signed_60
  · replace hf := sv_if_f c11 hf
    refine sv_aload_n 0 C dX1_signed_14 rfl rfl ?_
    refine sv_iload_n 1 C dX1_signed_15 rfl rfl ?_
    refine sv_iload_n 2 C dX1_signed_16 rfl rfl ?_
    refine sv_iload_n 3 C dX1_signed_17 rfl rfl ?_
    obtain ⟨q18, hc18, hf⟩ := sv_bind_some hf
    refine gh_callV0 C mv_X1_82 (m_X1_decimal (sv_l X) E T sz _ _ _ _ _ _ hc18 hT o_a0) sv_sx0 o_a0 (by decide) rfl rfl rfl (Nat.le_of_ble_eq_true rfl) ⟨by rw [hR]; decide, by rw [hR]; decide⟩ ⟨by rw [hR]; decide, by rw [hR]; decide⟩ dX1_signed_18 ?_
    exact sv_iret C (by cases hf; exact hZ) dX1_signed_21
def f_X1_course (T : gh_T) (V : gh_V) (a0 : Nat) (x1 : Int32) : Option (Int32 × gh_V) :=
  (f_X1_decimal T V a0 x1 2 3).bind (fun q4 =>
    if 36000 ≤ q4.1 then
      (f_X1_wrong T q4.2 a0).bind (fun q19 =>
        some (q19.1, q19.2))
    else
      some (q4.1, q4.2))
set_option maxHeartbeats 4000000 in
set_option maxRecDepth 100000 in
theorem m_X1_course (l : Launch) (E : sv_E) (T : gh_T) (sz : Nat) (V : gh_V) (a0 : Nat) (x1 : Int32) (q : Int32 × gh_V) (hf : f_X1_course T V a0 x1 = some q) (hT : gh_ok T) (o_a0 : gh_is T a0 1) : sv_Met l E yX1_course cX1_course 3 (some .int) 3 77 [] [.ref a0, .int x1] (gh_w E T V) sz (some (.int q.1)) (gh_w E T q.2) sz 0 0 := by
  refine sv_ofJ (by decide) (Nat.le_of_ble_eq_true rfl) ?_
  intro X hX hN hnm hR C hZ
  replace C : sv_C E X cX1_course RX1 [] := C
  show sv_J E X (gh_w E T V) sz 0 0 0 [(0, .ref a0), (1, .int x1)] []
  rw [f_X1_course] at hf
  refine sv_aload_n 0 C dX1_course_0 rfl rfl ?_
  refine sv_iload_n 1 C dX1_course_1 rfl rfl ?_
  refine sv_iconst (v := 2) C dX1_course_2 (by decide) ?_
  refine sv_iconst (v := 3) C dX1_course_3 (by decide) ?_
  obtain ⟨q4, hc4, hf⟩ := sv_bind_some hf
  refine gh_callV0 C mv_X1_82 (m_X1_decimal (sv_l X) E T sz _ _ _ _ _ _ hc4 hT o_a0) sv_sx0 o_a0 (by decide) rfl rfl rfl (Nat.le_of_ble_eq_true rfl) ⟨by rw [hR]; decide, by rw [hR]; decide⟩ ⟨by rw [hR]; decide, by rw [hR]; decide⟩ dX1_course_4 ?_
  refine sv_istore_n (lv' := [(2, .int q4.1), (0, .ref a0), (1, .int x1)]) C dX1_course_7 rfl (by rw [hN]; decide) rfl ?_
  refine sv_iload_n 0 C dX1_course_8 rfl rfl ?_
  refine sv_ldc C kw_174 dX1_course_9 ?_
  refine sv_icmp_ge (tgt := 18) C dX1_course_11 (by decide) (fun c11 => ?_) (fun c11 => ?_)
  · replace hf := sv_if_t c11 hf
    refine sv_aload_n 1 C dX1_course_18 rfl rfl ?_
    obtain ⟨q19, hc19, hf⟩ := sv_bind_some hf
    refine gh_callV0 C mv_X1_66 (m_X1_wrong (sv_l X) E T sz _ _ _ hc19 hT o_a0) sv_sx0 o_a0 (by decide) rfl rfl rfl (Nat.le_of_ble_eq_true rfl) ⟨by rw [hR]; decide, by rw [hR]; decide⟩ ⟨by rw [hR]; decide, by rw [hR]; decide⟩ dX1_course_19 ?_
    exact sv_iret C (by cases hf; exact hZ) dX1_course_22
  · replace hf := sv_if_f c11 hf
    refine sv_iload_n 0 C dX1_course_14 rfl rfl ?_
    refine sv_goto (tgt := 22) C dX1_course_15 (by decide) ?_
    exact sv_iret C (by cases hf; exact hZ) dX1_course_22
def f_X1_onSide_53 (T : gh_T) (a0 : Nat) (V : gh_V) (x1 : Int32) (x3 : Int32) (x4 : Int32) (s0 : Int32) : Option (Int32 × gh_V) :=
  if s0 = x3 then
    some (x1, V)
  else
    if s0 = x4 then
      some (-x1, V)
    else
      (f_X1_wrong T V a0).bind (fun q76 =>
        some (q76.1, q76.2))
def f_X1_onSide (T : gh_T) (V : gh_V) (a0 : Nat) (x1 : Int32) (x2 : Int32) (x3 : Int32) (x4 : Int32) : Option (Int32 × gh_V) :=
  if x1 = (-2147483648) then
    (f_X1_isEmpty T V a0 x2).bind (fun q8 =>
      if q8.1 = 0 then
        (f_X1_wrong T q8.2 a0).bind (fun q20 =>
          some (q20.1, q20.2))
      else
        some ((-2147483648), q8.2))
  else
    (f_X1_to T V a0 x2).bind (fun q26 =>
      (f_X1_from T q26.2 a0 x2).bind (fun q31 =>
        if (q26.1 - q31.1) = 1 then
          (f_X1_from T q31.2 a0 x2).bind (fun q42 =>
            (f_X1_at T q42.2 a0 q42.1).bind (fun q45 =>
              f_X1_onSide_53 T a0 q45.2 x1 x3 x4 q45.1))
        else
          f_X1_onSide_53 T a0 q31.2 x1 x3 x4 (-2147483648)))
set_option maxHeartbeats 4000000 in
set_option maxRecDepth 100000 in
theorem w_X1_onSide_53 {E : sv_E} {X : sv_X} {sz : Nat} {q : Int32 × gh_V} {T : gh_T} {a0 : Nat} (C : sv_C E X cX1_onSide RX1 []) (hZ : sv_Z E X (some .int) (some (.int q.1)) (gh_w E T q.2) sz 0 0) (hR : sv_R X = { frames := 2, cells := 0, slots := 0, locals := 42 }) (hN : sv_nL X = 6) (hT : gh_ok T) (o_a0 : gh_is T a0 1) (V : gh_V) (x1 : Int32) (x3 : Int32) (x4 : Int32) (s0 : Int32) (hf : f_X1_onSide_53 T a0 V x1 x3 x4 s0 = some q) : sv_J E X (gh_w E T V) sz 0 0 53 [(0, .ref a0), (1, .int x1), (3, .int x3), (4, .int x4)] [.int s0] := by
  rw [f_X1_onSide_53] at hf
  refine sv_istore (lv' := [(5, .int s0), (0, .ref a0), (1, .int x1), (3, .int x3), (4, .int x4)]) C dX1_onSide_53 (by rw [hN]; decide) rfl ?_
  refine sv_iload 0 C dX1_onSide_55 rfl ?_
  refine sv_iload_n 3 C dX1_onSide_57 rfl rfl ?_
  refine sv_icmp_ne (tgt := 63) C dX1_onSide_58 (by decide) (fun c58 => ?_) (fun c58 => ?_)
  · replace hf := sv_if_f c58 hf
    refine sv_iload 0 C dX1_onSide_63 rfl ?_
    refine sv_iload 4 C dX1_onSide_65 rfl ?_
    refine sv_icmp_ne (tgt := 75) C dX1_onSide_67 (by decide) (fun c67 => ?_) (fun c67 => ?_)
    · replace hf := sv_if_f c67 hf
      refine sv_aload_n 1 C dX1_onSide_75 rfl rfl ?_
      obtain ⟨q76, hc76, hf⟩ := sv_bind_some hf
      refine gh_callV0 C mv_X1_66 (m_X1_wrong (sv_l X) E T sz _ _ _ hc76 hT o_a0) sv_sx0 o_a0 (by decide) rfl rfl rfl (Nat.le_of_ble_eq_true rfl) ⟨by rw [hR]; decide, by rw [hR]; decide⟩ ⟨by rw [hR]; decide, by rw [hR]; decide⟩ dX1_onSide_76 ?_
      exact sv_iret C (by cases hf; exact hZ) dX1_onSide_79
    · replace hf := sv_if_t c67 hf
      refine sv_iload_n 2 C dX1_onSide_70 rfl rfl ?_
      refine sv_ineg C dX1_onSide_71 ?_
      refine sv_goto (tgt := 79) C dX1_onSide_72 (by decide) ?_
      exact sv_iret C (by cases hf; exact hZ) dX1_onSide_79
  · replace hf := sv_if_t c58 hf
    refine sv_iload_n 2 C dX1_onSide_61 rfl rfl ?_
    exact sv_iret C (by cases hf; exact hZ) dX1_onSide_62
set_option maxHeartbeats 4000000 in
set_option maxRecDepth 100000 in
theorem m_X1_onSide (l : Launch) (E : sv_E) (T : gh_T) (sz : Nat) (V : gh_V) (a0 : Nat) (x1 : Int32) (x2 : Int32) (x3 : Int32) (x4 : Int32) (q : Int32 × gh_V) (hf : f_X1_onSide T V a0 x1 x2 x3 x4 = some q) (hT : gh_ok T) (o_a0 : gh_is T a0 1) : sv_Met l E yX1_onSide cX1_onSide 6 (some .int) 2 42 [] [.ref a0, .int x1, .int x2, .int x3, .int x4] (gh_w E T V) sz (some (.int q.1)) (gh_w E T q.2) sz 0 0 := by
  refine sv_ofJ (by decide) (Nat.le_of_ble_eq_true rfl) ?_
  intro X hX hN hnm hR C hZ
  replace C : sv_C E X cX1_onSide RX1 [] := C
  show sv_J E X (gh_w E T V) sz 0 0 0 [(0, .ref a0), (1, .int x1), (2, .int x2), (3, .int x3), (4, .int x4)] []
  rw [f_X1_onSide] at hf
  refine sv_iload_n 1 C dX1_onSide_0 rfl rfl ?_
  refine sv_ldc C kw_81 dX1_onSide_1 ?_
  refine sv_icmp_ne (tgt := 24) C dX1_onSide_3 (by decide) (fun c3 => ?_) (fun c3 => ?_)
  · replace hf := sv_if_f c3 hf
    refine sv_aload_n 0 C dX1_onSide_24 rfl rfl ?_
    refine sv_iload_n 2 C dX1_onSide_25 rfl rfl ?_
    obtain ⟨q26, hc26, hf⟩ := sv_bind_some hf
    refine gh_callV0 C mv_X1_36 (m_X1_to (sv_l X) E T sz _ _ _ _ hc26 hT o_a0) sv_sx0 o_a0 (by decide) rfl rfl rfl (Nat.le_of_ble_eq_true rfl) ⟨by rw [hR]; decide, by rw [hR]; decide⟩ ⟨by rw [hR]; decide, by rw [hR]; decide⟩ dX1_onSide_26 ?_
    refine sv_aload_n 0 C dX1_onSide_29 rfl rfl ?_
    refine sv_iload_n 2 C dX1_onSide_30 rfl rfl ?_
    obtain ⟨q31, hc31, hf⟩ := sv_bind_some hf
    refine gh_callV0 C mv_X1_59 (m_X1_from (sv_l X) E T sz _ _ _ _ hc31 hT o_a0) sv_sx0 o_a0 (by decide) rfl rfl rfl (Nat.le_of_ble_eq_true rfl) ⟨by rw [hR]; decide, by rw [hR]; decide⟩ ⟨by rw [hR]; decide, by rw [hR]; decide⟩ dX1_onSide_31 ?_
    refine sv_isub C dX1_onSide_34 ?_
    refine sv_iconst (v := 1) C dX1_onSide_35 (by decide) ?_
    refine sv_icmp_ne (tgt := 51) C dX1_onSide_36 (by decide) (fun c36 => ?_) (fun c36 => ?_)
    · replace hf := sv_if_f c36 hf
      refine sv_ldc C kw_81 dX1_onSide_51 ?_
      refine sv_sub (lv' := [(0, .ref a0), (1, .int x1), (3, .int x3), (4, .int x4)]) [0, 1, 3, 4] rfl ?_
      exact w_X1_onSide_53 C hZ hR hN hT o_a0 _ _ _ _ _ hf
    · replace hf := sv_if_t c36 hf
      refine sv_aload_n 0 C dX1_onSide_39 rfl rfl ?_
      refine sv_aload_n 0 C dX1_onSide_40 rfl rfl ?_
      refine sv_iload_n 2 C dX1_onSide_41 rfl rfl ?_
      obtain ⟨q42, hc42, hf⟩ := sv_bind_some hf
      refine gh_callV0 C mv_X1_59 (m_X1_from (sv_l X) E T sz _ _ _ _ hc42 hT o_a0) sv_sx0 o_a0 (by decide) rfl rfl rfl (Nat.le_of_ble_eq_true rfl) ⟨by rw [hR]; decide, by rw [hR]; decide⟩ ⟨by rw [hR]; decide, by rw [hR]; decide⟩ dX1_onSide_42 ?_
      obtain ⟨q45, hc45, hf⟩ := sv_bind_some hf
      refine gh_callV0 C mv_X1_74 (m_X1_at (sv_l X) E T sz _ _ _ _ hc45 hT o_a0) sv_sx0 o_a0 (by decide) rfl rfl rfl (Nat.le_of_ble_eq_true rfl) ⟨by rw [hR]; decide, by rw [hR]; decide⟩ ⟨by rw [hR]; decide, by rw [hR]; decide⟩ dX1_onSide_45 ?_
      refine sv_goto (tgt := 53) C dX1_onSide_48 (by decide) ?_
      refine sv_sub (lv' := [(0, .ref a0), (1, .int x1), (3, .int x3), (4, .int x4)]) [0, 1, 3, 4] rfl ?_
      exact w_X1_onSide_53 C hZ hR hN hT o_a0 _ _ _ _ _ hf
  · replace hf := sv_if_t c3 hf
    refine sv_aload_n 0 C dX1_onSide_6 rfl rfl ?_
    refine sv_iload_n 2 C dX1_onSide_7 rfl rfl ?_
    obtain ⟨q8, hc8, hf⟩ := sv_bind_some hf
    refine gh_callV0 C mv_X1_70 (m_X1_isEmpty (sv_l X) E T sz _ _ _ _ hc8 hT o_a0) sv_sx0 o_a0 (by decide) rfl rfl rfl (Nat.le_of_ble_eq_true rfl) ⟨by rw [hR]; decide, by rw [hR]; decide⟩ ⟨by rw [hR]; decide, by rw [hR]; decide⟩ dX1_onSide_8 ?_
    refine sv_if_eq (tgt := 19) C dX1_onSide_11 (by decide) (fun c11 => ?_) (fun c11 => ?_)
    · replace hf := sv_if_t c11 hf
      refine sv_aload_n 0 C dX1_onSide_19 rfl rfl ?_
      obtain ⟨q20, hc20, hf⟩ := sv_bind_some hf
      refine gh_callV0 C mv_X1_66 (m_X1_wrong (sv_l X) E T sz _ _ _ hc20 hT o_a0) sv_sx0 o_a0 (by decide) rfl rfl rfl (Nat.le_of_ble_eq_true rfl) ⟨by rw [hR]; decide, by rw [hR]; decide⟩ ⟨by rw [hR]; decide, by rw [hR]; decide⟩ dX1_onSide_20 ?_
      exact sv_iret C (by cases hf; exact hZ) dX1_onSide_23
    · replace hf := sv_if_f c11 hf
      refine sv_ldc C kw_81 dX1_onSide_14 ?_
      refine sv_goto (tgt := 23) C dX1_onSide_16 (by decide) ?_
      exact sv_iret C (by cases hf; exact hZ) dX1_onSide_23
def f_X1_variation (T : gh_T) (V : gh_V) (a0 : Nat) (x1 : Int32) : Option (Int32 × gh_V) :=
  (f_X1_decimal T V a0 x1 1 3).bind (fun q4 =>
    if 1800 < q4.1 then
      (f_X1_wrong T q4.2 a0).bind (fun q31 =>
        some (q31.1, q31.2))
    else
      (f_X1_onSide T q4.2 a0 q4.1 (x1 + 1) 69 87).bind (fun q24 =>
        some (q24.1, q24.2)))
set_option maxHeartbeats 4000000 in
set_option maxRecDepth 100000 in
theorem m_X1_variation (l : Launch) (E : sv_E) (T : gh_T) (sz : Nat) (V : gh_V) (a0 : Nat) (x1 : Int32) (q : Int32 × gh_V) (hf : f_X1_variation T V a0 x1 = some q) (hT : gh_ok T) (o_a0 : gh_is T a0 1) : sv_Met l E yX1_variation cX1_variation 3 (some .int) 3 77 [] [.ref a0, .int x1] (gh_w E T V) sz (some (.int q.1)) (gh_w E T q.2) sz 0 0 := by
  refine sv_ofJ (by decide) (Nat.le_of_ble_eq_true rfl) ?_
  intro X hX hN hnm hR C hZ
  replace C : sv_C E X cX1_variation RX1 [] := C
  show sv_J E X (gh_w E T V) sz 0 0 0 [(0, .ref a0), (1, .int x1)] []
  rw [f_X1_variation] at hf
  refine sv_aload_n 0 C dX1_variation_0 rfl rfl ?_
  refine sv_iload_n 1 C dX1_variation_1 rfl rfl ?_
  refine sv_iconst (v := 1) C dX1_variation_2 (by decide) ?_
  refine sv_iconst (v := 3) C dX1_variation_3 (by decide) ?_
  obtain ⟨q4, hc4, hf⟩ := sv_bind_some hf
  refine gh_callV0 C mv_X1_82 (m_X1_decimal (sv_l X) E T sz _ _ _ _ _ _ hc4 hT o_a0) sv_sx0 o_a0 (by decide) rfl rfl rfl (Nat.le_of_ble_eq_true rfl) ⟨by rw [hR]; decide, by rw [hR]; decide⟩ ⟨by rw [hR]; decide, by rw [hR]; decide⟩ dX1_variation_4 ?_
  refine sv_istore_n (lv' := [(2, .int q4.1), (0, .ref a0), (1, .int x1)]) C dX1_variation_7 rfl (by rw [hN]; decide) rfl ?_
  refine sv_iload_n 0 C dX1_variation_8 rfl rfl ?_
  refine sv_sipush (v := 1800) C dX1_variation_9 (by decide) ?_
  refine sv_icmp_gt (tgt := 30) C dX1_variation_12 (by decide) (fun c12 => ?_) (fun c12 => ?_)
  · replace hf := sv_if_t c12 hf
    refine sv_aload_n 1 C dX1_variation_30 rfl rfl ?_
    obtain ⟨q31, hc31, hf⟩ := sv_bind_some hf
    refine gh_callV0 C mv_X1_66 (m_X1_wrong (sv_l X) E T sz _ _ _ hc31 hT o_a0) sv_sx0 o_a0 (by decide) rfl rfl rfl (Nat.le_of_ble_eq_true rfl) ⟨by rw [hR]; decide, by rw [hR]; decide⟩ ⟨by rw [hR]; decide, by rw [hR]; decide⟩ dX1_variation_31 ?_
    exact sv_iret C (by cases hf; exact hZ) dX1_variation_34
  · replace hf := sv_if_f c12 hf
    refine sv_aload_n 1 C dX1_variation_15 rfl rfl ?_
    refine sv_iload_n 0 C dX1_variation_16 rfl rfl ?_
    refine sv_iload_n 2 C dX1_variation_17 rfl rfl ?_
    refine sv_iconst (v := 1) C dX1_variation_18 (by decide) ?_
    refine sv_iadd C dX1_variation_19 ?_
    refine sv_bipush (v := 69) C dX1_variation_20 (by decide) ?_
    refine sv_bipush (v := 87) C dX1_variation_22 (by decide) ?_
    obtain ⟨q24, hc24, hf⟩ := sv_bind_some hf
    refine gh_callV0 C mv_X1_87 (m_X1_onSide (sv_l X) E T sz _ _ _ _ _ _ _ hc24 hT o_a0) sv_sx0 o_a0 (by decide) rfl rfl rfl (Nat.le_of_ble_eq_true rfl) ⟨by rw [hR]; decide, by rw [hR]; decide⟩ ⟨by rw [hR]; decide, by rw [hR]; decide⟩ dX1_variation_24 ?_
    refine sv_goto (tgt := 34) C dX1_variation_27 (by decide) ?_
    exact sv_iret C (by cases hf; exact hZ) dX1_variation_34
def f_X1_time_83 (T : gh_T) (a0 : Nat) (V : gh_V) : Option (Int32 × gh_V) :=
  (f_X1_wrong T V a0).bind (fun q84 =>
    some (q84.1, q84.2))
def f_X1_time_33 (T : gh_T) (a0 : Nat) (V : gh_V) (s0 : Int32) : Option (Int32 × gh_V) :=
  if s0 = (-2147483648) then
    some ((-2147483648), V)
  else
    if 23 < (s0 / 10000000) then
      f_X1_time_83 T a0 V
    else
      if 59 < ((s0 / 100000) - (s0 / 100000) / 100 * 100) then
        f_X1_time_83 T a0 V
      else
        if (s0 - s0 / 100000 * 100000) ≤ 59999 then
          some (((((s0 / 10000000) * 60) + ((s0 / 100000) - (s0 / 100000) / 100 * 100)) * 60000) + (s0 - s0 / 100000 * 100000), V)
        else
          f_X1_time_83 T a0 V
def f_X1_time (T : gh_T) (V : gh_V) (a0 : Nat) (x1 : Int32) : Option (Int32 × gh_V) :=
  (f_X1_isEmpty T V a0 x1).bind (fun q2 =>
    if q2.1 = 0 then
      (f_X1_from T q2.2 a0 x1).bind (fun q16 =>
        (f_X1_to T q16.2 a0 x1).bind (fun q21 =>
          (f_X1_digits T q21.2 a0 q16.1 q21.1 6 6 3 3).bind (fun q30 =>
            f_X1_time_33 T a0 q30.2 q30.1)))
    else
      f_X1_time_33 T a0 q2.2 (-2147483648))
set_option maxHeartbeats 4000000 in
set_option maxRecDepth 100000 in
theorem w_X1_time_83 {E : sv_E} {X : sv_X} {sz : Nat} {q : Int32 × gh_V} {T : gh_T} {a0 : Nat} (C : sv_C E X cX1_time RX1 []) (hZ : sv_Z E X (some .int) (some (.int q.1)) (gh_w E T q.2) sz 0 0) (hR : sv_R X = { frames := 2, cells := 0, slots := 0, locals := 54 }) (hN : sv_nL X = 6) (hT : gh_ok T) (o_a0 : gh_is T a0 1) (V : gh_V) (hf : f_X1_time_83 T a0 V = some q) : sv_J E X (gh_w E T V) sz 0 0 83 [(0, .ref a0)] [] := by
  rw [f_X1_time_83] at hf
  refine sv_aload_n 0 C dX1_time_83 rfl rfl ?_
  obtain ⟨q84, hc84, hf⟩ := sv_bind_some hf
  refine gh_callV0 C mv_X1_66 (m_X1_wrong (sv_l X) E T sz _ _ _ hc84 hT o_a0) sv_sx0 o_a0 (by decide) rfl rfl rfl (Nat.le_of_ble_eq_true rfl) ⟨by rw [hR]; decide, by rw [hR]; decide⟩ ⟨by rw [hR]; decide, by rw [hR]; decide⟩ dX1_time_84 ?_
  exact sv_iret C (by cases hf; exact hZ) dX1_time_87
set_option maxHeartbeats 4000000 in
set_option maxRecDepth 100000 in
theorem w_X1_time_33 {E : sv_E} {X : sv_X} {sz : Nat} {q : Int32 × gh_V} {T : gh_T} {a0 : Nat} (C : sv_C E X cX1_time RX1 []) (hZ : sv_Z E X (some .int) (some (.int q.1)) (gh_w E T q.2) sz 0 0) (hR : sv_R X = { frames := 2, cells := 0, slots := 0, locals := 54 }) (hN : sv_nL X = 6) (hT : gh_ok T) (o_a0 : gh_is T a0 1) (V : gh_V) (s0 : Int32) (hf : f_X1_time_33 T a0 V s0 = some q) : sv_J E X (gh_w E T V) sz 0 0 33 [(0, .ref a0)] [.int s0] := by
  rw [f_X1_time_33] at hf
  refine sv_istore_n (lv' := [(2, .int s0), (0, .ref a0)]) C dX1_time_33 rfl (by rw [hN]; decide) rfl ?_
  refine sv_iload_n 0 C dX1_time_34 rfl rfl ?_
  refine sv_ldc C kw_81 dX1_time_35 ?_
  refine sv_icmp_ne (tgt := 43) C dX1_time_37 (by decide) (fun c37 => ?_) (fun c37 => ?_)
  · replace hf := sv_if_f c37 hf
    refine sv_iload_n 0 C dX1_time_43 rfl rfl ?_
    refine sv_ldc C kw_179 dX1_time_44 ?_
    refine sv_idiv C dX1_time_46 (by decide) ?_
    refine sv_istore_n (lv' := [(3, .int (s0 / 10000000)), (2, .int s0), (0, .ref a0)]) C dX1_time_47 rfl (by rw [hN]; decide) rfl ?_
    refine sv_iload_n 1 C dX1_time_48 rfl rfl ?_
    refine sv_ldc C kw_180 dX1_time_49 ?_
    refine sv_idiv C dX1_time_51 (by decide) ?_
    refine sv_bipush (v := 100) C dX1_time_52 (by decide) ?_
    refine sv_irem C dX1_time_54 (by decide) ?_
    refine sv_istore (lv' := [(4, .int ((s0 / 100000) - (s0 / 100000) / 100 * 100)), (3, .int (s0 / 10000000)), (2, .int s0), (0, .ref a0)]) C dX1_time_55 (by rw [hN]; decide) rfl ?_
    refine sv_iload_n 2 C dX1_time_57 rfl rfl ?_
    refine sv_ldc C kw_180 dX1_time_58 ?_
    refine sv_irem C dX1_time_60 (by decide) ?_
    refine sv_istore (lv' := [(5, .int (s0 - s0 / 100000 * 100000)), (4, .int ((s0 / 100000) - (s0 / 100000) / 100 * 100)), (3, .int (s0 / 10000000)), (2, .int s0), (0, .ref a0)]) C dX1_time_61 (by rw [hN]; decide) rfl ?_
    refine sv_iload_n 2 C dX1_time_63 rfl rfl ?_
    refine sv_bipush (v := 23) C dX1_time_64 (by decide) ?_
    refine sv_icmp_gt (tgt := 83) C dX1_time_66 (by decide) (fun c66 => ?_) (fun c66 => ?_)
    · replace hf := sv_if_t c66 hf
      refine sv_sub (lv' := [(0, .ref a0)]) [4] rfl ?_
      exact w_X1_time_83 C hZ hR hN hT o_a0 _ hf
    · replace hf := sv_if_f c66 hf
      refine sv_iload 1 C dX1_time_69 rfl ?_
      refine sv_bipush (v := 59) C dX1_time_71 (by decide) ?_
      refine sv_icmp_gt (tgt := 83) C dX1_time_73 (by decide) (fun c73 => ?_) (fun c73 => ?_)
      · replace hf := sv_if_t c73 hf
        refine sv_sub (lv' := [(0, .ref a0)]) [4] rfl ?_
        exact w_X1_time_83 C hZ hR hN hT o_a0 _ hf
      · replace hf := sv_if_f c73 hf
        refine sv_iload 0 C dX1_time_76 rfl ?_
        refine sv_ldc C kw_181 dX1_time_78 ?_
        refine sv_icmp_le (tgt := 88) C dX1_time_80 (by decide) (fun c80 => ?_) (fun c80 => ?_)
        · replace hf := sv_if_t c80 hf
          refine sv_iload_n 2 C dX1_time_88 rfl rfl ?_
          refine sv_bipush (v := 60) C dX1_time_89 (by decide) ?_
          refine sv_imul C dX1_time_91 ?_
          refine sv_iload 1 C dX1_time_92 rfl ?_
          refine sv_iadd C dX1_time_94 ?_
          refine sv_ldc C kw_182 dX1_time_95 ?_
          refine sv_imul C dX1_time_97 ?_
          refine sv_iload 0 C dX1_time_98 rfl ?_
          refine sv_iadd C dX1_time_100 ?_
          exact sv_iret C (by cases hf; exact hZ) dX1_time_101
        · replace hf := sv_if_f c80 hf
          refine sv_sub (lv' := [(0, .ref a0)]) [4] rfl ?_
          exact w_X1_time_83 C hZ hR hN hT o_a0 _ hf
  · replace hf := sv_if_t c37 hf
    refine sv_ldc C kw_81 dX1_time_40 ?_
    exact sv_iret C (by cases hf; exact hZ) dX1_time_42
set_option maxHeartbeats 4000000 in
set_option maxRecDepth 100000 in
theorem m_X1_time (l : Launch) (E : sv_E) (T : gh_T) (sz : Nat) (V : gh_V) (a0 : Nat) (x1 : Int32) (q : Int32 × gh_V) (hf : f_X1_time T V a0 x1 = some q) (hT : gh_ok T) (o_a0 : gh_is T a0 1) : sv_Met l E yX1_time cX1_time 6 (some .int) 2 54 [] [.ref a0, .int x1] (gh_w E T V) sz (some (.int q.1)) (gh_w E T q.2) sz 0 0 := by
  refine sv_ofJ (by decide) (Nat.le_of_ble_eq_true rfl) ?_
  intro X hX hN hnm hR C hZ
  replace C : sv_C E X cX1_time RX1 [] := C
  show sv_J E X (gh_w E T V) sz 0 0 0 [(0, .ref a0), (1, .int x1)] []
  rw [f_X1_time] at hf
  refine sv_aload_n 0 C dX1_time_0 rfl rfl ?_
  refine sv_iload_n 1 C dX1_time_1 rfl rfl ?_
  obtain ⟨q2, hc2, hf⟩ := sv_bind_some hf
  refine gh_callV0 C mv_X1_70 (m_X1_isEmpty (sv_l X) E T sz _ _ _ _ hc2 hT o_a0) sv_sx0 o_a0 (by decide) rfl rfl rfl (Nat.le_of_ble_eq_true rfl) ⟨by rw [hR]; decide, by rw [hR]; decide⟩ ⟨by rw [hR]; decide, by rw [hR]; decide⟩ dX1_time_2 ?_
  refine sv_if_eq (tgt := 13) C dX1_time_5 (by decide) (fun c5 => ?_) (fun c5 => ?_)
  · replace hf := sv_if_t c5 hf
    refine sv_aload_n 0 C dX1_time_13 rfl rfl ?_
    refine sv_aload_n 0 C dX1_time_14 rfl rfl ?_
    refine sv_iload_n 1 C dX1_time_15 rfl rfl ?_
    obtain ⟨q16, hc16, hf⟩ := sv_bind_some hf
    refine gh_callV0 C mv_X1_59 (m_X1_from (sv_l X) E T sz _ _ _ _ hc16 hT o_a0) sv_sx0 o_a0 (by decide) rfl rfl rfl (Nat.le_of_ble_eq_true rfl) ⟨by rw [hR]; decide, by rw [hR]; decide⟩ ⟨by rw [hR]; decide, by rw [hR]; decide⟩ dX1_time_16 ?_
    refine sv_aload_n 0 C dX1_time_19 rfl rfl ?_
    refine sv_iload_n 1 C dX1_time_20 rfl rfl ?_
    obtain ⟨q21, hc21, hf⟩ := sv_bind_some hf
    refine gh_callV0 C mv_X1_36 (m_X1_to (sv_l X) E T sz _ _ _ _ hc21 hT o_a0) sv_sx0 o_a0 (by decide) rfl rfl rfl (Nat.le_of_ble_eq_true rfl) ⟨by rw [hR]; decide, by rw [hR]; decide⟩ ⟨by rw [hR]; decide, by rw [hR]; decide⟩ dX1_time_21 ?_
    refine sv_bipush (v := 6) C dX1_time_24 (by decide) ?_
    refine sv_bipush (v := 6) C dX1_time_26 (by decide) ?_
    refine sv_iconst (v := 3) C dX1_time_28 (by decide) ?_
    refine sv_iconst (v := 3) C dX1_time_29 (by decide) ?_
    obtain ⟨q30, hc30, hf⟩ := sv_bind_some hf
    refine gh_callV0 C mv_X1_78 (m_X1_digits (sv_l X) E T sz _ _ _ _ _ _ _ _ _ hc30 hT o_a0) sv_sx0 o_a0 (by decide) rfl rfl rfl (Nat.le_of_ble_eq_true rfl) ⟨by rw [hR]; decide, by rw [hR]; decide⟩ ⟨by rw [hR]; decide, by rw [hR]; decide⟩ dX1_time_30 ?_
    refine sv_sub (lv' := [(0, .ref a0)]) [0] rfl ?_
    exact w_X1_time_33 C hZ hR hN hT o_a0 _ _ hf
  · replace hf := sv_if_f c5 hf
    refine sv_ldc C kw_81 dX1_time_8 ?_
    refine sv_goto (tgt := 33) C dX1_time_10 (by decide) ?_
    refine sv_sub (lv' := [(0, .ref a0)]) [0] rfl ?_
    exact w_X1_time_33 C hZ hR hN hT o_a0 _ _ hf
def f_X1_date_64 (T : gh_T) (a0 : Nat) (V : gh_V) : Option (Int32 × gh_V) :=
  (f_X1_wrong T V a0).bind (fun q65 =>
    some (q65.1, q65.2))
def f_X1_date (T : gh_T) (V : gh_V) (a0 : Nat) (x1 : Int32) : Option (Int32 × gh_V) :=
  (f_X1_whole T V a0 x1 6 6).bind (fun q6 =>
    if q6.1 = (-2147483648) then
      some ((-2147483648), q6.2)
    else
      if (q6.1 / 10000) < 1 then
        f_X1_date_64 T a0 q6.2
      else
        if 31 < (q6.1 / 10000) then
          f_X1_date_64 T a0 q6.2
        else
          if ((q6.1 / 100) - (q6.1 / 100) / 100 * 100) < 1 then
            f_X1_date_64 T a0 q6.2
          else
            if ((q6.1 / 100) - (q6.1 / 100) / 100 * 100) ≤ 12 then
              some (((q6.1 / 10000) + (100 * ((q6.1 / 100) - (q6.1 / 100) / 100 * 100))) + (10000 * (q6.1 - q6.1 / 100 * 100)), q6.2)
            else
              f_X1_date_64 T a0 q6.2)
set_option maxHeartbeats 4000000 in
set_option maxRecDepth 100000 in
theorem w_X1_date_64 {E : sv_E} {X : sv_X} {sz : Nat} {q : Int32 × gh_V} {T : gh_T} {a0 : Nat} (C : sv_C E X cX1_date RX1 []) (hZ : sv_Z E X (some .int) (some (.int q.1)) (gh_w E T q.2) sz 0 0) (hR : sv_R X = { frames := 3, cells := 0, slots := 0, locals := 77 }) (hN : sv_nL X = 6) (hT : gh_ok T) (o_a0 : gh_is T a0 1) (V : gh_V) (hf : f_X1_date_64 T a0 V = some q) : sv_J E X (gh_w E T V) sz 0 0 64 [(0, .ref a0)] [] := by
  rw [f_X1_date_64] at hf
  refine sv_aload_n 0 C dX1_date_64 rfl rfl ?_
  obtain ⟨q65, hc65, hf⟩ := sv_bind_some hf
  refine gh_callV0 C mv_X1_66 (m_X1_wrong (sv_l X) E T sz _ _ _ hc65 hT o_a0) sv_sx0 o_a0 (by decide) rfl rfl rfl (Nat.le_of_ble_eq_true rfl) ⟨by rw [hR]; decide, by rw [hR]; decide⟩ ⟨by rw [hR]; decide, by rw [hR]; decide⟩ dX1_date_65 ?_
  exact sv_iret C (by cases hf; exact hZ) dX1_date_68
set_option maxHeartbeats 4000000 in
set_option maxRecDepth 100000 in
theorem m_X1_date (l : Launch) (E : sv_E) (T : gh_T) (sz : Nat) (V : gh_V) (a0 : Nat) (x1 : Int32) (q : Int32 × gh_V) (hf : f_X1_date T V a0 x1 = some q) (hT : gh_ok T) (o_a0 : gh_is T a0 1) : sv_Met l E yX1_date cX1_date 6 (some .int) 3 77 [] [.ref a0, .int x1] (gh_w E T V) sz (some (.int q.1)) (gh_w E T q.2) sz 0 0 := by
  refine sv_ofJ (by decide) (Nat.le_of_ble_eq_true rfl) ?_
  intro X hX hN hnm hR C hZ
  replace C : sv_C E X cX1_date RX1 [] := C
  show sv_J E X (gh_w E T V) sz 0 0 0 [(0, .ref a0), (1, .int x1)] []
  rw [f_X1_date] at hf
  refine sv_aload_n 0 C dX1_date_0 rfl rfl ?_
  refine sv_iload_n 1 C dX1_date_1 rfl rfl ?_
  refine sv_bipush (v := 6) C dX1_date_2 (by decide) ?_
  refine sv_bipush (v := 6) C dX1_date_4 (by decide) ?_
  obtain ⟨q6, hc6, hf⟩ := sv_bind_some hf
  refine gh_callV0 C mv_X1_95 (m_X1_whole (sv_l X) E T sz _ _ _ _ _ _ hc6 hT o_a0) sv_sx0 o_a0 (by decide) rfl rfl rfl (Nat.le_of_ble_eq_true rfl) ⟨by rw [hR]; decide, by rw [hR]; decide⟩ ⟨by rw [hR]; decide, by rw [hR]; decide⟩ dX1_date_6 ?_
  refine sv_istore_n (lv' := [(2, .int q6.1), (0, .ref a0), (1, .int x1)]) C dX1_date_9 rfl (by rw [hN]; decide) rfl ?_
  refine sv_iload_n 0 C dX1_date_10 rfl rfl ?_
  refine sv_ldc C kw_81 dX1_date_11 ?_
  refine sv_icmp_ne (tgt := 19) C dX1_date_13 (by decide) (fun c13 => ?_) (fun c13 => ?_)
  · replace hf := sv_if_f c13 hf
    refine sv_iload_n 0 C dX1_date_19 rfl rfl ?_
    refine sv_sipush (v := 10000) C dX1_date_20 (by decide) ?_
    refine sv_idiv C dX1_date_23 (by decide) ?_
    refine sv_istore_n (lv' := [(3, .int (q6.1 / 10000)), (2, .int q6.1), (0, .ref a0), (1, .int x1)]) C dX1_date_24 rfl (by rw [hN]; decide) rfl ?_
    refine sv_iload_n 1 C dX1_date_25 rfl rfl ?_
    refine sv_bipush (v := 100) C dX1_date_26 (by decide) ?_
    refine sv_idiv C dX1_date_28 (by decide) ?_
    refine sv_bipush (v := 100) C dX1_date_29 (by decide) ?_
    refine sv_irem C dX1_date_31 (by decide) ?_
    refine sv_istore (lv' := [(4, .int ((q6.1 / 100) - (q6.1 / 100) / 100 * 100)), (3, .int (q6.1 / 10000)), (2, .int q6.1), (0, .ref a0), (1, .int x1)]) C dX1_date_32 (by rw [hN]; decide) rfl ?_
    refine sv_iload_n 2 C dX1_date_34 rfl rfl ?_
    refine sv_bipush (v := 100) C dX1_date_35 (by decide) ?_
    refine sv_irem C dX1_date_37 (by decide) ?_
    refine sv_istore (lv' := [(5, .int (q6.1 - q6.1 / 100 * 100)), (4, .int ((q6.1 / 100) - (q6.1 / 100) / 100 * 100)), (3, .int (q6.1 / 10000)), (2, .int q6.1), (0, .ref a0), (1, .int x1)]) C dX1_date_38 (by rw [hN]; decide) rfl ?_
    refine sv_iload_n 2 C dX1_date_40 rfl rfl ?_
    refine sv_iconst (v := 1) C dX1_date_41 (by decide) ?_
    refine sv_icmp_lt (tgt := 64) C dX1_date_42 (by decide) (fun c42 => ?_) (fun c42 => ?_)
    · replace hf := sv_if_t c42 hf
      refine sv_sub (lv' := [(0, .ref a0)]) [4] rfl ?_
      exact w_X1_date_64 C hZ hR hN hT o_a0 _ hf
    · replace hf := sv_if_f c42 hf
      refine sv_iload_n 2 C dX1_date_45 rfl rfl ?_
      refine sv_bipush (v := 31) C dX1_date_46 (by decide) ?_
      refine sv_icmp_gt (tgt := 64) C dX1_date_48 (by decide) (fun c48 => ?_) (fun c48 => ?_)
      · replace hf := sv_if_t c48 hf
        refine sv_sub (lv' := [(0, .ref a0)]) [4] rfl ?_
        exact w_X1_date_64 C hZ hR hN hT o_a0 _ hf
      · replace hf := sv_if_f c48 hf
        refine sv_iload 1 C dX1_date_51 rfl ?_
        refine sv_iconst (v := 1) C dX1_date_53 (by decide) ?_
        refine sv_icmp_lt (tgt := 64) C dX1_date_54 (by decide) (fun c54 => ?_) (fun c54 => ?_)
        · replace hf := sv_if_t c54 hf
          refine sv_sub (lv' := [(0, .ref a0)]) [4] rfl ?_
          exact w_X1_date_64 C hZ hR hN hT o_a0 _ hf
        · replace hf := sv_if_f c54 hf
          refine sv_iload 1 C dX1_date_57 rfl ?_
          refine sv_bipush (v := 12) C dX1_date_59 (by decide) ?_
          refine sv_icmp_le (tgt := 69) C dX1_date_61 (by decide) (fun c61 => ?_) (fun c61 => ?_)
          · replace hf := sv_if_t c61 hf
            refine sv_iload_n 2 C dX1_date_69 rfl rfl ?_
            refine sv_bipush (v := 100) C dX1_date_70 (by decide) ?_
            refine sv_iload 1 C dX1_date_72 rfl ?_
            refine sv_imul C dX1_date_74 ?_
            refine sv_iadd C dX1_date_75 ?_
            refine sv_sipush (v := 10000) C dX1_date_76 (by decide) ?_
            refine sv_iload 0 C dX1_date_79 rfl ?_
            refine sv_imul C dX1_date_81 ?_
            refine sv_iadd C dX1_date_82 ?_
            exact sv_iret C (by cases hf; exact hZ) dX1_date_83
          · replace hf := sv_if_f c61 hf
            refine sv_sub (lv' := [(0, .ref a0)]) [4] rfl ?_
            exact w_X1_date_64 C hZ hR hN hT o_a0 _ hf
  · replace hf := sv_if_t c13 hf
    refine sv_ldc C kw_81 dX1_date_16 ?_
    exact sv_iret C (by cases hf; exact hZ) dX1_date_18
def f_X1_angle_82 (T : gh_T) (a0 : Nat) (V : gh_V) : Option (Int32 × gh_V) :=
  (f_X1_wrong T V a0).bind (fun q83 =>
    some (q83.1, q83.2))
def f_X1_angle_32 (T : gh_T) (a0 : Nat) (V : gh_V) (x3 : Int32) (s0 : Int32) : Option (Int32 × gh_V) :=
  if s0 = (-2147483648) then
    some ((-2147483648), V)
  else
    if 600000 ≤ (s0 - s0 / 1000000 * 1000000) then
      f_X1_angle_82 T a0 V
    else
      if x3 < (((s0 / 1000000) * 600000) + (s0 - s0 / 1000000 * 1000000)) then
        f_X1_angle_82 T a0 V
      else
        some (((s0 / 1000000) * 600000) + (s0 - s0 / 1000000 * 1000000), V)
def f_X1_angle (T : gh_T) (V : gh_V) (a0 : Nat) (x1 : Int32) (x2 : Int32) (x3 : Int32) : Option (Int32 × gh_V) :=
  (f_X1_isEmpty T V a0 x1).bind (fun q2 =>
    if q2.1 = 0 then
      (f_X1_from T q2.2 a0 x1).bind (fun q16 =>
        (f_X1_to T q16.2 a0 x1).bind (fun q21 =>
          (f_X1_digits T q21.2 a0 q16.1 q21.1 x2 x2 6 4).bind (fun q29 =>
            f_X1_angle_32 T a0 q29.2 x3 q29.1)))
    else
      f_X1_angle_32 T a0 q2.2 x3 (-2147483648))
set_option maxHeartbeats 4000000 in
set_option maxRecDepth 100000 in
theorem w_X1_angle_82 {E : sv_E} {X : sv_X} {sz : Nat} {q : Int32 × gh_V} {T : gh_T} {a0 : Nat} (C : sv_C E X cX1_angle RX1 []) (hZ : sv_Z E X (some .int) (some (.int q.1)) (gh_w E T q.2) sz 0 0) (hR : sv_R X = { frames := 2, cells := 0, slots := 0, locals := 54 }) (hN : sv_nL X = 7) (hT : gh_ok T) (o_a0 : gh_is T a0 1) (V : gh_V) (hf : f_X1_angle_82 T a0 V = some q) : sv_J E X (gh_w E T V) sz 0 0 82 [(0, .ref a0)] [] := by
  rw [f_X1_angle_82] at hf
  refine sv_aload_n 0 C dX1_angle_82 rfl rfl ?_
  obtain ⟨q83, hc83, hf⟩ := sv_bind_some hf
  refine gh_callV0 C mv_X1_66 (m_X1_wrong (sv_l X) E T sz _ _ _ hc83 hT o_a0) sv_sx0 o_a0 (by decide) rfl rfl rfl (Nat.le_of_ble_eq_true rfl) ⟨by rw [hR]; decide, by rw [hR]; decide⟩ ⟨by rw [hR]; decide, by rw [hR]; decide⟩ dX1_angle_83 ?_
  exact sv_iret C (by cases hf; exact hZ) dX1_angle_86
set_option maxHeartbeats 4000000 in
set_option maxRecDepth 100000 in
theorem w_X1_angle_32 {E : sv_E} {X : sv_X} {sz : Nat} {q : Int32 × gh_V} {T : gh_T} {a0 : Nat} (C : sv_C E X cX1_angle RX1 []) (hZ : sv_Z E X (some .int) (some (.int q.1)) (gh_w E T q.2) sz 0 0) (hR : sv_R X = { frames := 2, cells := 0, slots := 0, locals := 54 }) (hN : sv_nL X = 7) (hT : gh_ok T) (o_a0 : gh_is T a0 1) (V : gh_V) (x3 : Int32) (s0 : Int32) (hf : f_X1_angle_32 T a0 V x3 s0 = some q) : sv_J E X (gh_w E T V) sz 0 0 32 [(0, .ref a0), (3, .int x3)] [.int s0] := by
  rw [f_X1_angle_32] at hf
  refine sv_istore (lv' := [(4, .int s0), (0, .ref a0), (3, .int x3)]) C dX1_angle_32 (by rw [hN]; decide) rfl ?_
  refine sv_iload 0 C dX1_angle_34 rfl ?_
  refine sv_ldc C kw_81 dX1_angle_36 ?_
  refine sv_icmp_ne (tgt := 44) C dX1_angle_38 (by decide) (fun c38 => ?_) (fun c38 => ?_)
  · replace hf := sv_if_f c38 hf
    refine sv_iload 0 C dX1_angle_44 rfl ?_
    refine sv_ldc C kw_187 dX1_angle_46 ?_
    refine sv_irem C dX1_angle_48 (by decide) ?_
    refine sv_istore (lv' := [(5, .int (s0 - s0 / 1000000 * 1000000)), (4, .int s0), (0, .ref a0), (3, .int x3)]) C dX1_angle_49 (by rw [hN]; decide) rfl ?_
    refine sv_iload 1 C dX1_angle_51 rfl ?_
    refine sv_ldc C kw_187 dX1_angle_53 ?_
    refine sv_idiv C dX1_angle_55 (by decide) ?_
    refine sv_ldc C kw_188 dX1_angle_56 ?_
    refine sv_imul C dX1_angle_58 ?_
    refine sv_iload 0 C dX1_angle_59 rfl ?_
    refine sv_iadd C dX1_angle_61 ?_
    refine sv_istore (lv' := [(6, .int (((s0 / 1000000) * 600000) + (s0 - s0 / 1000000 * 1000000))), (5, .int (s0 - s0 / 1000000 * 1000000)), (4, .int s0), (0, .ref a0), (3, .int x3)]) C dX1_angle_62 (by rw [hN]; decide) rfl ?_
    refine sv_iload 1 C dX1_angle_64 rfl ?_
    refine sv_ldc C kw_188 dX1_angle_66 ?_
    refine sv_icmp_ge (tgt := 82) C dX1_angle_68 (by decide) (fun c68 => ?_) (fun c68 => ?_)
    · replace hf := sv_if_t c68 hf
      refine sv_sub (lv' := [(0, .ref a0)]) [3] rfl ?_
      exact w_X1_angle_82 C hZ hR hN hT o_a0 _ hf
    · replace hf := sv_if_f c68 hf
      refine sv_iload 0 C dX1_angle_71 rfl ?_
      refine sv_iload_n 4 C dX1_angle_73 rfl rfl ?_
      refine sv_icmp_gt (tgt := 82) C dX1_angle_74 (by decide) (fun c74 => ?_) (fun c74 => ?_)
      · replace hf := sv_if_t c74 hf
        refine sv_sub (lv' := [(0, .ref a0)]) [3] rfl ?_
        exact w_X1_angle_82 C hZ hR hN hT o_a0 _ hf
      · replace hf := sv_if_f c74 hf
        refine sv_iload 0 C dX1_angle_77 rfl ?_
        refine sv_goto (tgt := 86) C dX1_angle_79 (by decide) ?_
        exact sv_iret C (by cases hf; exact hZ) dX1_angle_86
  · replace hf := sv_if_t c38 hf
    refine sv_ldc C kw_81 dX1_angle_41 ?_
    exact sv_iret C (by cases hf; exact hZ) dX1_angle_43
set_option maxHeartbeats 4000000 in
set_option maxRecDepth 100000 in
theorem m_X1_angle (l : Launch) (E : sv_E) (T : gh_T) (sz : Nat) (V : gh_V) (a0 : Nat) (x1 : Int32) (x2 : Int32) (x3 : Int32) (q : Int32 × gh_V) (hf : f_X1_angle T V a0 x1 x2 x3 = some q) (hT : gh_ok T) (o_a0 : gh_is T a0 1) : sv_Met l E yX1_angle cX1_angle 7 (some .int) 2 54 [] [.ref a0, .int x1, .int x2, .int x3] (gh_w E T V) sz (some (.int q.1)) (gh_w E T q.2) sz 0 0 := by
  refine sv_ofJ (by decide) (Nat.le_of_ble_eq_true rfl) ?_
  intro X hX hN hnm hR C hZ
  replace C : sv_C E X cX1_angle RX1 [] := C
  show sv_J E X (gh_w E T V) sz 0 0 0 [(0, .ref a0), (1, .int x1), (2, .int x2), (3, .int x3)] []
  rw [f_X1_angle] at hf
  refine sv_aload_n 0 C dX1_angle_0 rfl rfl ?_
  refine sv_iload_n 1 C dX1_angle_1 rfl rfl ?_
  obtain ⟨q2, hc2, hf⟩ := sv_bind_some hf
  refine gh_callV0 C mv_X1_70 (m_X1_isEmpty (sv_l X) E T sz _ _ _ _ hc2 hT o_a0) sv_sx0 o_a0 (by decide) rfl rfl rfl (Nat.le_of_ble_eq_true rfl) ⟨by rw [hR]; decide, by rw [hR]; decide⟩ ⟨by rw [hR]; decide, by rw [hR]; decide⟩ dX1_angle_2 ?_
  refine sv_if_eq (tgt := 13) C dX1_angle_5 (by decide) (fun c5 => ?_) (fun c5 => ?_)
  · replace hf := sv_if_t c5 hf
    refine sv_aload_n 0 C dX1_angle_13 rfl rfl ?_
    refine sv_aload_n 0 C dX1_angle_14 rfl rfl ?_
    refine sv_iload_n 1 C dX1_angle_15 rfl rfl ?_
    obtain ⟨q16, hc16, hf⟩ := sv_bind_some hf
    refine gh_callV0 C mv_X1_59 (m_X1_from (sv_l X) E T sz _ _ _ _ hc16 hT o_a0) sv_sx0 o_a0 (by decide) rfl rfl rfl (Nat.le_of_ble_eq_true rfl) ⟨by rw [hR]; decide, by rw [hR]; decide⟩ ⟨by rw [hR]; decide, by rw [hR]; decide⟩ dX1_angle_16 ?_
    refine sv_aload_n 0 C dX1_angle_19 rfl rfl ?_
    refine sv_iload_n 1 C dX1_angle_20 rfl rfl ?_
    obtain ⟨q21, hc21, hf⟩ := sv_bind_some hf
    refine gh_callV0 C mv_X1_36 (m_X1_to (sv_l X) E T sz _ _ _ _ hc21 hT o_a0) sv_sx0 o_a0 (by decide) rfl rfl rfl (Nat.le_of_ble_eq_true rfl) ⟨by rw [hR]; decide, by rw [hR]; decide⟩ ⟨by rw [hR]; decide, by rw [hR]; decide⟩ dX1_angle_21 ?_
    refine sv_iload_n 2 C dX1_angle_24 rfl rfl ?_
    refine sv_iload_n 2 C dX1_angle_25 rfl rfl ?_
    refine sv_bipush (v := 6) C dX1_angle_26 (by decide) ?_
    refine sv_iconst (v := 4) C dX1_angle_28 (by decide) ?_
    obtain ⟨q29, hc29, hf⟩ := sv_bind_some hf
    refine gh_callV0 C mv_X1_78 (m_X1_digits (sv_l X) E T sz _ _ _ _ _ _ _ _ _ hc29 hT o_a0) sv_sx0 o_a0 (by decide) rfl rfl rfl (Nat.le_of_ble_eq_true rfl) ⟨by rw [hR]; decide, by rw [hR]; decide⟩ ⟨by rw [hR]; decide, by rw [hR]; decide⟩ dX1_angle_29 ?_
    refine sv_sub (lv' := [(0, .ref a0), (3, .int x3)]) [0, 3] rfl ?_
    exact w_X1_angle_32 C hZ hR hN hT o_a0 _ _ _ hf
  · replace hf := sv_if_f c5 hf
    refine sv_ldc C kw_81 dX1_angle_8 ?_
    refine sv_goto (tgt := 32) C dX1_angle_10 (by decide) ?_
    refine sv_sub (lv' := [(0, .ref a0), (3, .int x3)]) [0, 3] rfl ?_
    exact w_X1_angle_32 C hZ hR hN hT o_a0 _ _ _ hf
def f_X1_latitude (T : gh_T) (V : gh_V) (a0 : Nat) (x1 : Int32) : Option (Int32 × gh_V) :=
  (f_X1_angle T V a0 x1 4 54000000).bind (fun q6 =>
    (f_X1_onSide T q6.2 a0 q6.1 (x1 + 1) 78 83).bind (fun q16 =>
      some (q16.1, q16.2)))
set_option maxHeartbeats 4000000 in
set_option maxRecDepth 100000 in
theorem m_X1_latitude (l : Launch) (E : sv_E) (T : gh_T) (sz : Nat) (V : gh_V) (a0 : Nat) (x1 : Int32) (q : Int32 × gh_V) (hf : f_X1_latitude T V a0 x1 = some q) (hT : gh_ok T) (o_a0 : gh_is T a0 1) : sv_Met l E yX1_latitude cX1_latitude 2 (some .int) 3 80 [] [.ref a0, .int x1] (gh_w E T V) sz (some (.int q.1)) (gh_w E T q.2) sz 0 0 := by
  refine sv_ofJ (by decide) (Nat.le_of_ble_eq_true rfl) ?_
  intro X hX hN hnm hR C hZ
  replace C : sv_C E X cX1_latitude RX1 [] := C
  show sv_J E X (gh_w E T V) sz 0 0 0 [(0, .ref a0), (1, .int x1)] []
  rw [f_X1_latitude] at hf
  refine sv_aload_n 0 C dX1_latitude_0 rfl rfl ?_
  refine sv_aload_n 0 C dX1_latitude_1 rfl rfl ?_
  refine sv_iload_n 1 C dX1_latitude_2 rfl rfl ?_
  refine sv_iconst (v := 4) C dX1_latitude_3 (by decide) ?_
  refine sv_ldc C kw_189 dX1_latitude_4 ?_
  obtain ⟨q6, hc6, hf⟩ := sv_bind_some hf
  refine gh_callV0 C mv_X1_99 (m_X1_angle (sv_l X) E T sz _ _ _ _ _ _ hc6 hT o_a0) sv_sx0 o_a0 (by decide) rfl rfl rfl (Nat.le_of_ble_eq_true rfl) ⟨by rw [hR]; decide, by rw [hR]; decide⟩ ⟨by rw [hR]; decide, by rw [hR]; decide⟩ dX1_latitude_6 ?_
  refine sv_iload_n 1 C dX1_latitude_9 rfl rfl ?_
  refine sv_iconst (v := 1) C dX1_latitude_10 (by decide) ?_
  refine sv_iadd C dX1_latitude_11 ?_
  refine sv_bipush (v := 78) C dX1_latitude_12 (by decide) ?_
  refine sv_bipush (v := 83) C dX1_latitude_14 (by decide) ?_
  obtain ⟨q16, hc16, hf⟩ := sv_bind_some hf
  refine gh_callV0 C mv_X1_87 (m_X1_onSide (sv_l X) E T sz _ _ _ _ _ _ _ hc16 hT o_a0) sv_sx0 o_a0 (by decide) rfl rfl rfl (Nat.le_of_ble_eq_true rfl) ⟨by rw [hR]; decide, by rw [hR]; decide⟩ ⟨by rw [hR]; decide, by rw [hR]; decide⟩ dX1_latitude_16 ?_
  exact sv_iret C (by cases hf; exact hZ) dX1_latitude_19
def f_X1_longitude (T : gh_T) (V : gh_V) (a0 : Nat) (x1 : Int32) : Option (Int32 × gh_V) :=
  (f_X1_angle T V a0 x1 5 108000000).bind (fun q6 =>
    (f_X1_onSide T q6.2 a0 q6.1 (x1 + 1) 69 87).bind (fun q16 =>
      some (q16.1, q16.2)))
set_option maxHeartbeats 4000000 in
set_option maxRecDepth 100000 in
theorem m_X1_longitude (l : Launch) (E : sv_E) (T : gh_T) (sz : Nat) (V : gh_V) (a0 : Nat) (x1 : Int32) (q : Int32 × gh_V) (hf : f_X1_longitude T V a0 x1 = some q) (hT : gh_ok T) (o_a0 : gh_is T a0 1) : sv_Met l E yX1_longitude cX1_longitude 2 (some .int) 3 80 [] [.ref a0, .int x1] (gh_w E T V) sz (some (.int q.1)) (gh_w E T q.2) sz 0 0 := by
  refine sv_ofJ (by decide) (Nat.le_of_ble_eq_true rfl) ?_
  intro X hX hN hnm hR C hZ
  replace C : sv_C E X cX1_longitude RX1 [] := C
  show sv_J E X (gh_w E T V) sz 0 0 0 [(0, .ref a0), (1, .int x1)] []
  rw [f_X1_longitude] at hf
  refine sv_aload_n 0 C dX1_longitude_0 rfl rfl ?_
  refine sv_aload_n 0 C dX1_longitude_1 rfl rfl ?_
  refine sv_iload_n 1 C dX1_longitude_2 rfl rfl ?_
  refine sv_iconst (v := 5) C dX1_longitude_3 (by decide) ?_
  refine sv_ldc C kw_194 dX1_longitude_4 ?_
  obtain ⟨q6, hc6, hf⟩ := sv_bind_some hf
  refine gh_callV0 C mv_X1_99 (m_X1_angle (sv_l X) E T sz _ _ _ _ _ _ hc6 hT o_a0) sv_sx0 o_a0 (by decide) rfl rfl rfl (Nat.le_of_ble_eq_true rfl) ⟨by rw [hR]; decide, by rw [hR]; decide⟩ ⟨by rw [hR]; decide, by rw [hR]; decide⟩ dX1_longitude_6 ?_
  refine sv_iload_n 1 C dX1_longitude_9 rfl rfl ?_
  refine sv_iconst (v := 1) C dX1_longitude_10 (by decide) ?_
  refine sv_iadd C dX1_longitude_11 ?_
  refine sv_bipush (v := 69) C dX1_longitude_12 (by decide) ?_
  refine sv_bipush (v := 87) C dX1_longitude_14 (by decide) ?_
  obtain ⟨q16, hc16, hf⟩ := sv_bind_some hf
  refine gh_callV0 C mv_X1_87 (m_X1_onSide (sv_l X) E T sz _ _ _ _ _ _ _ hc16 hT o_a0) sv_sx0 o_a0 (by decide) rfl rfl rfl (Nat.le_of_ble_eq_true rfl) ⟨by rw [hR]; decide, by rw [hR]; decide⟩ ⟨by rw [hR]; decide, by rw [hR]; decide⟩ dX1_longitude_16 ?_
  exact sv_iret C (by cases hf; exact hZ) dX1_longitude_19
def f_X1_checkUnit_51 (T : gh_T) (a0 : Nat) (V : gh_V) (s0 : Int32) : Option (gh_V) :=
  if s0 = 0 then
    some (gh_pf V 3 a0 0)
  else
    some (V)
def f_X1_checkUnit_50 (T : gh_T) (a0 : Nat) (V : gh_V) : Option (gh_V) :=
  f_X1_checkUnit_51 T a0 V 0
def f_X1_checkUnit (T : gh_T) (V : gh_V) (a0 : Nat) (x1 : Int32) (x2 : Int32) : Option (gh_V) :=
  (f_X1_isEmpty T V a0 x1).bind (fun q2 =>
    if q2.1 = 0 then
      (f_X1_to T q2.2 a0 x1).bind (fun q20 =>
        (f_X1_from T q20.2 a0 x1).bind (fun q25 =>
          if (q20.1 - q25.1) = 1 then
            (f_X1_from T q25.2 a0 x1).bind (fun q36 =>
              (f_X1_at T q36.2 a0 q36.1).bind (fun q39 =>
                if q39.1 = x2 then
                  f_X1_checkUnit_51 T a0 q39.2 1
                else
                  f_X1_checkUnit_50 T a0 q39.2))
          else
            f_X1_checkUnit_50 T a0 q25.2))
    else
      (f_X1_isEmpty T q2.2 a0 (x1 - 1)).bind (fun q12 =>
        f_X1_checkUnit_51 T a0 q12.2 q12.1))
set_option maxHeartbeats 4000000 in
set_option maxRecDepth 100000 in
theorem w_X1_checkUnit_51 {E : sv_E} {X : sv_X} {sz : Nat} {q : gh_V} {T : gh_T} {a0 : Nat} (C : sv_C E X cX1_checkUnit RX1 []) (hZ : sv_Z E X none none (gh_w E T q) sz 0 0) (hR : sv_R X = { frames := 2, cells := 0, slots := 0, locals := 42 }) (hN : sv_nL X = 4) (hT : gh_ok T) (o_a0 : gh_is T a0 1) (V : gh_V) (s0 : Int32) (hf : f_X1_checkUnit_51 T a0 V s0 = some q) : sv_J E X (gh_w E T V) sz 0 0 51 [(0, .ref a0)] [.int s0] := by
  rw [f_X1_checkUnit_51] at hf
  refine sv_istore_n (lv' := [(3, .int s0), (0, .ref a0)]) C dX1_checkUnit_51 rfl (by rw [hN]; decide) rfl ?_
  refine sv_iload_n 0 C dX1_checkUnit_52 rfl rfl ?_
  refine sv_if_ne (tgt := 61) C dX1_checkUnit_53 (by decide) (fun c53 => ?_) (fun c53 => ?_)
  · replace hf := sv_if_f c53 hf
    exact sv_vret C (by cases hf; exact hZ) dX1_checkUnit_61
  · replace hf := sv_if_t c53 hf
    refine sv_aload_n 1 C dX1_checkUnit_56 rfl rfl ?_
    refine sv_iconst (v := 0) C dX1_checkUnit_57 (by decide) ?_
    refine gh_puti C fl_X1_21 o_a0 (by decide) (by decide) (by decide) (by decide) dX1_checkUnit_58 ?_
    exact sv_vret C (by cases hf; exact hZ) dX1_checkUnit_61
set_option maxHeartbeats 4000000 in
set_option maxRecDepth 100000 in
theorem w_X1_checkUnit_50 {E : sv_E} {X : sv_X} {sz : Nat} {q : gh_V} {T : gh_T} {a0 : Nat} (C : sv_C E X cX1_checkUnit RX1 []) (hZ : sv_Z E X none none (gh_w E T q) sz 0 0) (hR : sv_R X = { frames := 2, cells := 0, slots := 0, locals := 42 }) (hN : sv_nL X = 4) (hT : gh_ok T) (o_a0 : gh_is T a0 1) (V : gh_V) (hf : f_X1_checkUnit_50 T a0 V = some q) : sv_J E X (gh_w E T V) sz 0 0 50 [(0, .ref a0)] [] := by
  rw [f_X1_checkUnit_50] at hf
  refine sv_iconst (v := 0) C dX1_checkUnit_50 (by decide) ?_
  refine sv_sub (lv' := [(0, .ref a0)]) [0] rfl ?_
  exact w_X1_checkUnit_51 C hZ hR hN hT o_a0 _ _ hf
set_option maxHeartbeats 4000000 in
set_option maxRecDepth 100000 in
theorem m_X1_checkUnit (l : Launch) (E : sv_E) (T : gh_T) (sz : Nat) (V : gh_V) (a0 : Nat) (x1 : Int32) (x2 : Int32) (q : gh_V) (hf : f_X1_checkUnit T V a0 x1 x2 = some q) (hT : gh_ok T) (o_a0 : gh_is T a0 1) : sv_Met l E yX1_checkUnit cX1_checkUnit 4 none 2 42 [] [.ref a0, .int x1, .int x2] (gh_w E T V) sz none (gh_w E T q) sz 0 0 := by
  refine sv_ofJ (by decide) (Nat.le_of_ble_eq_true rfl) ?_
  intro X hX hN hnm hR C hZ
  replace C : sv_C E X cX1_checkUnit RX1 [] := C
  show sv_J E X (gh_w E T V) sz 0 0 0 [(0, .ref a0), (1, .int x1), (2, .int x2)] []
  rw [f_X1_checkUnit] at hf
  refine sv_aload_n 0 C dX1_checkUnit_0 rfl rfl ?_
  refine sv_iload_n 1 C dX1_checkUnit_1 rfl rfl ?_
  obtain ⟨q2, hc2, hf⟩ := sv_bind_some hf
  refine gh_callV0 C mv_X1_70 (m_X1_isEmpty (sv_l X) E T sz _ _ _ _ hc2 hT o_a0) sv_sx0 o_a0 (by decide) rfl rfl rfl (Nat.le_of_ble_eq_true rfl) ⟨by rw [hR]; decide, by rw [hR]; decide⟩ ⟨by rw [hR]; decide, by rw [hR]; decide⟩ dX1_checkUnit_2 ?_
  refine sv_if_eq (tgt := 18) C dX1_checkUnit_5 (by decide) (fun c5 => ?_) (fun c5 => ?_)
  · replace hf := sv_if_t c5 hf
    refine sv_aload_n 0 C dX1_checkUnit_18 rfl rfl ?_
    refine sv_iload_n 1 C dX1_checkUnit_19 rfl rfl ?_
    obtain ⟨q20, hc20, hf⟩ := sv_bind_some hf
    refine gh_callV0 C mv_X1_36 (m_X1_to (sv_l X) E T sz _ _ _ _ hc20 hT o_a0) sv_sx0 o_a0 (by decide) rfl rfl rfl (Nat.le_of_ble_eq_true rfl) ⟨by rw [hR]; decide, by rw [hR]; decide⟩ ⟨by rw [hR]; decide, by rw [hR]; decide⟩ dX1_checkUnit_20 ?_
    refine sv_aload_n 0 C dX1_checkUnit_23 rfl rfl ?_
    refine sv_iload_n 1 C dX1_checkUnit_24 rfl rfl ?_
    obtain ⟨q25, hc25, hf⟩ := sv_bind_some hf
    refine gh_callV0 C mv_X1_59 (m_X1_from (sv_l X) E T sz _ _ _ _ hc25 hT o_a0) sv_sx0 o_a0 (by decide) rfl rfl rfl (Nat.le_of_ble_eq_true rfl) ⟨by rw [hR]; decide, by rw [hR]; decide⟩ ⟨by rw [hR]; decide, by rw [hR]; decide⟩ dX1_checkUnit_25 ?_
    refine sv_isub C dX1_checkUnit_28 ?_
    refine sv_iconst (v := 1) C dX1_checkUnit_29 (by decide) ?_
    refine sv_icmp_ne (tgt := 50) C dX1_checkUnit_30 (by decide) (fun c30 => ?_) (fun c30 => ?_)
    · replace hf := sv_if_f c30 hf
      refine sv_sub (lv' := [(0, .ref a0)]) [0] rfl ?_
      exact w_X1_checkUnit_50 C hZ hR hN hT o_a0 _ hf
    · replace hf := sv_if_t c30 hf
      refine sv_aload_n 0 C dX1_checkUnit_33 rfl rfl ?_
      refine sv_aload_n 0 C dX1_checkUnit_34 rfl rfl ?_
      refine sv_iload_n 1 C dX1_checkUnit_35 rfl rfl ?_
      obtain ⟨q36, hc36, hf⟩ := sv_bind_some hf
      refine gh_callV0 C mv_X1_59 (m_X1_from (sv_l X) E T sz _ _ _ _ hc36 hT o_a0) sv_sx0 o_a0 (by decide) rfl rfl rfl (Nat.le_of_ble_eq_true rfl) ⟨by rw [hR]; decide, by rw [hR]; decide⟩ ⟨by rw [hR]; decide, by rw [hR]; decide⟩ dX1_checkUnit_36 ?_
      obtain ⟨q39, hc39, hf⟩ := sv_bind_some hf
      refine gh_callV0 C mv_X1_74 (m_X1_at (sv_l X) E T sz _ _ _ _ hc39 hT o_a0) sv_sx0 o_a0 (by decide) rfl rfl rfl (Nat.le_of_ble_eq_true rfl) ⟨by rw [hR]; decide, by rw [hR]; decide⟩ ⟨by rw [hR]; decide, by rw [hR]; decide⟩ dX1_checkUnit_39 ?_
      refine sv_iload_n 2 C dX1_checkUnit_42 rfl rfl ?_
      refine sv_icmp_ne (tgt := 50) C dX1_checkUnit_43 (by decide) (fun c43 => ?_) (fun c43 => ?_)
      · replace hf := sv_if_f c43 hf
        refine sv_sub (lv' := [(0, .ref a0)]) [0] rfl ?_
        exact w_X1_checkUnit_50 C hZ hR hN hT o_a0 _ hf
      · replace hf := sv_if_t c43 hf
        refine sv_iconst (v := 1) C dX1_checkUnit_46 (by decide) ?_
        refine sv_goto (tgt := 51) C dX1_checkUnit_47 (by decide) ?_
        refine sv_sub (lv' := [(0, .ref a0)]) [0] rfl ?_
        exact w_X1_checkUnit_51 C hZ hR hN hT o_a0 _ _ hf
  · replace hf := sv_if_f c5 hf
    refine sv_aload_n 0 C dX1_checkUnit_8 rfl rfl ?_
    refine sv_iload_n 1 C dX1_checkUnit_9 rfl rfl ?_
    refine sv_iconst (v := 1) C dX1_checkUnit_10 (by decide) ?_
    refine sv_isub C dX1_checkUnit_11 ?_
    obtain ⟨q12, hc12, hf⟩ := sv_bind_some hf
    refine gh_callV0 C mv_X1_70 (m_X1_isEmpty (sv_l X) E T sz _ _ _ _ hc12 hT o_a0) sv_sx0 o_a0 (by decide) rfl rfl rfl (Nat.le_of_ble_eq_true rfl) ⟨by rw [hR]; decide, by rw [hR]; decide⟩ ⟨by rw [hR]; decide, by rw [hR]; decide⟩ dX1_checkUnit_12 ?_
    refine sv_goto (tgt := 51) C dX1_checkUnit_15 (by decide) ?_
    refine sv_sub (lv' := [(0, .ref a0)]) [0] rfl ?_
    exact w_X1_checkUnit_51 C hZ hR hN hT o_a0 _ _ hf
def f_X1_checkPack_95 (T : gh_T) (a0 : Nat) (k34 : gh_V → Int32 → Int32 → Option (gh_V)) (V : gh_V) (x1 : Int32) (x3 : Int32) : Option (gh_V) :=
  k34 V x1 (x3 + 1)
def f_X1_checkPack_83 (T : gh_T) (a0 : Nat) (k34 : gh_V → Int32 → Int32 → Option (gh_V)) (V : gh_V) (x1 : Int32) (x3 : Int32) (s0 : Int32) : Option (gh_V) :=
  if s0 = 0 then
    f_X1_checkPack_95 T a0 k34 (gh_pf V 3 a0 0) x1 x3
  else
    f_X1_checkPack_95 T a0 k34 V x1 x3
def f_X1_checkPack_78 (T : gh_T) (a0 : Nat) (k34 : gh_V → Int32 → Int32 → Option (gh_V)) (V : gh_V) (x1 : Int32) (x3 : Int32) : Option (gh_V) :=
  f_X1_checkPack_83 T a0 k34 V x1 x3 1
def f_X1_checkPack_82 (T : gh_T) (a0 : Nat) (k34 : gh_V → Int32 → Int32 → Option (gh_V)) (V : gh_V) (x1 : Int32) (x3 : Int32) : Option (gh_V) :=
  f_X1_checkPack_83 T a0 k34 V x1 x3 0
def f_X1_checkPack_64 (T : gh_T) (a0 : Nat) (k34 : gh_V → Int32 → Int32 → Option (gh_V)) (V : gh_V) (x1 : Int32) (x3 : Int32) (x4 : Int32) : Option (gh_V) :=
  if x4 < 96 then
    f_X1_checkPack_82 T a0 k34 V x1 x3
  else
    if 119 < x4 then
      f_X1_checkPack_82 T a0 k34 V x1 x3
    else
      f_X1_checkPack_78 T a0 k34 V x1 x3
def f_X1_checkPack_34 (T : gh_T) (a0 : Nat) : Nat → gh_V → Int32 → Int32 → Option (gh_V)
  | 0, _, _, _ => none
  | n + 1, V, x1, x3 =>
    (f_X1_to T V a0 x1).bind (fun q37 =>
      if q37.1 ≤ x3 then
        some (q37.2)
      else
        (f_X1_at T q37.2 a0 x3).bind (fun q45 =>
          if q45.1 < 48 then
            f_X1_checkPack_64 T a0 (f_X1_checkPack_34 T a0 n) q45.2 x1 x3 q45.1
          else
            if q45.1 ≤ 87 then
              f_X1_checkPack_78 T a0 (f_X1_checkPack_34 T a0 n) q45.2 x1 x3
            else
              f_X1_checkPack_64 T a0 (f_X1_checkPack_34 T a0 n) q45.2 x1 x3 q45.1))
def f_X1_checkPack_28 (T : gh_T) (a0 : Nat) (V : gh_V) (x1 : Int32) : Option (gh_V) :=
  (f_X1_from T V a0 x1).bind (fun q30 =>
    f_X1_checkPack_34 T a0 sv_fu q30.2 x1 q30.1)
def f_X1_checkPack_23 (T : gh_T) (a0 : Nat) (V : gh_V) (x1 : Int32) : Option (gh_V) :=
  f_X1_checkPack_28 T a0 (gh_pf V 3 a0 0) x1
def f_X1_checkPack (T : gh_T) (V : gh_V) (a0 : Nat) (x1 : Int32) : Option (gh_V) :=
  (f_X1_to T V a0 x1).bind (fun q2 =>
    (f_X1_from T q2.2 a0 x1).bind (fun q7 =>
      if (q2.1 - q7.1) < 1 then
        f_X1_checkPack_23 T a0 q7.2 x1
      else
        if (q2.1 - q7.1) ≤ 60 then
          f_X1_checkPack_28 T a0 q7.2 x1
        else
          f_X1_checkPack_23 T a0 q7.2 x1))
set_option maxHeartbeats 4000000 in
set_option maxRecDepth 100000 in
theorem w_X1_checkPack_95 {E : sv_E} {X : sv_X} {sz : Nat} {q : gh_V} {T : gh_T} {a0 : Nat} (C : sv_C E X cX1_checkPack RX1 []) (hZ : sv_Z E X none none (gh_w E T q) sz 0 0) (hR : sv_R X = { frames := 1, cells := 0, slots := 0, locals := 21 }) (hN : sv_nL X = 6) (hT : gh_ok T) (o_a0 : gh_is T a0 1) {k34 : gh_V → Int32 → Int32 → Option (gh_V)} (hk34 : ∀ (V : gh_V) (x1 : Int32) (x3 : Int32), k34 V x1 x3 = some q → sv_J E X (gh_w E T V) sz 0 0 34 [(0, .ref a0), (1, .int x1), (3, .int x3)] []) (V : gh_V) (x1 : Int32) (x3 : Int32) (hf : f_X1_checkPack_95 T a0 k34 V x1 x3 = some q) : sv_J E X (gh_w E T V) sz 0 0 95 [(0, .ref a0), (1, .int x1), (3, .int x3)] [] := by
  rw [f_X1_checkPack_95] at hf
  refine sv_iinc (v := x3 + 1) (lv' := [(3, .int (x3 + 1)), (0, .ref a0), (1, .int x1)]) 2 C dX1_checkPack_95 rfl rfl (by rw [hN]; decide) rfl ?_
  refine sv_goto (tgt := 34) C dX1_checkPack_98 (by decide) ?_
  refine sv_sub (lv' := [(0, .ref a0), (1, .int x1), (3, .int (x3 + 1))]) [1, 2, 0] rfl ?_
  exact hk34 _ _ _ hf
set_option maxHeartbeats 4000000 in
set_option maxRecDepth 100000 in
theorem w_X1_checkPack_83 {E : sv_E} {X : sv_X} {sz : Nat} {q : gh_V} {T : gh_T} {a0 : Nat} (C : sv_C E X cX1_checkPack RX1 []) (hZ : sv_Z E X none none (gh_w E T q) sz 0 0) (hR : sv_R X = { frames := 1, cells := 0, slots := 0, locals := 21 }) (hN : sv_nL X = 6) (hT : gh_ok T) (o_a0 : gh_is T a0 1) {k34 : gh_V → Int32 → Int32 → Option (gh_V)} (hk34 : ∀ (V : gh_V) (x1 : Int32) (x3 : Int32), k34 V x1 x3 = some q → sv_J E X (gh_w E T V) sz 0 0 34 [(0, .ref a0), (1, .int x1), (3, .int x3)] []) (V : gh_V) (x1 : Int32) (x3 : Int32) (s0 : Int32) (hf : f_X1_checkPack_83 T a0 k34 V x1 x3 s0 = some q) : sv_J E X (gh_w E T V) sz 0 0 83 [(0, .ref a0), (1, .int x1), (3, .int x3)] [.int s0] := by
  rw [f_X1_checkPack_83] at hf
  refine sv_istore (lv' := [(5, .int s0), (0, .ref a0), (1, .int x1), (3, .int x3)]) C dX1_checkPack_83 (by rw [hN]; decide) rfl ?_
  refine sv_iload 0 C dX1_checkPack_85 rfl ?_
  refine sv_if_ne (tgt := 95) C dX1_checkPack_87 (by decide) (fun c87 => ?_) (fun c87 => ?_)
  · replace hf := sv_if_f c87 hf
    refine sv_sub (lv' := [(0, .ref a0), (1, .int x1), (3, .int x3)]) [1, 2, 3] rfl ?_
    exact w_X1_checkPack_95 C hZ hR hN hT o_a0 hk34 _ _ _ hf
  · replace hf := sv_if_t c87 hf
    refine sv_aload_n 1 C dX1_checkPack_90 rfl rfl ?_
    refine sv_iconst (v := 0) C dX1_checkPack_91 (by decide) ?_
    refine gh_puti C fl_X1_21 o_a0 (by decide) (by decide) (by decide) (by decide) dX1_checkPack_92 ?_
    refine sv_sub (lv' := [(0, .ref a0), (1, .int x1), (3, .int x3)]) [1, 2, 3] rfl ?_
    exact w_X1_checkPack_95 C hZ hR hN hT o_a0 hk34 _ _ _ hf
set_option maxHeartbeats 4000000 in
set_option maxRecDepth 100000 in
theorem w_X1_checkPack_78 {E : sv_E} {X : sv_X} {sz : Nat} {q : gh_V} {T : gh_T} {a0 : Nat} (C : sv_C E X cX1_checkPack RX1 []) (hZ : sv_Z E X none none (gh_w E T q) sz 0 0) (hR : sv_R X = { frames := 1, cells := 0, slots := 0, locals := 21 }) (hN : sv_nL X = 6) (hT : gh_ok T) (o_a0 : gh_is T a0 1) {k34 : gh_V → Int32 → Int32 → Option (gh_V)} (hk34 : ∀ (V : gh_V) (x1 : Int32) (x3 : Int32), k34 V x1 x3 = some q → sv_J E X (gh_w E T V) sz 0 0 34 [(0, .ref a0), (1, .int x1), (3, .int x3)] []) (V : gh_V) (x1 : Int32) (x3 : Int32) (hf : f_X1_checkPack_78 T a0 k34 V x1 x3 = some q) : sv_J E X (gh_w E T V) sz 0 0 78 [(0, .ref a0), (1, .int x1), (3, .int x3)] [] := by
  rw [f_X1_checkPack_78] at hf
  refine sv_iconst (v := 1) C dX1_checkPack_78 (by decide) ?_
  refine sv_goto (tgt := 83) C dX1_checkPack_79 (by decide) ?_
  refine sv_sub (lv' := [(0, .ref a0), (1, .int x1), (3, .int x3)]) [0, 1, 2] rfl ?_
  exact w_X1_checkPack_83 C hZ hR hN hT o_a0 hk34 _ _ _ _ hf
set_option maxHeartbeats 4000000 in
set_option maxRecDepth 100000 in
theorem w_X1_checkPack_82 {E : sv_E} {X : sv_X} {sz : Nat} {q : gh_V} {T : gh_T} {a0 : Nat} (C : sv_C E X cX1_checkPack RX1 []) (hZ : sv_Z E X none none (gh_w E T q) sz 0 0) (hR : sv_R X = { frames := 1, cells := 0, slots := 0, locals := 21 }) (hN : sv_nL X = 6) (hT : gh_ok T) (o_a0 : gh_is T a0 1) {k34 : gh_V → Int32 → Int32 → Option (gh_V)} (hk34 : ∀ (V : gh_V) (x1 : Int32) (x3 : Int32), k34 V x1 x3 = some q → sv_J E X (gh_w E T V) sz 0 0 34 [(0, .ref a0), (1, .int x1), (3, .int x3)] []) (V : gh_V) (x1 : Int32) (x3 : Int32) (hf : f_X1_checkPack_82 T a0 k34 V x1 x3 = some q) : sv_J E X (gh_w E T V) sz 0 0 82 [(0, .ref a0), (1, .int x1), (3, .int x3)] [] := by
  rw [f_X1_checkPack_82] at hf
  refine sv_iconst (v := 0) C dX1_checkPack_82 (by decide) ?_
  refine sv_sub (lv' := [(0, .ref a0), (1, .int x1), (3, .int x3)]) [0, 1, 2] rfl ?_
  exact w_X1_checkPack_83 C hZ hR hN hT o_a0 hk34 _ _ _ _ hf
set_option maxHeartbeats 4000000 in
set_option maxRecDepth 100000 in
theorem w_X1_checkPack_64 {E : sv_E} {X : sv_X} {sz : Nat} {q : gh_V} {T : gh_T} {a0 : Nat} (C : sv_C E X cX1_checkPack RX1 []) (hZ : sv_Z E X none none (gh_w E T q) sz 0 0) (hR : sv_R X = { frames := 1, cells := 0, slots := 0, locals := 21 }) (hN : sv_nL X = 6) (hT : gh_ok T) (o_a0 : gh_is T a0 1) {k34 : gh_V → Int32 → Int32 → Option (gh_V)} (hk34 : ∀ (V : gh_V) (x1 : Int32) (x3 : Int32), k34 V x1 x3 = some q → sv_J E X (gh_w E T V) sz 0 0 34 [(0, .ref a0), (1, .int x1), (3, .int x3)] []) (V : gh_V) (x1 : Int32) (x3 : Int32) (x4 : Int32) (hf : f_X1_checkPack_64 T a0 k34 V x1 x3 x4 = some q) : sv_J E X (gh_w E T V) sz 0 0 64 [(0, .ref a0), (1, .int x1), (3, .int x3), (4, .int x4)] [] := by
  rw [f_X1_checkPack_64] at hf
  refine sv_iload 3 C dX1_checkPack_64 rfl ?_
  refine sv_bipush (v := 96) C dX1_checkPack_66 (by decide) ?_
  refine sv_icmp_lt (tgt := 82) C dX1_checkPack_68 (by decide) (fun c68 => ?_) (fun c68 => ?_)
  · replace hf := sv_if_t c68 hf
    refine sv_sub (lv' := [(0, .ref a0), (1, .int x1), (3, .int x3)]) [0, 1, 2] rfl ?_
    exact w_X1_checkPack_82 C hZ hR hN hT o_a0 hk34 _ _ _ hf
  · replace hf := sv_if_f c68 hf
    refine sv_iload 3 C dX1_checkPack_71 rfl ?_
    refine sv_bipush (v := 119) C dX1_checkPack_73 (by decide) ?_
    refine sv_icmp_gt (tgt := 82) C dX1_checkPack_75 (by decide) (fun c75 => ?_) (fun c75 => ?_)
    · replace hf := sv_if_t c75 hf
      refine sv_sub (lv' := [(0, .ref a0), (1, .int x1), (3, .int x3)]) [0, 1, 2] rfl ?_
      exact w_X1_checkPack_82 C hZ hR hN hT o_a0 hk34 _ _ _ hf
    · replace hf := sv_if_f c75 hf
      refine sv_sub (lv' := [(0, .ref a0), (1, .int x1), (3, .int x3)]) [0, 1, 2] rfl ?_
      exact w_X1_checkPack_78 C hZ hR hN hT o_a0 hk34 _ _ _ hf
set_option maxHeartbeats 4000000 in
set_option maxRecDepth 100000 in
theorem w_X1_checkPack_34 {E : sv_E} {X : sv_X} {sz : Nat} {q : gh_V} {T : gh_T} {a0 : Nat} (C : sv_C E X cX1_checkPack RX1 []) (hZ : sv_Z E X none none (gh_w E T q) sz 0 0) (hR : sv_R X = { frames := 1, cells := 0, slots := 0, locals := 21 }) (hN : sv_nL X = 6) (hT : gh_ok T) (o_a0 : gh_is T a0 1) : ∀ (n : Nat) (V : gh_V) (x1 : Int32) (x3 : Int32), f_X1_checkPack_34 T a0 n V x1 x3 = some q → sv_J E X (gh_w E T V) sz 0 0 34 [(0, .ref a0), (1, .int x1), (3, .int x3)] [] := by
  intro n
  induction n with
  | zero =>
    intro V x1 x3 hf
    rw [f_X1_checkPack_34] at hf
    cases hf
  | succ n ih =>
    intro V x1 x3 hf
    rw [f_X1_checkPack_34] at hf
    refine sv_iload_n 2 C dX1_checkPack_34 rfl rfl ?_
    refine sv_aload_n 0 C dX1_checkPack_35 rfl rfl ?_
    refine sv_iload_n 1 C dX1_checkPack_36 rfl rfl ?_
    obtain ⟨q37, hc37, hf⟩ := sv_bind_some hf
    refine gh_callV0 C mv_X1_36 (m_X1_to (sv_l X) E T sz _ _ _ _ hc37 hT o_a0) sv_sx0 o_a0 (by decide) rfl rfl rfl (Nat.le_of_ble_eq_true rfl) ⟨by rw [hR]; decide, by rw [hR]; decide⟩ ⟨by rw [hR]; decide, by rw [hR]; decide⟩ dX1_checkPack_37 ?_
    refine sv_icmp_ge (tgt := 101) C dX1_checkPack_40 (by decide) (fun c40 => ?_) (fun c40 => ?_)
    · replace hf := sv_if_t c40 hf
      exact sv_vret C (by cases hf; exact hZ) dX1_checkPack_101
    · replace hf := sv_if_f c40 hf
      refine sv_aload_n 0 C dX1_checkPack_43 rfl rfl ?_
      refine sv_iload_n 2 C dX1_checkPack_44 rfl rfl ?_
      obtain ⟨q45, hc45, hf⟩ := sv_bind_some hf
      refine gh_callV0 C mv_X1_74 (m_X1_at (sv_l X) E T sz _ _ _ _ hc45 hT o_a0) sv_sx0 o_a0 (by decide) rfl rfl rfl (Nat.le_of_ble_eq_true rfl) ⟨by rw [hR]; decide, by rw [hR]; decide⟩ ⟨by rw [hR]; decide, by rw [hR]; decide⟩ dX1_checkPack_45 ?_
      refine sv_istore (lv' := [(4, .int q45.1), (0, .ref a0), (1, .int x1), (3, .int x3)]) C dX1_checkPack_48 (by rw [hN]; decide) rfl ?_
      refine sv_iload 0 C dX1_checkPack_50 rfl ?_
      refine sv_bipush (v := 48) C dX1_checkPack_52 (by decide) ?_
      refine sv_icmp_lt (tgt := 64) C dX1_checkPack_54 (by decide) (fun c54 => ?_) (fun c54 => ?_)
      · replace hf := sv_if_t c54 hf
        refine sv_sub (lv' := [(0, .ref a0), (1, .int x1), (3, .int x3), (4, .int q45.1)]) [1, 2, 3, 0] rfl ?_
        exact w_X1_checkPack_64 C hZ hR hN hT o_a0 ih _ _ _ _ hf
      · replace hf := sv_if_f c54 hf
        refine sv_iload 0 C dX1_checkPack_57 rfl ?_
        refine sv_bipush (v := 87) C dX1_checkPack_59 (by decide) ?_
        refine sv_icmp_le (tgt := 78) C dX1_checkPack_61 (by decide) (fun c61 => ?_) (fun c61 => ?_)
        · replace hf := sv_if_t c61 hf
          refine sv_sub (lv' := [(0, .ref a0), (1, .int x1), (3, .int x3)]) [1, 2, 3] rfl ?_
          exact w_X1_checkPack_78 C hZ hR hN hT o_a0 ih _ _ _ hf
        · replace hf := sv_if_f c61 hf
          refine sv_sub (lv' := [(0, .ref a0), (1, .int x1), (3, .int x3), (4, .int q45.1)]) [1, 2, 3, 0] rfl ?_
          exact w_X1_checkPack_64 C hZ hR hN hT o_a0 ih _ _ _ _ hf
set_option maxHeartbeats 4000000 in
set_option maxRecDepth 100000 in
theorem w_X1_checkPack_28 {E : sv_E} {X : sv_X} {sz : Nat} {q : gh_V} {T : gh_T} {a0 : Nat} (C : sv_C E X cX1_checkPack RX1 []) (hZ : sv_Z E X none none (gh_w E T q) sz 0 0) (hR : sv_R X = { frames := 1, cells := 0, slots := 0, locals := 21 }) (hN : sv_nL X = 6) (hT : gh_ok T) (o_a0 : gh_is T a0 1) (V : gh_V) (x1 : Int32) (hf : f_X1_checkPack_28 T a0 V x1 = some q) : sv_J E X (gh_w E T V) sz 0 0 28 [(0, .ref a0), (1, .int x1)] [] := by
  rw [f_X1_checkPack_28] at hf
  refine sv_aload_n 0 C dX1_checkPack_28 rfl rfl ?_
  refine sv_iload_n 1 C dX1_checkPack_29 rfl rfl ?_
  obtain ⟨q30, hc30, hf⟩ := sv_bind_some hf
  refine gh_callV0 C mv_X1_59 (m_X1_from (sv_l X) E T sz _ _ _ _ hc30 hT o_a0) sv_sx0 o_a0 (by decide) rfl rfl rfl (Nat.le_of_ble_eq_true rfl) ⟨by rw [hR]; decide, by rw [hR]; decide⟩ ⟨by rw [hR]; decide, by rw [hR]; decide⟩ dX1_checkPack_30 ?_
  refine sv_istore_n (lv' := [(3, .int q30.1), (0, .ref a0), (1, .int x1)]) C dX1_checkPack_33 rfl (by rw [hN]; decide) rfl ?_
  refine sv_sub (lv' := [(0, .ref a0), (1, .int x1), (3, .int q30.1)]) [1, 2, 0] rfl ?_
  exact w_X1_checkPack_34 C hZ hR hN hT o_a0 sv_fu _ _ _ hf
set_option maxHeartbeats 4000000 in
set_option maxRecDepth 100000 in
theorem w_X1_checkPack_23 {E : sv_E} {X : sv_X} {sz : Nat} {q : gh_V} {T : gh_T} {a0 : Nat} (C : sv_C E X cX1_checkPack RX1 []) (hZ : sv_Z E X none none (gh_w E T q) sz 0 0) (hR : sv_R X = { frames := 1, cells := 0, slots := 0, locals := 21 }) (hN : sv_nL X = 6) (hT : gh_ok T) (o_a0 : gh_is T a0 1) (V : gh_V) (x1 : Int32) (hf : f_X1_checkPack_23 T a0 V x1 = some q) : sv_J E X (gh_w E T V) sz 0 0 23 [(0, .ref a0), (1, .int x1)] [] := by
  rw [f_X1_checkPack_23] at hf
  refine sv_aload_n 0 C dX1_checkPack_23 rfl rfl ?_
  refine sv_iconst (v := 0) C dX1_checkPack_24 (by decide) ?_
  refine gh_puti C fl_X1_21 o_a0 (by decide) (by decide) (by decide) (by decide) dX1_checkPack_25 ?_
  refine sv_sub (lv' := [(0, .ref a0), (1, .int x1)]) [0, 1] rfl ?_
  exact w_X1_checkPack_28 C hZ hR hN hT o_a0 _ _ hf
set_option maxHeartbeats 4000000 in
set_option maxRecDepth 100000 in
theorem m_X1_checkPack (l : Launch) (E : sv_E) (T : gh_T) (sz : Nat) (V : gh_V) (a0 : Nat) (x1 : Int32) (q : gh_V) (hf : f_X1_checkPack T V a0 x1 = some q) (hT : gh_ok T) (o_a0 : gh_is T a0 1) : sv_Met l E yX1_checkPack cX1_checkPack 6 none 1 21 [] [.ref a0, .int x1] (gh_w E T V) sz none (gh_w E T q) sz 0 0 := by
  refine sv_ofJ (by decide) (Nat.le_of_ble_eq_true rfl) ?_
  intro X hX hN hnm hR C hZ
  replace C : sv_C E X cX1_checkPack RX1 [] := C
  show sv_J E X (gh_w E T V) sz 0 0 0 [(0, .ref a0), (1, .int x1)] []
  rw [f_X1_checkPack] at hf
  refine sv_aload_n 0 C dX1_checkPack_0 rfl rfl ?_
  refine sv_iload_n 1 C dX1_checkPack_1 rfl rfl ?_
  obtain ⟨q2, hc2, hf⟩ := sv_bind_some hf
  refine gh_callV0 C mv_X1_36 (m_X1_to (sv_l X) E T sz _ _ _ _ hc2 hT o_a0) sv_sx0 o_a0 (by decide) rfl rfl rfl (Nat.le_of_ble_eq_true rfl) ⟨by rw [hR]; decide, by rw [hR]; decide⟩ ⟨by rw [hR]; decide, by rw [hR]; decide⟩ dX1_checkPack_2 ?_
  refine sv_aload_n 0 C dX1_checkPack_5 rfl rfl ?_
  refine sv_iload_n 1 C dX1_checkPack_6 rfl rfl ?_
  obtain ⟨q7, hc7, hf⟩ := sv_bind_some hf
  refine gh_callV0 C mv_X1_59 (m_X1_from (sv_l X) E T sz _ _ _ _ hc7 hT o_a0) sv_sx0 o_a0 (by decide) rfl rfl rfl (Nat.le_of_ble_eq_true rfl) ⟨by rw [hR]; decide, by rw [hR]; decide⟩ ⟨by rw [hR]; decide, by rw [hR]; decide⟩ dX1_checkPack_7 ?_
  refine sv_isub C dX1_checkPack_10 ?_
  refine sv_istore_n (lv' := [(2, .int (q2.1 - q7.1)), (0, .ref a0), (1, .int x1)]) C dX1_checkPack_11 rfl (by rw [hN]; decide) rfl ?_
  refine sv_iload_n 0 C dX1_checkPack_12 rfl rfl ?_
  refine sv_iconst (v := 1) C dX1_checkPack_13 (by decide) ?_
  refine sv_icmp_lt (tgt := 23) C dX1_checkPack_14 (by decide) (fun c14 => ?_) (fun c14 => ?_)
  · replace hf := sv_if_t c14 hf
    refine sv_sub (lv' := [(0, .ref a0), (1, .int x1)]) [1, 2] rfl ?_
    exact w_X1_checkPack_23 C hZ hR hN hT o_a0 _ _ hf
  · replace hf := sv_if_f c14 hf
    refine sv_iload_n 0 C dX1_checkPack_17 rfl rfl ?_
    refine sv_bipush (v := 60) C dX1_checkPack_18 (by decide) ?_
    refine sv_icmp_le (tgt := 28) C dX1_checkPack_20 (by decide) (fun c20 => ?_) (fun c20 => ?_)
    · replace hf := sv_if_t c20 hf
      refine sv_sub (lv' := [(0, .ref a0), (1, .int x1)]) [1, 2] rfl ?_
      exact w_X1_checkPack_28 C hZ hR hN hT o_a0 _ _ hf
    · replace hf := sv_if_f c20 hf
      refine sv_sub (lv' := [(0, .ref a0), (1, .int x1)]) [1, 2] rfl ?_
      exact w_X1_checkPack_23 C hZ hR hN hT o_a0 _ _ hf
def f_X1_unpack_56 (T : gh_T) (a0 : Nat) (a3 : Nat) (k16 : gh_V → Int32 → Int32 → Int32 → Option (gh_V)) (V : gh_V) (x2 : Int32) (x4 : Int32) (x5 : Int32) (x6 : Int32) (s0 : Int32) : Option (gh_V) :=
  (f_X0_append T V a3 (x6 >>> (s0 &&& 31)) (6 - s0)).bind (fun q69 =>
    k16 q69 x2 x4 (x5 + 1))
def f_X1_unpack_44 (T : gh_T) (a0 : Nat) (a3 : Nat) (k16 : gh_V → Int32 → Int32 → Int32 → Option (gh_V)) (V : gh_V) (x2 : Int32) (x4 : Int32) (x5 : Int32) (x6 : Int32) : Option (gh_V) :=
  if x5 = x4 then
    f_X1_unpack_56 T a0 a3 k16 V x2 x4 x5 x6 x2
  else
    f_X1_unpack_56 T a0 a3 k16 V x2 x4 x5 x6 0
def f_X1_unpack_16 (T : gh_T) (a0 : Nat) (a3 : Nat) : Nat → gh_V → Int32 → Int32 → Int32 → Option (gh_V)
  | 0, _, _, _, _ => none
  | n + 1, V, x2, x4, x5 =>
    if x4 < x5 then
      some (V)
    else
      (f_X1_at T V a0 x5).bind (fun q26 =>
        if (q26.1 - 48) ≤ 40 then
          f_X1_unpack_44 T a0 a3 (f_X1_unpack_16 T a0 a3 n) q26.2 x2 x4 x5 (q26.1 - 48)
        else
          f_X1_unpack_44 T a0 a3 (f_X1_unpack_16 T a0 a3 n) q26.2 x2 x4 x5 ((q26.1 - 48) + (-8)))
def f_X1_unpack (T : gh_T) (V : gh_V) (a0 : Nat) (x1 : Int32) (x2 : Int32) (a3 : Nat) : Option (gh_V) :=
  (f_X1_to T V a0 x1).bind (fun q2 =>
    (f_X1_from T q2.2 a0 x1).bind (fun q11 =>
      f_X1_unpack_16 T a0 a3 sv_fu q11.2 x2 (q2.1 - 1) q11.1))
set_option maxHeartbeats 4000000 in
set_option maxRecDepth 100000 in
theorem w_X1_unpack_56 {E : sv_E} {X : sv_X} {sz : Nat} {q : gh_V} {T : gh_T} {a0 : Nat} {a3 : Nat} (C : sv_C E X cX1_unpack RX1 []) (hZ : sv_Z E X none none (gh_w E T q) sz 0 0) (hR : sv_R X = { frames := 1, cells := 0, slots := 0, locals := 27 }) (hN : sv_nL X = 8) (hT : gh_ok T) (o_a0 : gh_is T a0 1) (o_a3 : gh_is T a3 0) {k16 : gh_V → Int32 → Int32 → Int32 → Option (gh_V)} (hk16 : ∀ (V : gh_V) (x2 : Int32) (x4 : Int32) (x5 : Int32), k16 V x2 x4 x5 = some q → sv_J E X (gh_w E T V) sz 0 0 16 [(0, .ref a0), (2, .int x2), (3, .ref a3), (4, .int x4), (5, .int x5)] []) (V : gh_V) (x2 : Int32) (x4 : Int32) (x5 : Int32) (x6 : Int32) (s0 : Int32) (hf : f_X1_unpack_56 T a0 a3 k16 V x2 x4 x5 x6 s0 = some q) : sv_J E X (gh_w E T V) sz 0 0 56 [(0, .ref a0), (2, .int x2), (3, .ref a3), (4, .int x4), (5, .int x5), (6, .int x6)] [.int s0] := by
  rw [f_X1_unpack_56] at hf
  refine sv_istore (lv' := [(7, .int s0), (0, .ref a0), (2, .int x2), (3, .ref a3), (4, .int x4), (5, .int x5), (6, .int x6)]) C dX1_unpack_56 (by rw [hN]; decide) rfl ?_
  refine sv_aload_n 3 C dX1_unpack_58 rfl rfl ?_
  refine sv_iload 6 C dX1_unpack_59 rfl ?_
  refine sv_iload 0 C dX1_unpack_61 rfl ?_
  refine sv_ishr C dX1_unpack_63 ?_
  refine sv_bipush (v := 6) C dX1_unpack_64 (by decide) ?_
  refine sv_iload 0 C dX1_unpack_66 rfl ?_
  refine sv_isub C dX1_unpack_68 ?_
  obtain ⟨q69, hc69, hf⟩ := sv_bind_some hf
  refine gh_callV0 C mv_X1_105 (m_X0_append (sv_l X) E T sz _ _ _ _ _ hc69 hT o_a3) sv_sx0 o_a3 (by decide) rfl rfl rfl (Nat.le_of_ble_eq_true rfl) ⟨by rw [hR]; decide, by rw [hR]; decide⟩ ⟨by rw [hR]; decide, by rw [hR]; decide⟩ dX1_unpack_69 ?_
  refine sv_iinc (v := x5 + 1) (lv' := [(5, .int (x5 + 1)), (7, .int s0), (0, .ref a0), (2, .int x2), (3, .ref a3), (4, .int x4), (6, .int x6)]) 5 C dX1_unpack_72 rfl rfl (by rw [hN]; decide) rfl ?_
  refine sv_goto (tgt := 16) C dX1_unpack_75 (by decide) ?_
  refine sv_sub (lv' := [(0, .ref a0), (2, .int x2), (3, .ref a3), (4, .int x4), (5, .int (x5 + 1))]) [2, 3, 4, 5, 0] rfl ?_
  exact hk16 _ _ _ _ hf
set_option maxHeartbeats 4000000 in
set_option maxRecDepth 100000 in
theorem w_X1_unpack_44 {E : sv_E} {X : sv_X} {sz : Nat} {q : gh_V} {T : gh_T} {a0 : Nat} {a3 : Nat} (C : sv_C E X cX1_unpack RX1 []) (hZ : sv_Z E X none none (gh_w E T q) sz 0 0) (hR : sv_R X = { frames := 1, cells := 0, slots := 0, locals := 27 }) (hN : sv_nL X = 8) (hT : gh_ok T) (o_a0 : gh_is T a0 1) (o_a3 : gh_is T a3 0) {k16 : gh_V → Int32 → Int32 → Int32 → Option (gh_V)} (hk16 : ∀ (V : gh_V) (x2 : Int32) (x4 : Int32) (x5 : Int32), k16 V x2 x4 x5 = some q → sv_J E X (gh_w E T V) sz 0 0 16 [(0, .ref a0), (2, .int x2), (3, .ref a3), (4, .int x4), (5, .int x5)] []) (V : gh_V) (x2 : Int32) (x4 : Int32) (x5 : Int32) (x6 : Int32) (hf : f_X1_unpack_44 T a0 a3 k16 V x2 x4 x5 x6 = some q) : sv_J E X (gh_w E T V) sz 0 0 44 [(0, .ref a0), (2, .int x2), (3, .ref a3), (4, .int x4), (5, .int x5), (6, .int x6)] [] := by
  rw [f_X1_unpack_44] at hf
  refine sv_iload 4 C dX1_unpack_44 rfl ?_
  refine sv_iload 3 C dX1_unpack_46 rfl ?_
  refine sv_icmp_ne (tgt := 55) C dX1_unpack_48 (by decide) (fun c48 => ?_) (fun c48 => ?_)
  · replace hf := sv_if_f c48 hf
    refine sv_iconst (v := 0) C dX1_unpack_55 (by decide) ?_
    refine sv_sub (lv' := [(0, .ref a0), (2, .int x2), (3, .ref a3), (4, .int x4), (5, .int x5), (6, .int x6)]) [0, 1, 2, 3, 4, 5] rfl ?_
    exact w_X1_unpack_56 C hZ hR hN hT o_a0 o_a3 hk16 _ _ _ _ _ _ hf
  · replace hf := sv_if_t c48 hf
    refine sv_iload_n 1 C dX1_unpack_51 rfl rfl ?_
    refine sv_goto (tgt := 56) C dX1_unpack_52 (by decide) ?_
    refine sv_sub (lv' := [(0, .ref a0), (2, .int x2), (3, .ref a3), (4, .int x4), (5, .int x5), (6, .int x6)]) [0, 1, 2, 3, 4, 5] rfl ?_
    exact w_X1_unpack_56 C hZ hR hN hT o_a0 o_a3 hk16 _ _ _ _ _ _ hf
set_option maxHeartbeats 4000000 in
set_option maxRecDepth 100000 in
theorem w_X1_unpack_16 {E : sv_E} {X : sv_X} {sz : Nat} {q : gh_V} {T : gh_T} {a0 : Nat} {a3 : Nat} (C : sv_C E X cX1_unpack RX1 []) (hZ : sv_Z E X none none (gh_w E T q) sz 0 0) (hR : sv_R X = { frames := 1, cells := 0, slots := 0, locals := 27 }) (hN : sv_nL X = 8) (hT : gh_ok T) (o_a0 : gh_is T a0 1) (o_a3 : gh_is T a3 0) : ∀ (n : Nat) (V : gh_V) (x2 : Int32) (x4 : Int32) (x5 : Int32), f_X1_unpack_16 T a0 a3 n V x2 x4 x5 = some q → sv_J E X (gh_w E T V) sz 0 0 16 [(0, .ref a0), (2, .int x2), (3, .ref a3), (4, .int x4), (5, .int x5)] [] := by
  intro n
  induction n with
  | zero =>
    intro V x2 x4 x5 hf
    rw [f_X1_unpack_16] at hf
    cases hf
  | succ n ih =>
    intro V x2 x4 x5 hf
    rw [f_X1_unpack_16] at hf
    refine sv_iload 4 C dX1_unpack_16 rfl ?_
    refine sv_iload 3 C dX1_unpack_18 rfl ?_
    refine sv_icmp_gt (tgt := 78) C dX1_unpack_20 (by decide) (fun c20 => ?_) (fun c20 => ?_)
    · replace hf := sv_if_t c20 hf
      exact sv_vret C (by cases hf; exact hZ) dX1_unpack_78
    · replace hf := sv_if_f c20 hf
      refine sv_aload_n 0 C dX1_unpack_23 rfl rfl ?_
      refine sv_iload 4 C dX1_unpack_24 rfl ?_
      obtain ⟨q26, hc26, hf⟩ := sv_bind_some hf
      refine gh_callV0 C mv_X1_74 (m_X1_at (sv_l X) E T sz _ _ _ _ hc26 hT o_a0) sv_sx0 o_a0 (by decide) rfl rfl rfl (Nat.le_of_ble_eq_true rfl) ⟨by rw [hR]; decide, by rw [hR]; decide⟩ ⟨by rw [hR]; decide, by rw [hR]; decide⟩ dX1_unpack_26 ?_
      refine sv_bipush (v := 48) C dX1_unpack_29 (by decide) ?_
      refine sv_isub C dX1_unpack_31 ?_
      refine sv_istore (lv' := [(6, .int (q26.1 - 48)), (0, .ref a0), (2, .int x2), (3, .ref a3), (4, .int x4), (5, .int x5)]) C dX1_unpack_32 (by rw [hN]; decide) rfl ?_
      refine sv_iload 0 C dX1_unpack_34 rfl ?_
      refine sv_bipush (v := 40) C dX1_unpack_36 (by decide) ?_
      refine sv_icmp_le (tgt := 44) C dX1_unpack_38 (by decide) (fun c38 => ?_) (fun c38 => ?_)
      · replace hf := sv_if_t c38 hf
        refine sv_sub (lv' := [(0, .ref a0), (2, .int x2), (3, .ref a3), (4, .int x4), (5, .int x5), (6, .int (q26.1 - 48))]) [1, 2, 3, 4, 5, 0] rfl ?_
        exact w_X1_unpack_44 C hZ hR hN hT o_a0 o_a3 ih _ _ _ _ _ hf
      · replace hf := sv_if_f c38 hf
        refine sv_iinc (v := (q26.1 - 48) + (-8)) (lv' := [(6, .int ((q26.1 - 48) + (-8))), (0, .ref a0), (2, .int x2), (3, .ref a3), (4, .int x4), (5, .int x5)]) 0 C dX1_unpack_41 rfl rfl (by rw [hN]; decide) rfl ?_
        refine sv_sub (lv' := [(0, .ref a0), (2, .int x2), (3, .ref a3), (4, .int x4), (5, .int x5), (6, .int ((q26.1 - 48) + (-8)))]) [1, 2, 3, 4, 5, 0] rfl ?_
        exact w_X1_unpack_44 C hZ hR hN hT o_a0 o_a3 ih _ _ _ _ _ hf
set_option maxHeartbeats 4000000 in
set_option maxRecDepth 100000 in
theorem m_X1_unpack (l : Launch) (E : sv_E) (T : gh_T) (sz : Nat) (V : gh_V) (a0 : Nat) (x1 : Int32) (x2 : Int32) (a3 : Nat) (q : gh_V) (hf : f_X1_unpack T V a0 x1 x2 a3 = some q) (hT : gh_ok T) (o_a0 : gh_is T a0 1) (o_a3 : gh_is T a3 0) : sv_Met l E yX1_unpack cX1_unpack 8 none 1 27 [] [.ref a0, .int x1, .int x2, .ref a3] (gh_w E T V) sz none (gh_w E T q) sz 0 0 := by
  refine sv_ofJ (by decide) (Nat.le_of_ble_eq_true rfl) ?_
  intro X hX hN hnm hR C hZ
  replace C : sv_C E X cX1_unpack RX1 [] := C
  show sv_J E X (gh_w E T V) sz 0 0 0 [(0, .ref a0), (1, .int x1), (2, .int x2), (3, .ref a3)] []
  rw [f_X1_unpack] at hf
  refine sv_aload_n 0 C dX1_unpack_0 rfl rfl ?_
  refine sv_iload_n 1 C dX1_unpack_1 rfl rfl ?_
  obtain ⟨q2, hc2, hf⟩ := sv_bind_some hf
  refine gh_callV0 C mv_X1_36 (m_X1_to (sv_l X) E T sz _ _ _ _ hc2 hT o_a0) sv_sx0 o_a0 (by decide) rfl rfl rfl (Nat.le_of_ble_eq_true rfl) ⟨by rw [hR]; decide, by rw [hR]; decide⟩ ⟨by rw [hR]; decide, by rw [hR]; decide⟩ dX1_unpack_2 ?_
  refine sv_iconst (v := 1) C dX1_unpack_5 (by decide) ?_
  refine sv_isub C dX1_unpack_6 ?_
  refine sv_istore (lv' := [(4, .int (q2.1 - 1)), (0, .ref a0), (1, .int x1), (2, .int x2), (3, .ref a3)]) C dX1_unpack_7 (by rw [hN]; decide) rfl ?_
  refine sv_aload_n 1 C dX1_unpack_9 rfl rfl ?_
  refine sv_iload_n 2 C dX1_unpack_10 rfl rfl ?_
  obtain ⟨q11, hc11, hf⟩ := sv_bind_some hf
  refine gh_callV0 C mv_X1_59 (m_X1_from (sv_l X) E T sz _ _ _ _ hc11 hT o_a0) sv_sx0 o_a0 (by decide) rfl rfl rfl (Nat.le_of_ble_eq_true rfl) ⟨by rw [hR]; decide, by rw [hR]; decide⟩ ⟨by rw [hR]; decide, by rw [hR]; decide⟩ dX1_unpack_11 ?_
  refine sv_istore (lv' := [(5, .int q11.1), (4, .int (q2.1 - 1)), (0, .ref a0), (1, .int x1), (2, .int x2), (3, .ref a3)]) C dX1_unpack_14 (by rw [hN]; decide) rfl ?_
  refine sv_sub (lv' := [(0, .ref a0), (2, .int x2), (3, .ref a3), (4, .int (q2.1 - 1)), (5, .int q11.1)]) [2, 4, 5, 1, 0] rfl ?_
  exact w_X1_unpack_16 C hZ hR hN hT o_a0 o_a3 sv_fu _ _ _ _ hf
