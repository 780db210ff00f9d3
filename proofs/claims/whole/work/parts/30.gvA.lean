def f_X0_empty (T : gh_T) (V : gh_V) (a0 : Nat) : Option (gh_V) :=
  (T.2.2.1 1 a0).bind (fun b1 =>
    (f_J7_fill_53178 T V b1 0).bind (fun q5 =>
      some (gh_pf q5 2 a0 0)))
set_option maxHeartbeats 4000000 in
set_option maxRecDepth 100000 in
theorem m_X0_empty (l : Launch) (E : sv_E) (T : gh_T) (sz : Nat) (V : gh_V) (a0 : Nat) (q : gh_V) (hf : f_X0_empty T V a0 = some q) (hT : gh_ok T) (o_a0 : gh_is T a0 0) : sv_Met l E yX0_empty cX0_empty 1 none 1 23 [] [.ref a0] (gh_w E T V) sz none (gh_w E T q) sz 0 0 := by
  refine sv_ofJ (by decide) (Nat.le_of_ble_eq_true rfl) ?_
  intro X hX hN hnm hR C hZ
  replace C : sv_C E X cX0_empty RX0 [] := C
  show sv_J E X (gh_w E T V) sz 0 0 0 [(0, .ref a0)] []
  rw [f_X0_empty] at hf
  refine sv_aload_n 0 C dX0_empty_0 rfl rfl ?_
  obtain ⟨b1, hb1, hf⟩ := sv_bind_some hf
  have o_b1 : gh_is T b1 10 := gh_okr hT o_a0 rfl hb1
  refine gh_getr (d := 10) C fl_X0_13 o_a0 (by decide) (by decide) hb1 dX0_empty_1 ?_
  refine sv_iconst (v := 0) C dX0_empty_4 (by decide) ?_
  obtain ⟨q5, hc5, hf⟩ := sv_bind_some hf
  refine sv_callS0 C ms_X0_17 (m_J7_fill_53178 (sv_l X) E T sz _ _ _ _ hc5 hT o_b1) sv_sx0 rfl rfl (Nat.le_of_ble_eq_true rfl) ⟨by rw [hR]; decide, by rw [hR]; decide⟩ ⟨by rw [hR]; decide, by rw [hR]; decide⟩ dX0_empty_5 ?_
  refine sv_aload_n 0 C dX0_empty_8 rfl rfl ?_
  refine sv_iconst (v := 0) C dX0_empty_9 (by decide) ?_
  refine gh_puti C fl_X0_23 o_a0 (by decide) (by decide) rfl rfl dX0_empty_10 ?_
  exact sv_vret C (by cases hf; exact hZ) dX0_empty_13
def f_X0_copy_35 (T : gh_T) (a0 : Nat) (a1 : Nat) (k2 : gh_V → Int32 → Option (gh_V)) (V : gh_V) (x2 : Int32) (s0 : Int32) (s1 : Int32) (as2 : Nat) : Option (gh_V) :=
  sv_g (sv_inb s1 (T.2.2.2.1 as2)) (
    k2 (gh_pa V as2 s1 s0) (x2 + 1))
def f_X0_copy_2 (T : gh_T) (a0 : Nat) (a1 : Nat) : Nat → gh_V → Int32 → Option (gh_V)
  | 0, _, _ => none
  | n + 1, V, x2 =>
    (T.2.2.1 1 a0).bind (fun b4 =>
      if (Int32.ofNat (T.2.2.2.1 b4)) ≤ x2 then
        some (gh_pf V 2 a0 (V.1 2 a1))
      else
        (T.2.2.1 1 a0).bind (fun b12 =>
          (T.2.2.1 1 a1).bind (fun b18 =>
            if (Int32.ofNat (T.2.2.2.1 b18)) ≤ x2 then
              f_X0_copy_35 T a0 a1 (f_X0_copy_2 T a0 a1 n) V x2 0 x2 b12
            else
              (T.2.2.1 1 a1).bind (fun b26 =>
                sv_g (sv_inb x2 (T.2.2.2.1 b26)) (
                  f_X0_copy_35 T a0 a1 (f_X0_copy_2 T a0 a1 n) V x2 (V.2 b26 x2.toNatClampNeg) x2 b12)))))
def f_X0_copy (T : gh_T) (V : gh_V) (a0 : Nat) (a1 : Nat) : Option (gh_V) :=
  f_X0_copy_2 T a0 a1 sv_fu V 0
set_option maxHeartbeats 4000000 in
set_option maxRecDepth 100000 in
theorem w_X0_copy_35 {E : sv_E} {X : sv_X} {sz : Nat} {q : gh_V} {T : gh_T} {a0 : Nat} {a1 : Nat} (C : sv_C E X cX0_copy RX0 []) (hZ : sv_Z E X none none (gh_w E T q) sz 0 0) (hR : sv_R X = { frames := 0, cells := 0, slots := 0, locals := 0 }) (hN : sv_nL X = 3) (hT : gh_ok T) (o_a0 : gh_is T a0 0) (o_a1 : gh_is T a1 0) {k2 : gh_V → Int32 → Option (gh_V)} (hk2 : ∀ (V : gh_V) (x2 : Int32), k2 V x2 = some q → sv_J E X (gh_w E T V) sz 0 0 2 [(0, .ref a0), (1, .ref a1), (2, .int x2)] []) (V : gh_V) (x2 : Int32) (s0 : Int32) (s1 : Int32) (as2 : Nat) (o_as2 : gh_is T as2 10) (hf : f_X0_copy_35 T a0 a1 k2 V x2 s0 s1 as2 = some q) : sv_J E X (gh_w E T V) sz 0 0 35 [(0, .ref a0), (1, .ref a1), (2, .int x2)] [.int s0, .int s1, .ref as2] := by
  rw [f_X0_copy_35] at hf
  obtain ⟨g35, hf⟩ := sv_g_some hf
  refine gh_iast C o_as2 g35 dX0_copy_35 ?_
  refine sv_iinc (v := x2 + 1) (lv' := [(2, .int (x2 + 1)), (0, .ref a0), (1, .ref a1)]) 2 C dX0_copy_36 rfl rfl (by rw [hN]; decide) rfl ?_
  refine sv_goto (tgt := 2) C dX0_copy_39 (by decide) ?_
  refine sv_sub (lv' := [(0, .ref a0), (1, .ref a1), (2, .int (x2 + 1))]) [1, 2, 0] rfl ?_
  exact hk2 _ _ hf
set_option maxHeartbeats 4000000 in
set_option maxRecDepth 100000 in
theorem w_X0_copy_2 {E : sv_E} {X : sv_X} {sz : Nat} {q : gh_V} {T : gh_T} {a0 : Nat} {a1 : Nat} (C : sv_C E X cX0_copy RX0 []) (hZ : sv_Z E X none none (gh_w E T q) sz 0 0) (hR : sv_R X = { frames := 0, cells := 0, slots := 0, locals := 0 }) (hN : sv_nL X = 3) (hT : gh_ok T) (o_a0 : gh_is T a0 0) (o_a1 : gh_is T a1 0) : ∀ (n : Nat) (V : gh_V) (x2 : Int32), f_X0_copy_2 T a0 a1 n V x2 = some q → sv_J E X (gh_w E T V) sz 0 0 2 [(0, .ref a0), (1, .ref a1), (2, .int x2)] [] := by
  intro n
  induction n with
  | zero =>
    intro V x2 hf
    rw [f_X0_copy_2] at hf
    cases hf
  | succ n ih =>
    intro V x2 hf
    rw [f_X0_copy_2] at hf
    refine sv_iload_n 2 C dX0_copy_2 rfl rfl ?_
    refine sv_aload_n 0 C dX0_copy_3 rfl rfl ?_
    obtain ⟨b4, hb4, hf⟩ := sv_bind_some hf
    have o_b4 : gh_is T b4 10 := gh_okr hT o_a0 rfl hb4
    refine gh_getr (d := 10) C fl_X0_13 o_a0 (by decide) (by decide) hb4 dX0_copy_4 ?_
    refine gh_alen C o_b4 (by decide) dX0_copy_7 ?_
    refine sv_icmp_ge (tgt := 42) C dX0_copy_8 (by decide) (fun c8 => ?_) (fun c8 => ?_)
    · replace hf := sv_if_t c8 hf
      refine sv_aload_n 0 C dX0_copy_42 rfl rfl ?_
      refine sv_aload_n 1 C dX0_copy_43 rfl rfl ?_
      refine gh_geti C fl_X0_23 o_a1 (by decide) (by decide) dX0_copy_44 ?_
      refine gh_puti C fl_X0_23 o_a0 (by decide) (by decide) rfl rfl dX0_copy_47 ?_
      exact sv_vret C (by cases hf; exact hZ) dX0_copy_50
    · replace hf := sv_if_f c8 hf
      refine sv_aload_n 0 C dX0_copy_11 rfl rfl ?_
      obtain ⟨b12, hb12, hf⟩ := sv_bind_some hf
      have o_b12 : gh_is T b12 10 := gh_okr hT o_a0 rfl hb12
      refine gh_getr (d := 10) C fl_X0_13 o_a0 (by decide) (by decide) hb12 dX0_copy_12 ?_
      refine sv_iload_n 2 C dX0_copy_15 rfl rfl ?_
      refine sv_iload_n 2 C dX0_copy_16 rfl rfl ?_
      refine sv_aload_n 1 C dX0_copy_17 rfl rfl ?_
      obtain ⟨b18, hb18, hf⟩ := sv_bind_some hf
      have o_b18 : gh_is T b18 10 := gh_okr hT o_a1 rfl hb18
      refine gh_getr (d := 10) C fl_X0_13 o_a1 (by decide) (by decide) hb18 dX0_copy_18 ?_
      refine gh_alen C o_b18 (by decide) dX0_copy_21 ?_
      refine sv_icmp_ge (tgt := 34) C dX0_copy_22 (by decide) (fun c22 => ?_) (fun c22 => ?_)
      · replace hf := sv_if_t c22 hf
        refine sv_iconst (v := 0) C dX0_copy_34 (by decide) ?_
        refine sv_sub (lv' := [(0, .ref a0), (1, .ref a1), (2, .int x2)]) [0, 1, 2] rfl ?_
        exact w_X0_copy_35 C hZ hR hN hT o_a0 o_a1 ih _ _ _ _ _ o_b12 hf
      · replace hf := sv_if_f c22 hf
        refine sv_aload_n 1 C dX0_copy_25 rfl rfl ?_
        obtain ⟨b26, hb26, hf⟩ := sv_bind_some hf
        have o_b26 : gh_is T b26 10 := gh_okr hT o_a1 rfl hb26
        refine gh_getr (d := 10) C fl_X0_13 o_a1 (by decide) (by decide) hb26 dX0_copy_26 ?_
        refine sv_iload_n 2 C dX0_copy_29 rfl rfl ?_
        obtain ⟨g30, hf⟩ := sv_g_some hf
        refine gh_iald C o_b26 g30 dX0_copy_30 ?_
        refine sv_goto (tgt := 35) C dX0_copy_31 (by decide) ?_
        refine sv_sub (lv' := [(0, .ref a0), (1, .ref a1), (2, .int x2)]) [0, 1, 2] rfl ?_
        exact w_X0_copy_35 C hZ hR hN hT o_a0 o_a1 ih _ _ _ _ _ o_b12 hf
set_option maxHeartbeats 4000000 in
set_option maxRecDepth 100000 in
theorem m_X0_copy (l : Launch) (E : sv_E) (T : gh_T) (sz : Nat) (V : gh_V) (a0 : Nat) (a1 : Nat) (q : gh_V) (hf : f_X0_copy T V a0 a1 = some q) (hT : gh_ok T) (o_a0 : gh_is T a0 0) (o_a1 : gh_is T a1 0) : sv_Met l E yX0_copy cX0_copy 3 none 0 0 [] [.ref a0, .ref a1] (gh_w E T V) sz none (gh_w E T q) sz 0 0 := by
  refine sv_ofJ (by decide) (Nat.le_of_ble_eq_true rfl) ?_
  intro X hX hN hnm hR C hZ
  replace C : sv_C E X cX0_copy RX0 [] := C
  show sv_J E X (gh_w E T V) sz 0 0 0 [(0, .ref a0), (1, .ref a1)] []
  rw [f_X0_copy] at hf
  refine sv_iconst (v := 0) C dX0_copy_0 (by decide) ?_
  refine sv_istore_n (lv' := [(2, .int 0), (0, .ref a0), (1, .ref a1)]) C dX0_copy_1 rfl (by rw [hN]; decide) rfl ?_
  refine sv_sub (lv' := [(0, .ref a0), (1, .ref a1), (2, .int 0)]) [1, 2, 0] rfl ?_
  exact w_X0_copy_2 C hZ hR hN hT o_a0 o_a1 sv_fu _ _ hf
def f_X0_append (T : gh_T) (V : gh_V) (a0 : Nat) (x1 : Int32) (x2 : Int32) : Option (gh_V) :=
  if x2 < 1 then
    some (V)
  else
    if 32 < x2 then
      some (V)
    else
      if (V.1 2 a0) < 0 then
        some (V)
      else
        if (V.1 2 a0) ≤ ((V.1 0 a0) - x2) then
          (T.2.2.1 1 a0).bind (fun b67 =>
            sv_g (sv_inb ((V.1 2 a0) >>> (5 &&& 31)) (T.2.2.2.1 b67)) (
              sv_g (sv_inb ((V.1 2 a0) >>> (5 &&& 31)) (T.2.2.2.1 b67)) (
                (T.2.2.1 1 a0).bind (fun b82 =>
                  sv_g (sv_inb (((V.1 2 a0) >>> (5 &&& 31)) + 1) (T.2.2.2.1 b82)) (
                    sv_g (sv_inb (((V.1 2 a0) >>> (5 &&& 31)) + 1) (T.2.2.2.1 b82)) (
                      some (gh_pf (gh_pa (gh_pa V b67 ((V.1 2 a0) >>> (5 &&& 31)) ((V.2 b67 ((V.1 2 a0) >>> (5 &&& 31)).toNatClampNeg) ||| (((((x1.toInt64 &&& (((1 : Int64) <<< (x2.toInt64 &&& 63)) - 1)) <<< (((64 - x2) - ((V.1 2 a0) &&& 31)).toInt64 &&& 63)).toUInt64 >>> ((32 : Int32).toInt64.toUInt64 &&& Int64.toUInt64 63)).toInt64).toInt32))) b82 (((V.1 2 a0) >>> (5 &&& 31)) + 1) (((gh_pa V b67 ((V.1 2 a0) >>> (5 &&& 31)) ((V.2 b67 ((V.1 2 a0) >>> (5 &&& 31)).toNatClampNeg) ||| (((((x1.toInt64 &&& (((1 : Int64) <<< (x2.toInt64 &&& 63)) - 1)) <<< (((64 - x2) - ((V.1 2 a0) &&& 31)).toInt64 &&& 63)).toUInt64 >>> ((32 : Int32).toInt64.toUInt64 &&& Int64.toUInt64 63)).toInt64).toInt32))).2 b82 (((V.1 2 a0) >>> (5 &&& 31)) + 1).toNatClampNeg) ||| (((x1.toInt64 &&& (((1 : Int64) <<< (x2.toInt64 &&& 63)) - 1)) <<< (((64 - x2) - ((V.1 2 a0) &&& 31)).toInt64 &&& 63)).toInt32))) 2 a0 (((gh_pa (gh_pa V b67 ((V.1 2 a0) >>> (5 &&& 31)) ((V.2 b67 ((V.1 2 a0) >>> (5 &&& 31)).toNatClampNeg) ||| (((((x1.toInt64 &&& (((1 : Int64) <<< (x2.toInt64 &&& 63)) - 1)) <<< (((64 - x2) - ((V.1 2 a0) &&& 31)).toInt64 &&& 63)).toUInt64 >>> ((32 : Int32).toInt64.toUInt64 &&& Int64.toUInt64 63)).toInt64).toInt32))) b82 (((V.1 2 a0) >>> (5 &&& 31)) + 1) (((gh_pa V b67 ((V.1 2 a0) >>> (5 &&& 31)) ((V.2 b67 ((V.1 2 a0) >>> (5 &&& 31)).toNatClampNeg) ||| (((((x1.toInt64 &&& (((1 : Int64) <<< (x2.toInt64 &&& 63)) - 1)) <<< (((64 - x2) - ((V.1 2 a0) &&& 31)).toInt64 &&& 63)).toUInt64 >>> ((32 : Int32).toInt64.toUInt64 &&& Int64.toUInt64 63)).toInt64).toInt32))).2 b82 (((V.1 2 a0) >>> (5 &&& 31)) + 1).toNatClampNeg) ||| (((x1.toInt64 &&& (((1 : Int64) <<< (x2.toInt64 &&& 63)) - 1)) <<< (((64 - x2) - ((V.1 2 a0) &&& 31)).toInt64 &&& 63)).toInt32))).1 2 a0) + x2))))))))
        else
          some (V)
set_option maxHeartbeats 4000000 in
set_option maxRecDepth 100000 in
theorem m_X0_append (l : Launch) (E : sv_E) (T : gh_T) (sz : Nat) (V : gh_V) (a0 : Nat) (x1 : Int32) (x2 : Int32) (q : gh_V) (hf : f_X0_append T V a0 x1 x2 = some q) (hT : gh_ok T) (o_a0 : gh_is T a0 0) : sv_Met l E yX0_append cX0_append 8 none 0 0 [] [.ref a0, .int x1, .int x2] (gh_w E T V) sz none (gh_w E T q) sz 0 0 := by
  refine sv_ofJ (by decide) (Nat.le_of_ble_eq_true rfl) ?_
  intro X hX hN hnm hR C hZ
  replace C : sv_C E X cX0_append RX0 [] := C
  show sv_J E X (gh_w E T V) sz 0 0 0 [(0, .ref a0), (1, .int x1), (2, .int x2)] []
  rw [f_X0_append] at hf
  refine sv_iload_n 2 C dX0_append_0 rfl rfl ?_
  refine sv_iconst (v := 1) C dX0_append_1 (by decide) ?_
  refine sv_icmp_lt (tgt := 31) C dX0_append_2 (by decide) (fun c2 => ?_) (fun c2 => ?_)
  · replace hf := sv_if_t c2 hf
    exact sv_vret C (by cases hf; exact hZ) dX0_append_31
  · replace hf := sv_if_f c2 hf
    refine sv_iload_n 2 C dX0_append_5 rfl rfl ?_
    refine sv_bipush (v := 32) C dX0_append_6 (by decide) ?_
    refine sv_icmp_gt (tgt := 31) C dX0_append_8 (by decide) (fun c8 => ?_) (fun c8 => ?_)
    · replace hf := sv_if_t c8 hf
      exact sv_vret C (by cases hf; exact hZ) dX0_append_31
    · replace hf := sv_if_f c8 hf
      refine sv_aload_n 0 C dX0_append_11 rfl rfl ?_
      refine gh_geti C fl_X0_23 o_a0 (by decide) (by decide) dX0_append_12 ?_
      refine sv_if_lt (tgt := 31) C dX0_append_15 (by decide) (fun c15 => ?_) (fun c15 => ?_)
      · replace hf := sv_if_t c15 hf
        exact sv_vret C (by cases hf; exact hZ) dX0_append_31
      · replace hf := sv_if_f c15 hf
        refine sv_aload_n 0 C dX0_append_18 rfl rfl ?_
        refine gh_geti C fl_X0_23 o_a0 (by decide) (by decide) dX0_append_19 ?_
        refine sv_aload_n 0 C dX0_append_22 rfl rfl ?_
        refine gh_geti C fl_X0_7 o_a0 (by decide) (by decide) dX0_append_23 ?_
        refine sv_iload_n 2 C dX0_append_26 rfl rfl ?_
        refine sv_isub C dX0_append_27 ?_
        refine sv_icmp_le (tgt := 32) C dX0_append_28 (by decide) (fun c28 => ?_) (fun c28 => ?_)
        · replace hf := sv_if_t c28 hf
          refine sv_aload_n 0 C dX0_append_32 rfl rfl ?_
          refine gh_geti C fl_X0_23 o_a0 (by decide) (by decide) dX0_append_33 ?_
          refine sv_iconst (v := 5) C dX0_append_36 (by decide) ?_
          refine sv_ishr C dX0_append_37 ?_
          refine sv_istore_n (lv' := [(3, .int ((V.1 2 a0) >>> (5 &&& 31))), (0, .ref a0), (1, .int x1), (2, .int x2)]) C dX0_append_38 rfl (by rw [hN]; decide) rfl ?_
          refine sv_iload_n 2 C dX0_append_39 rfl rfl ?_
          refine sv_i2l C dX0_append_40 ?_
          refine sv_lconst (v := 1) C dX0_append_41 (by decide) ?_
          refine sv_iload_n 3 C dX0_append_42 rfl rfl ?_
          refine sv_lshl C dX0_append_43 ?_
          refine sv_lconst (v := 1) C dX0_append_44 (by decide) ?_
          refine sv_lsub C dX0_append_45 ?_
          refine sv_land C dX0_append_46 ?_
          refine sv_lstore (lv' := [(4, .long (x1.toInt64 &&& (((1 : Int64) <<< (x2.toInt64 &&& 63)) - 1))), (3, .int ((V.1 2 a0) >>> (5 &&& 31))), (0, .ref a0), (1, .int x1), (2, .int x2)]) C dX0_append_47 (by rw [hN]; decide) rfl ?_
          refine sv_lload 0 C dX0_append_49 rfl ?_
          refine sv_bipush (v := 64) C dX0_append_51 (by decide) ?_
          refine sv_iload_n 4 C dX0_append_53 rfl rfl ?_
          refine sv_isub C dX0_append_54 ?_
          refine sv_aload_n 2 C dX0_append_55 rfl rfl ?_
          refine gh_geti C fl_X0_23 o_a0 (by decide) (by decide) dX0_append_56 ?_
          refine sv_bipush (v := 31) C dX0_append_59 (by decide) ?_
          refine sv_iand C dX0_append_61 ?_
          refine sv_isub C dX0_append_62 ?_
          refine sv_lshl C dX0_append_63 ?_
          refine sv_lstore (lv' := [(6, .long ((x1.toInt64 &&& (((1 : Int64) <<< (x2.toInt64 &&& 63)) - 1)) <<< (((64 - x2) - ((V.1 2 a0) &&& 31)).toInt64 &&& 63))), (4, .long (x1.toInt64 &&& (((1 : Int64) <<< (x2.toInt64 &&& 63)) - 1))), (3, .int ((V.1 2 a0) >>> (5 &&& 31))), (0, .ref a0), (1, .int x1), (2, .int x2)]) C dX0_append_64 (by rw [hN]; decide) rfl ?_
          refine sv_aload_n 3 C dX0_append_66 rfl rfl ?_
          obtain ⟨b67, hb67, hf⟩ := sv_bind_some hf
          have o_b67 : gh_is T b67 10 := gh_okr hT o_a0 rfl hb67
          refine gh_getr (d := 10) C fl_X0_13 o_a0 (by decide) (by decide) hb67 dX0_append_67 ?_
          refine sv_iload_n 2 C dX0_append_70 rfl rfl ?_
          refine sv_dup2 C dX0_append_71 rfl rfl ?_
          obtain ⟨g72, hf⟩ := sv_g_some hf
          refine gh_iald C o_b67 g72 dX0_append_72 ?_
          refine sv_lload 0 C dX0_append_73 rfl ?_
          refine sv_bipush (v := 32) C dX0_append_75 (by decide) ?_
          refine sv_lushr C dX0_append_77 ?_
          refine sv_l2i C dX0_append_78 ?_
          refine sv_ior C dX0_append_79 ?_
          obtain ⟨g80, hf⟩ := sv_g_some hf
          refine gh_iast C o_b67 g80 dX0_append_80 ?_
          refine sv_aload_n 3 C dX0_append_81 rfl rfl ?_
          obtain ⟨b82, hb82, hf⟩ := sv_bind_some hf
          have o_b82 : gh_is T b82 10 := gh_okr hT o_a0 rfl hb82
          refine gh_getr (d := 10) C fl_X0_13 o_a0 (by decide) (by decide) hb82 dX0_append_82 ?_
          refine sv_iload_n 2 C dX0_append_85 rfl rfl ?_
          refine sv_iconst (v := 1) C dX0_append_86 (by decide) ?_
          refine sv_iadd C dX0_append_87 ?_
          refine sv_dup2 C dX0_append_88 rfl rfl ?_
          obtain ⟨g89, hf⟩ := sv_g_some hf
          refine gh_iald C o_b82 g89 dX0_append_89 ?_
          refine sv_lload 0 C dX0_append_90 rfl ?_
          refine sv_l2i C dX0_append_92 ?_
          refine sv_ior C dX0_append_93 ?_
          obtain ⟨g94, hf⟩ := sv_g_some hf
          refine gh_iast C o_b82 g94 dX0_append_94 ?_
          refine sv_aload_n 3 C dX0_append_95 rfl rfl ?_
          refine sv_dup C dX0_append_96 rfl ?_
          refine gh_geti C fl_X0_23 o_a0 (by decide) (by decide) dX0_append_97 ?_
          refine sv_iload_n 5 C dX0_append_100 rfl rfl ?_
          refine sv_iadd C dX0_append_101 ?_
          refine gh_puti C fl_X0_23 o_a0 (by decide) (by decide) rfl rfl dX0_append_102 ?_
          exact sv_vret C (by cases hf; exact hZ) dX0_append_105
        · replace hf := sv_if_f c28 hf
          exact sv_vret C (by cases hf; exact hZ) dX0_append_31
def f_X0_read (T : gh_T) (V : gh_V) (a0 : Nat) (x1 : Int32) (x2 : Int32) : Option (Int32 × gh_V) :=
  if x2 < 1 then
    some (0, V)
  else
    if 32 < x2 then
      some (0, V)
    else
      if (x1 >>> (5 &&& 31)) < 0 then
        some (0, V)
      else
        (T.2.2.1 1 a0).bind (fun b21 =>
          if (x1 >>> (5 &&& 31)) < ((Int32.ofNat (T.2.2.2.1 b21)) - 1) then
            (T.2.2.1 1 a0).bind (fun b33 =>
              sv_g (sv_inb (x1 >>> (5 &&& 31)) (T.2.2.2.1 b33)) (
                (T.2.2.1 1 a0).bind (fun b43 =>
                  sv_g (sv_inb ((x1 >>> (5 &&& 31)) + 1) (T.2.2.2.1 b43)) (
                    some ((((((((V.2 b33 (x1 >>> (5 &&& 31)).toNatClampNeg).toInt64) <<< ((32 : Int32).toInt64 &&& 63)) ||| (((V.2 b43 ((x1 >>> (5 &&& 31)) + 1).toNatClampNeg).toInt64) &&& 4294967295)) <<< ((x1 &&& 31).toInt64 &&& 63)).toUInt64 >>> ((64 - x2).toInt64.toUInt64 &&& Int64.toUInt64 63)).toInt64).toInt32, V)))))
          else
            some (0, V))
set_option maxHeartbeats 4000000 in
set_option maxRecDepth 100000 in
theorem m_X0_read (l : Launch) (E : sv_E) (T : gh_T) (sz : Nat) (V : gh_V) (a0 : Nat) (x1 : Int32) (x2 : Int32) (q : Int32 × gh_V) (hf : f_X0_read T V a0 x1 x2 = some q) (hT : gh_ok T) (o_a0 : gh_is T a0 0) : sv_Met l E yX0_read cX0_read 6 (some .int) 0 0 [] [.ref a0, .int x1, .int x2] (gh_w E T V) sz (some (.int q.1)) (gh_w E T q.2) sz 0 0 := by
  refine sv_ofJ (by decide) (Nat.le_of_ble_eq_true rfl) ?_
  intro X hX hN hnm hR C hZ
  replace C : sv_C E X cX0_read RX0 [] := C
  show sv_J E X (gh_w E T V) sz 0 0 0 [(0, .ref a0), (1, .int x1), (2, .int x2)] []
  rw [f_X0_read] at hf
  refine sv_iload_n 1 C dX0_read_0 rfl rfl ?_
  refine sv_iconst (v := 5) C dX0_read_1 (by decide) ?_
  refine sv_ishr C dX0_read_2 ?_
  refine sv_istore_n (lv' := [(3, .int (x1 >>> (5 &&& 31))), (0, .ref a0), (1, .int x1), (2, .int x2)]) C dX0_read_3 rfl (by rw [hN]; decide) rfl ?_
  refine sv_iload_n 3 C dX0_read_4 rfl rfl ?_
  refine sv_iconst (v := 1) C dX0_read_5 (by decide) ?_
  refine sv_icmp_lt (tgt := 30) C dX0_read_6 (by decide) (fun c6 => ?_) (fun c6 => ?_)
  · replace hf := sv_if_t c6 hf
    refine sv_iconst (v := 0) C dX0_read_30 (by decide) ?_
    exact sv_iret C (by cases hf; exact hZ) dX0_read_31
  · replace hf := sv_if_f c6 hf
    refine sv_iload_n 3 C dX0_read_9 rfl rfl ?_
    refine sv_bipush (v := 32) C dX0_read_10 (by decide) ?_
    refine sv_icmp_gt (tgt := 30) C dX0_read_12 (by decide) (fun c12 => ?_) (fun c12 => ?_)
    · replace hf := sv_if_t c12 hf
      refine sv_iconst (v := 0) C dX0_read_30 (by decide) ?_
      exact sv_iret C (by cases hf; exact hZ) dX0_read_31
    · replace hf := sv_if_f c12 hf
      refine sv_iload_n 0 C dX0_read_15 rfl rfl ?_
      refine sv_if_lt (tgt := 30) C dX0_read_16 (by decide) (fun c16 => ?_) (fun c16 => ?_)
      · replace hf := sv_if_t c16 hf
        refine sv_iconst (v := 0) C dX0_read_30 (by decide) ?_
        exact sv_iret C (by cases hf; exact hZ) dX0_read_31
      · replace hf := sv_if_f c16 hf
        refine sv_iload_n 0 C dX0_read_19 rfl rfl ?_
        refine sv_aload_n 1 C dX0_read_20 rfl rfl ?_
        obtain ⟨b21, hb21, hf⟩ := sv_bind_some hf
        have o_b21 : gh_is T b21 10 := gh_okr hT o_a0 rfl hb21
        refine gh_getr (d := 10) C fl_X0_13 o_a0 (by decide) (by decide) hb21 dX0_read_21 ?_
        refine gh_alen C o_b21 (by decide) dX0_read_24 ?_
        refine sv_iconst (v := 1) C dX0_read_25 (by decide) ?_
        refine sv_isub C dX0_read_26 ?_
        refine sv_icmp_lt (tgt := 32) C dX0_read_27 (by decide) (fun c27 => ?_) (fun c27 => ?_)
        · replace hf := sv_if_t c27 hf
          refine sv_aload_n 1 C dX0_read_32 rfl rfl ?_
          obtain ⟨b33, hb33, hf⟩ := sv_bind_some hf
          have o_b33 : gh_is T b33 10 := gh_okr hT o_a0 rfl hb33
          refine gh_getr (d := 10) C fl_X0_13 o_a0 (by decide) (by decide) hb33 dX0_read_33 ?_
          refine sv_iload_n 0 C dX0_read_36 rfl rfl ?_
          obtain ⟨g37, hf⟩ := sv_g_some hf
          refine gh_iald C o_b33 g37 dX0_read_37 ?_
          refine sv_i2l C dX0_read_38 ?_
          refine sv_bipush (v := 32) C dX0_read_39 (by decide) ?_
          refine sv_lshl C dX0_read_41 ?_
          refine sv_aload_n 1 C dX0_read_42 rfl rfl ?_
          obtain ⟨b43, hb43, hf⟩ := sv_bind_some hf
          have o_b43 : gh_is T b43 10 := gh_okr hT o_a0 rfl hb43
          refine gh_getr (d := 10) C fl_X0_13 o_a0 (by decide) (by decide) hb43 dX0_read_43 ?_
          refine sv_iload_n 0 C dX0_read_46 rfl rfl ?_
          refine sv_iconst (v := 1) C dX0_read_47 (by decide) ?_
          refine sv_iadd C dX0_read_48 ?_
          obtain ⟨g49, hf⟩ := sv_g_some hf
          refine gh_iald C o_b43 g49 dX0_read_49 ?_
          refine sv_i2l C dX0_read_50 ?_
          refine sv_ldc2 C kw_11 dX0_read_51 ?_
          refine sv_land C dX0_read_54 ?_
          refine sv_lor C dX0_read_55 ?_
          refine sv_lstore (lv' := [(4, .long ((((V.2 b33 (x1 >>> (5 &&& 31)).toNatClampNeg).toInt64) <<< ((32 : Int32).toInt64 &&& 63)) ||| (((V.2 b43 ((x1 >>> (5 &&& 31)) + 1).toNatClampNeg).toInt64) &&& 4294967295))), (3, .int (x1 >>> (5 &&& 31))), (0, .ref a0), (1, .int x1), (2, .int x2)]) C dX0_read_56 (by rw [hN]; decide) rfl ?_
          refine sv_lload 0 C dX0_read_58 rfl ?_
          refine sv_iload_n 3 C dX0_read_60 rfl rfl ?_
          refine sv_bipush (v := 31) C dX0_read_61 (by decide) ?_
          refine sv_iand C dX0_read_63 ?_
          refine sv_lshl C dX0_read_64 ?_
          refine sv_bipush (v := 64) C dX0_read_65 (by decide) ?_
          refine sv_iload_n 4 C dX0_read_67 rfl rfl ?_
          refine sv_isub C dX0_read_68 ?_
          refine sv_lushr C dX0_read_69 ?_
          refine sv_l2i C dX0_read_70 ?_
          exact sv_iret C (by cases hf; exact hZ) dX0_read_71
        · replace hf := sv_if_f c27 hf
          refine sv_iconst (v := 0) C dX0_read_30 (by decide) ?_
          exact sv_iret C (by cases hf; exact hZ) dX0_read_31
def f_X5_at (T : gh_T) (V : gh_V) (a0 : Nat) (x1 : Int32) : Option (Int32 × gh_V) :=
  if x1 < 0 then
    some ((-2147483648), V)
  else
    if (V.1 3 a0) ≤ x1 then
      some ((-2147483648), V)
    else
      if 78 ≤ x1 then
        some ((-2147483648), V)
      else
        (T.2.2.1 0 a0).bind (fun b19 =>
          sv_g (sv_inb x1 (T.2.2.2.1 b19)) (
            some (V.2 b19 x1.toNatClampNeg, V)))
set_option maxHeartbeats 4000000 in
set_option maxRecDepth 100000 in
theorem m_X5_at (l : Launch) (E : sv_E) (T : gh_T) (sz : Nat) (V : gh_V) (a0 : Nat) (x1 : Int32) (q : Int32 × gh_V) (hf : f_X5_at T V a0 x1 = some q) (hT : gh_ok T) (o_a0 : gh_is T a0 5) : sv_Met l E yX5_at cX5_at 2 (some .int) 0 0 [] [.ref a0, .int x1] (gh_w E T V) sz (some (.int q.1)) (gh_w E T q.2) sz 0 0 := by
  refine sv_ofJ (by decide) (Nat.le_of_ble_eq_true rfl) ?_
  intro X hX hN hnm hR C hZ
  replace C : sv_C E X cX5_at RX5 [] := C
  show sv_J E X (gh_w E T V) sz 0 0 0 [(0, .ref a0), (1, .int x1)] []
  rw [f_X5_at] at hf
  refine sv_iload_n 1 C dX5_at_0 rfl rfl ?_
  refine sv_if_lt (tgt := 27) C dX5_at_1 (by decide) (fun c1 => ?_) (fun c1 => ?_)
  · replace hf := sv_if_t c1 hf
    refine sv_ldc C kw_18 dX5_at_27 ?_
    exact sv_iret C (by cases hf; exact hZ) dX5_at_29
  · replace hf := sv_if_f c1 hf
    refine sv_iload_n 1 C dX5_at_4 rfl rfl ?_
    refine sv_aload_n 0 C dX5_at_5 rfl rfl ?_
    refine gh_geti C fl_X5_19 o_a0 (by decide) (by decide) dX5_at_6 ?_
    refine sv_icmp_ge (tgt := 27) C dX5_at_9 (by decide) (fun c9 => ?_) (fun c9 => ?_)
    · replace hf := sv_if_t c9 hf
      refine sv_ldc C kw_18 dX5_at_27 ?_
      exact sv_iret C (by cases hf; exact hZ) dX5_at_29
    · replace hf := sv_if_f c9 hf
      refine sv_iload_n 1 C dX5_at_12 rfl rfl ?_
      refine sv_bipush (v := 78) C dX5_at_13 (by decide) ?_
      refine sv_icmp_ge (tgt := 27) C dX5_at_15 (by decide) (fun c15 => ?_) (fun c15 => ?_)
      · replace hf := sv_if_t c15 hf
        refine sv_ldc C kw_18 dX5_at_27 ?_
        exact sv_iret C (by cases hf; exact hZ) dX5_at_29
      · replace hf := sv_if_f c15 hf
        refine sv_aload_n 0 C dX5_at_18 rfl rfl ?_
        obtain ⟨b19, hb19, hf⟩ := sv_bind_some hf
        have o_b19 : gh_is T b19 9 := gh_okr hT o_a0 rfl hb19
        refine gh_getr (d := 9) C fl_X5_11 o_a0 (by decide) (by decide) hb19 dX5_at_19 ?_
        refine sv_iload_n 1 C dX5_at_22 rfl rfl ?_
        obtain ⟨g23, hf⟩ := sv_g_some hf
        refine gh_bald C o_b19 g23 dX5_at_23 ?_
        refine sv_goto (tgt := 29) C dX5_at_24 (by decide) ?_
        exact sv_iret C (by cases hf; exact hZ) dX5_at_29
def f_X5_forget (T : gh_T) (V : gh_V) (a0 : Nat) : Option (gh_V) :=
  some (gh_pf V 1 a0 0)
set_option maxHeartbeats 4000000 in
set_option maxRecDepth 100000 in
theorem m_X5_forget (l : Launch) (E : sv_E) (T : gh_T) (sz : Nat) (V : gh_V) (a0 : Nat) (q : gh_V) (hf : f_X5_forget T V a0 = some q) (hT : gh_ok T) (o_a0 : gh_is T a0 5) : sv_Met l E yX5_forget cX5_forget 1 none 0 0 [] [.ref a0] (gh_w E T V) sz none (gh_w E T q) sz 0 0 := by
  refine sv_ofJ (by decide) (Nat.le_of_ble_eq_true rfl) ?_
  intro X hX hN hnm hR C hZ
  replace C : sv_C E X cX5_forget RX5 [] := C
  show sv_J E X (gh_w E T V) sz 0 0 0 [(0, .ref a0)] []
  rw [f_X5_forget] at hf
  refine sv_aload_n 0 C dX5_forget_0 rfl rfl ?_
  refine sv_iconst (v := 0) C dX5_forget_1 (by decide) ?_
  refine gh_puti C fl_X5_15 o_a0 (by decide) (by decide) rfl rfl dX5_forget_2 ?_
  exact sv_vret C (by cases hf; exact hZ) dX5_forget_5
def f_X5_underWay (T : gh_T) (V : gh_V) (a0 : Nat) : Option (Int32 × gh_V) :=
  if (V.1 1 a0) = 0 then
    some (0, V)
  else
    some ((V.1 3 a0) + 1, V)
set_option maxHeartbeats 4000000 in
set_option maxRecDepth 100000 in
theorem m_X5_underWay (l : Launch) (E : sv_E) (T : gh_T) (sz : Nat) (V : gh_V) (a0 : Nat) (q : Int32 × gh_V) (hf : f_X5_underWay T V a0 = some q) (hT : gh_ok T) (o_a0 : gh_is T a0 5) : sv_Met l E yX5_underWay cX5_underWay 1 (some .int) 0 0 [] [.ref a0] (gh_w E T V) sz (some (.int q.1)) (gh_w E T q.2) sz 0 0 := by
  refine sv_ofJ (by decide) (Nat.le_of_ble_eq_true rfl) ?_
  intro X hX hN hnm hR C hZ
  replace C : sv_C E X cX5_underWay RX5 [] := C
  show sv_J E X (gh_w E T V) sz 0 0 0 [(0, .ref a0)] []
  rw [f_X5_underWay] at hf
  refine sv_aload_n 0 C dX5_underWay_0 rfl rfl ?_
  refine gh_geti C fl_X5_15 o_a0 (by decide) (by decide) dX5_underWay_1 ?_
  refine sv_if_ne (tgt := 11) C dX5_underWay_4 (by decide) (fun c4 => ?_) (fun c4 => ?_)
  · replace hf := sv_if_f c4 hf
    refine sv_aload_n 0 C dX5_underWay_11 rfl rfl ?_
    refine gh_geti C fl_X5_19 o_a0 (by decide) (by decide) dX5_underWay_12 ?_
    refine sv_iconst (v := 1) C dX5_underWay_15 (by decide) ?_
    refine sv_iadd C dX5_underWay_16 ?_
    exact sv_iret C (by cases hf; exact hZ) dX5_underWay_17
  · replace hf := sv_if_t c4 hf
    refine sv_iconst (v := 0) C dX5_underWay_7 (by decide) ?_
    refine sv_goto (tgt := 17) C dX5_underWay_8 (by decide) ?_
    exact sv_iret C (by cases hf; exact hZ) dX5_underWay_17
def f_X5_begin_12 (T : gh_T) (a0 : Nat) (V : gh_V) (x1 : Int32) (s0 : Int32) : Option (Int32 × gh_V) :=
  some (s0, gh_pf (gh_pf (gh_pf (gh_pf (gh_pf V 1 a0 1) 2 a0 x1) 3 a0 0) 4 a0 0) 5 a0 0)
def f_X5_begin (T : gh_T) (V : gh_V) (a0 : Nat) (x1 : Int32) : Option (Int32 × gh_V) :=
  if (V.1 1 a0) = 0 then
    f_X5_begin_12 T a0 V x1 0
  else
    f_X5_begin_12 T a0 V x1 1
set_option maxHeartbeats 4000000 in
set_option maxRecDepth 100000 in
theorem w_X5_begin_12 {E : sv_E} {X : sv_X} {sz : Nat} {q : Int32 × gh_V} {T : gh_T} {a0 : Nat} (C : sv_C E X cX5_begin RX5 []) (hZ : sv_Z E X (some .int) (some (.int q.1)) (gh_w E T q.2) sz 0 0) (hR : sv_R X = { frames := 0, cells := 0, slots := 0, locals := 0 }) (hN : sv_nL X = 3) (hT : gh_ok T) (o_a0 : gh_is T a0 5) (V : gh_V) (x1 : Int32) (s0 : Int32) (hf : f_X5_begin_12 T a0 V x1 s0 = some q) : sv_J E X (gh_w E T V) sz 0 0 12 [(0, .ref a0), (1, .int x1)] [.int s0] := by
  rw [f_X5_begin_12] at hf
  refine sv_istore_n (lv' := [(2, .int s0), (0, .ref a0), (1, .int x1)]) C dX5_begin_12 rfl (by rw [hN]; decide) rfl ?_
  refine sv_aload_n 1 C dX5_begin_13 rfl rfl ?_
  refine sv_iconst (v := 1) C dX5_begin_14 (by decide) ?_
  refine gh_puti C fl_X5_15 o_a0 (by decide) (by decide) rfl rfl dX5_begin_15 ?_
  refine sv_aload_n 1 C dX5_begin_18 rfl rfl ?_
  refine sv_iload_n 2 C dX5_begin_19 rfl rfl ?_
  refine gh_puti C fl_X5_38 o_a0 (by decide) (by decide) rfl rfl dX5_begin_20 ?_
  refine sv_aload_n 1 C dX5_begin_23 rfl rfl ?_
  refine sv_iconst (v := 0) C dX5_begin_24 (by decide) ?_
  refine gh_puti C fl_X5_19 o_a0 (by decide) (by decide) rfl rfl dX5_begin_25 ?_
  refine sv_aload_n 1 C dX5_begin_28 rfl rfl ?_
  refine sv_iconst (v := 0) C dX5_begin_29 (by decide) ?_
  refine gh_puti C fl_X5_41 o_a0 (by decide) (by decide) rfl rfl dX5_begin_30 ?_
  refine sv_aload_n 1 C dX5_begin_33 rfl rfl ?_
  refine sv_iconst (v := 0) C dX5_begin_34 (by decide) ?_
  refine gh_puti C fl_X5_44 o_a0 (by decide) (by decide) rfl rfl dX5_begin_35 ?_
  refine sv_iload_n 0 C dX5_begin_38 rfl rfl ?_
  exact sv_iret C (by cases hf; exact hZ) dX5_begin_39
set_option maxHeartbeats 4000000 in
set_option maxRecDepth 100000 in
theorem m_X5_begin (l : Launch) (E : sv_E) (T : gh_T) (sz : Nat) (V : gh_V) (a0 : Nat) (x1 : Int32) (q : Int32 × gh_V) (hf : f_X5_begin T V a0 x1 = some q) (hT : gh_ok T) (o_a0 : gh_is T a0 5) : sv_Met l E yX5_begin cX5_begin 3 (some .int) 0 0 [] [.ref a0, .int x1] (gh_w E T V) sz (some (.int q.1)) (gh_w E T q.2) sz 0 0 := by
  refine sv_ofJ (by decide) (Nat.le_of_ble_eq_true rfl) ?_
  intro X hX hN hnm hR C hZ
  replace C : sv_C E X cX5_begin RX5 [] := C
  show sv_J E X (gh_w E T V) sz 0 0 0 [(0, .ref a0), (1, .int x1)] []
  rw [f_X5_begin] at hf
  refine sv_aload_n 0 C dX5_begin_0 rfl rfl ?_
  refine gh_geti C fl_X5_15 o_a0 (by decide) (by decide) dX5_begin_1 ?_
  refine sv_if_ne (tgt := 11) C dX5_begin_4 (by decide) (fun c4 => ?_) (fun c4 => ?_)
  · replace hf := sv_if_f c4 hf
    refine sv_iconst (v := 1) C dX5_begin_11 (by decide) ?_
    refine sv_sub (lv' := [(0, .ref a0), (1, .int x1)]) [0, 1] rfl ?_
    exact w_X5_begin_12 C hZ hR hN hT o_a0 _ _ _ hf
  · replace hf := sv_if_t c4 hf
    refine sv_iconst (v := 0) C dX5_begin_7 (by decide) ?_
    refine sv_goto (tgt := 12) C dX5_begin_8 (by decide) ?_
    refine sv_sub (lv' := [(0, .ref a0), (1, .int x1)]) [0, 1] rfl ?_
    exact w_X5_begin_12 C hZ hR hN hT o_a0 _ _ _ hf
def f_X5_step_10 (T : gh_T) (a0 : Nat) (V : gh_V) (x1 : Int32) (s0 : Int32) : Option (Int32 × gh_V) :=
  if x1 = 0 then
    some (1, gh_pf V 1 a0 s0)
  else
    some (0, gh_pf V 1 a0 s0)
def f_X5_step (T : gh_T) (V : gh_V) (a0 : Nat) (x1 : Int32) (x2 : Int32) : Option (Int32 × gh_V) :=
  if x1 = 0 then
    f_X5_step_10 T a0 V x1 0
  else
    f_X5_step_10 T a0 V x1 x2
set_option maxHeartbeats 4000000 in
set_option maxRecDepth 100000 in
theorem w_X5_step_10 {E : sv_E} {X : sv_X} {sz : Nat} {q : Int32 × gh_V} {T : gh_T} {a0 : Nat} (C : sv_C E X cX5_step RX5 []) (hZ : sv_Z E X (some .int) (some (.int q.1)) (gh_w E T q.2) sz 0 0) (hR : sv_R X = { frames := 0, cells := 0, slots := 0, locals := 0 }) (hN : sv_nL X = 3) (hT : gh_ok T) (o_a0 : gh_is T a0 5) (V : gh_V) (x1 : Int32) (s0 : Int32) (hf : f_X5_step_10 T a0 V x1 s0 = some q) : sv_J E X (gh_w E T V) sz 0 0 10 [(1, .int x1)] [.int s0, .ref a0] := by
  rw [f_X5_step_10] at hf
  refine gh_puti C fl_X5_15 o_a0 (by decide) (by decide) rfl rfl dX5_step_10 ?_
  refine sv_iload_n 0 C dX5_step_13 rfl rfl ?_
  refine sv_if_eq (tgt := 21) C dX5_step_14 (by decide) (fun c14 => ?_) (fun c14 => ?_)
  · replace hf := sv_if_t c14 hf
    refine sv_iconst (v := 1) C dX5_step_21 (by decide) ?_
    exact sv_iret C (by cases hf; exact hZ) dX5_step_22
  · replace hf := sv_if_f c14 hf
    refine sv_iconst (v := 0) C dX5_step_17 (by decide) ?_
    refine sv_goto (tgt := 22) C dX5_step_18 (by decide) ?_
    exact sv_iret C (by cases hf; exact hZ) dX5_step_22
set_option maxHeartbeats 4000000 in
set_option maxRecDepth 100000 in
theorem m_X5_step (l : Launch) (E : sv_E) (T : gh_T) (sz : Nat) (V : gh_V) (a0 : Nat) (x1 : Int32) (x2 : Int32) (q : Int32 × gh_V) (hf : f_X5_step T V a0 x1 x2 = some q) (hT : gh_ok T) (o_a0 : gh_is T a0 5) : sv_Met l E yX5_step cX5_step 3 (some .int) 0 0 [] [.ref a0, .int x1, .int x2] (gh_w E T V) sz (some (.int q.1)) (gh_w E T q.2) sz 0 0 := by
  refine sv_ofJ (by decide) (Nat.le_of_ble_eq_true rfl) ?_
  intro X hX hN hnm hR C hZ
  replace C : sv_C E X cX5_step RX5 [] := C
  show sv_J E X (gh_w E T V) sz 0 0 0 [(0, .ref a0), (1, .int x1), (2, .int x2)] []
  rw [f_X5_step] at hf
  refine sv_aload_n 0 C dX5_step_0 rfl rfl ?_
  refine sv_iload_n 1 C dX5_step_1 rfl rfl ?_
  refine sv_if_eq (tgt := 9) C dX5_step_2 (by decide) (fun c2 => ?_) (fun c2 => ?_)
  · replace hf := sv_if_t c2 hf
    refine sv_iconst (v := 0) C dX5_step_9 (by decide) ?_
    refine sv_sub (lv' := [(1, .int x1)]) [1] rfl ?_
    exact w_X5_step_10 C hZ hR hN hT o_a0 _ _ _ hf
  · replace hf := sv_if_f c2 hf
    refine sv_iload_n 2 C dX5_step_5 rfl rfl ?_
    refine sv_goto (tgt := 10) C dX5_step_6 (by decide) ?_
    refine sv_sub (lv' := [(1, .int x1)]) [1] rfl ?_
    exact w_X5_step_10 C hZ hR hN hT o_a0 _ _ _ hf
def f_X5_store_28 (T : gh_T) (a0 : Nat) (V : gh_V) : Option (Int32 × gh_V) :=
  (f_X5_step T V a0 0 0).bind (fun q31 =>
    some (q31.1, q31.2))
def f_X5_store (T : gh_T) (V : gh_V) (a0 : Nat) (x1 : Int32) : Option (Int32 × gh_V) :=
  if x1 < 32 then
    f_X5_store_28 T a0 V
  else
    if 126 < x1 then
      f_X5_store_28 T a0 V
    else
      if (V.1 3 a0) < 0 then
        f_X5_store_28 T a0 V
      else
        if (V.1 3 a0) < 78 then
          (T.2.2.1 0 a0).bind (fun b36 =>
            sv_g (sv_inb (V.1 3 a0) (T.2.2.2.1 b36)) (
              some (0, gh_pf (gh_pf (gh_pa V b36 (V.1 3 a0) (vp_nar .byte x1.toInt8.toInt32)) 3 a0 (((gh_pa V b36 (V.1 3 a0) (vp_nar .byte x1.toInt8.toInt32)).1 3 a0) + 1)) 4 a0 (((gh_pf (gh_pa V b36 (V.1 3 a0) (vp_nar .byte x1.toInt8.toInt32)) 3 a0 (((gh_pa V b36 (V.1 3 a0) (vp_nar .byte x1.toInt8.toInt32)).1 3 a0) + 1)).1 4 a0) ^^^ x1))))
        else
          f_X5_store_28 T a0 V
set_option maxHeartbeats 4000000 in
set_option maxRecDepth 100000 in
theorem w_X5_store_28 {E : sv_E} {X : sv_X} {sz : Nat} {q : Int32 × gh_V} {T : gh_T} {a0 : Nat} (C : sv_C E X cX5_store RX5 []) (hZ : sv_Z E X (some .int) (some (.int q.1)) (gh_w E T q.2) sz 0 0) (hR : sv_R X = { frames := 1, cells := 0, slots := 0, locals := 22 }) (hN : sv_nL X = 2) (hT : gh_ok T) (o_a0 : gh_is T a0 5) (V : gh_V) (hf : f_X5_store_28 T a0 V = some q) : sv_J E X (gh_w E T V) sz 0 0 28 [(0, .ref a0)] [] := by
  rw [f_X5_store_28] at hf
  refine sv_aload_n 0 C dX5_store_28 rfl rfl ?_
  refine sv_iconst (v := 0) C dX5_store_29 (by decide) ?_
  refine sv_iconst (v := 0) C dX5_store_30 (by decide) ?_
  obtain ⟨q31, hc31, hf⟩ := sv_bind_some hf
  refine gh_callV0 C mv_X5_27 (m_X5_step (sv_l X) E T sz _ _ _ _ _ hc31 hT o_a0) sv_sx0 o_a0 (by decide) rfl rfl rfl (Nat.le_of_ble_eq_true rfl) ⟨by rw [hR]; decide, by rw [hR]; decide⟩ ⟨by rw [hR]; decide, by rw [hR]; decide⟩ dX5_store_31 ?_
  exact sv_iret C (by cases hf; exact hZ) dX5_store_34
set_option maxHeartbeats 4000000 in
set_option maxRecDepth 100000 in
theorem m_X5_store (l : Launch) (E : sv_E) (T : gh_T) (sz : Nat) (V : gh_V) (a0 : Nat) (x1 : Int32) (q : Int32 × gh_V) (hf : f_X5_store T V a0 x1 = some q) (hT : gh_ok T) (o_a0 : gh_is T a0 5) : sv_Met l E yX5_store cX5_store 2 (some .int) 1 22 [] [.ref a0, .int x1] (gh_w E T V) sz (some (.int q.1)) (gh_w E T q.2) sz 0 0 := by
  refine sv_ofJ (by decide) (Nat.le_of_ble_eq_true rfl) ?_
  intro X hX hN hnm hR C hZ
  replace C : sv_C E X cX5_store RX5 [] := C
  show sv_J E X (gh_w E T V) sz 0 0 0 [(0, .ref a0), (1, .int x1)] []
  rw [f_X5_store] at hf
  refine sv_iload_n 1 C dX5_store_0 rfl rfl ?_
  refine sv_bipush (v := 32) C dX5_store_1 (by decide) ?_
  refine sv_icmp_lt (tgt := 28) C dX5_store_3 (by decide) (fun c3 => ?_) (fun c3 => ?_)
  · replace hf := sv_if_t c3 hf
    refine sv_sub (lv' := [(0, .ref a0)]) [0] rfl ?_
    exact w_X5_store_28 C hZ hR hN hT o_a0 _ hf
  · replace hf := sv_if_f c3 hf
    refine sv_iload_n 1 C dX5_store_6 rfl rfl ?_
    refine sv_bipush (v := 126) C dX5_store_7 (by decide) ?_
    refine sv_icmp_gt (tgt := 28) C dX5_store_9 (by decide) (fun c9 => ?_) (fun c9 => ?_)
    · replace hf := sv_if_t c9 hf
      refine sv_sub (lv' := [(0, .ref a0)]) [0] rfl ?_
      exact w_X5_store_28 C hZ hR hN hT o_a0 _ hf
    · replace hf := sv_if_f c9 hf
      refine sv_aload_n 0 C dX5_store_12 rfl rfl ?_
      refine gh_geti C fl_X5_19 o_a0 (by decide) (by decide) dX5_store_13 ?_
      refine sv_if_lt (tgt := 28) C dX5_store_16 (by decide) (fun c16 => ?_) (fun c16 => ?_)
      · replace hf := sv_if_t c16 hf
        refine sv_sub (lv' := [(0, .ref a0)]) [0] rfl ?_
        exact w_X5_store_28 C hZ hR hN hT o_a0 _ hf
      · replace hf := sv_if_f c16 hf
        refine sv_aload_n 0 C dX5_store_19 rfl rfl ?_
        refine gh_geti C fl_X5_19 o_a0 (by decide) (by decide) dX5_store_20 ?_
        refine sv_bipush (v := 78) C dX5_store_23 (by decide) ?_
        refine sv_icmp_lt (tgt := 35) C dX5_store_25 (by decide) (fun c25 => ?_) (fun c25 => ?_)
        · replace hf := sv_if_t c25 hf
          refine sv_aload_n 0 C dX5_store_35 rfl rfl ?_
          obtain ⟨b36, hb36, hf⟩ := sv_bind_some hf
          have o_b36 : gh_is T b36 9 := gh_okr hT o_a0 rfl hb36
          refine gh_getr (d := 9) C fl_X5_11 o_a0 (by decide) (by decide) hb36 dX5_store_36 ?_
          refine sv_aload_n 0 C dX5_store_39 rfl rfl ?_
          refine gh_geti C fl_X5_19 o_a0 (by decide) (by decide) dX5_store_40 ?_
          refine sv_iload_n 1 C dX5_store_43 rfl rfl ?_
          refine sv_i2b C dX5_store_44 ?_
          obtain ⟨g45, hf⟩ := sv_g_some hf
          refine gh_bast C o_b36 g45 dX5_store_45 ?_
          refine sv_aload_n 0 C dX5_store_46 rfl rfl ?_
          refine sv_dup C dX5_store_47 rfl ?_
          refine gh_geti C fl_X5_19 o_a0 (by decide) (by decide) dX5_store_48 ?_
          refine sv_iconst (v := 1) C dX5_store_51 (by decide) ?_
          refine sv_iadd C dX5_store_52 ?_
          refine gh_puti C fl_X5_19 o_a0 (by decide) (by decide) rfl rfl dX5_store_53 ?_
          refine sv_aload_n 0 C dX5_store_56 rfl rfl ?_
          refine sv_dup C dX5_store_57 rfl ?_
          refine gh_geti C fl_X5_41 o_a0 (by decide) (by decide) dX5_store_58 ?_
          refine sv_iload_n 1 C dX5_store_61 rfl rfl ?_
          refine sv_ixor C dX5_store_62 ?_
          refine gh_puti C fl_X5_41 o_a0 (by decide) (by decide) rfl rfl dX5_store_63 ?_
          refine sv_iconst (v := 0) C dX5_store_66 (by decide) ?_
          exact sv_iret C (by cases hf; exact hZ) dX5_store_67
        · replace hf := sv_if_f c25 hf
          refine sv_sub (lv' := [(0, .ref a0)]) [0] rfl ?_
          exact w_X5_store_28 C hZ hR hN hT o_a0 _ hf
def f_X5_hearDigit_73 (T : gh_T) (a0 : Nat) (V : gh_V) (x2 : Int32) : Option (Int32 × gh_V) :=
  (f_X5_step T V a0 0 x2).bind (fun q76 =>
    some (q76.1, q76.2))
def f_X5_hearDigit_35 (T : gh_T) (a0 : Nat) (V : gh_V) (x1 : Int32) (x2 : Int32) : Option (Int32 × gh_V) :=
  if x1 < 65 then
    f_X5_hearDigit_73 T a0 V x2
  else
    if 70 < x1 then
      f_X5_hearDigit_73 T a0 V x2
    else
      (f_X5_step T (gh_pf V 5 a0 (((((V.1 5 a0) * 16) + x1) - 65) + 10)) a0 1 x2).bind (fun q69 =>
        some (q69.1, q69.2))
def f_X5_hearDigit (T : gh_T) (V : gh_V) (a0 : Nat) (x1 : Int32) (x2 : Int32) : Option (Int32 × gh_V) :=
  if x1 < 48 then
    f_X5_hearDigit_35 T a0 V x1 x2
  else
    if 57 < x1 then
      f_X5_hearDigit_35 T a0 V x1 x2
    else
      (f_X5_step T (gh_pf V 5 a0 ((((V.1 5 a0) * 16) + x1) - 48)) a0 1 x2).bind (fun q31 =>
        some (q31.1, q31.2))
set_option maxHeartbeats 4000000 in
set_option maxRecDepth 100000 in
theorem w_X5_hearDigit_73 {E : sv_E} {X : sv_X} {sz : Nat} {q : Int32 × gh_V} {T : gh_T} {a0 : Nat} (C : sv_C E X cX5_hearDigit RX5 []) (hZ : sv_Z E X (some .int) (some (.int q.1)) (gh_w E T q.2) sz 0 0) (hR : sv_R X = { frames := 1, cells := 0, slots := 0, locals := 22 }) (hN : sv_nL X = 3) (hT : gh_ok T) (o_a0 : gh_is T a0 5) (V : gh_V) (x2 : Int32) (hf : f_X5_hearDigit_73 T a0 V x2 = some q) : sv_J E X (gh_w E T V) sz 0 0 73 [(0, .ref a0), (2, .int x2)] [] := by
  rw [f_X5_hearDigit_73] at hf
  refine sv_aload_n 0 C dX5_hearDigit_73 rfl rfl ?_
  refine sv_iconst (v := 0) C dX5_hearDigit_74 (by decide) ?_
  refine sv_iload_n 1 C dX5_hearDigit_75 rfl rfl ?_
  obtain ⟨q76, hc76, hf⟩ := sv_bind_some hf
  refine gh_callV0 C mv_X5_27 (m_X5_step (sv_l X) E T sz _ _ _ _ _ hc76 hT o_a0) sv_sx0 o_a0 (by decide) rfl rfl rfl (Nat.le_of_ble_eq_true rfl) ⟨by rw [hR]; decide, by rw [hR]; decide⟩ ⟨by rw [hR]; decide, by rw [hR]; decide⟩ dX5_hearDigit_76 ?_
  exact sv_iret C (by cases hf; exact hZ) dX5_hearDigit_79
set_option maxHeartbeats 4000000 in
set_option maxRecDepth 100000 in
theorem w_X5_hearDigit_35 {E : sv_E} {X : sv_X} {sz : Nat} {q : Int32 × gh_V} {T : gh_T} {a0 : Nat} (C : sv_C E X cX5_hearDigit RX5 []) (hZ : sv_Z E X (some .int) (some (.int q.1)) (gh_w E T q.2) sz 0 0) (hR : sv_R X = { frames := 1, cells := 0, slots := 0, locals := 22 }) (hN : sv_nL X = 3) (hT : gh_ok T) (o_a0 : gh_is T a0 5) (V : gh_V) (x1 : Int32) (x2 : Int32) (hf : f_X5_hearDigit_35 T a0 V x1 x2 = some q) : sv_J E X (gh_w E T V) sz 0 0 35 [(0, .ref a0), (1, .int x1), (2, .int x2)] [] := by
  rw [f_X5_hearDigit_35] at hf
  refine sv_iload_n 1 C dX5_hearDigit_35 rfl rfl ?_
  refine sv_bipush (v := 65) C dX5_hearDigit_36 (by decide) ?_
  refine sv_icmp_lt (tgt := 73) C dX5_hearDigit_38 (by decide) (fun c38 => ?_) (fun c38 => ?_)
  · replace hf := sv_if_t c38 hf
    refine sv_sub (lv' := [(0, .ref a0), (2, .int x2)]) [0, 2] rfl ?_
    exact w_X5_hearDigit_73 C hZ hR hN hT o_a0 _ _ hf
  · replace hf := sv_if_f c38 hf
    refine sv_iload_n 1 C dX5_hearDigit_41 rfl rfl ?_
    refine sv_bipush (v := 70) C dX5_hearDigit_42 (by decide) ?_
    refine sv_icmp_gt (tgt := 73) C dX5_hearDigit_44 (by decide) (fun c44 => ?_) (fun c44 => ?_)
    · replace hf := sv_if_t c44 hf
      refine sv_sub (lv' := [(0, .ref a0), (2, .int x2)]) [0, 2] rfl ?_
      exact w_X5_hearDigit_73 C hZ hR hN hT o_a0 _ _ hf
    · replace hf := sv_if_f c44 hf
      refine sv_aload_n 0 C dX5_hearDigit_47 rfl rfl ?_
      refine sv_aload_n 0 C dX5_hearDigit_48 rfl rfl ?_
      refine gh_geti C fl_X5_44 o_a0 (by decide) (by decide) dX5_hearDigit_49 ?_
      refine sv_bipush (v := 16) C dX5_hearDigit_52 (by decide) ?_
      refine sv_imul C dX5_hearDigit_54 ?_
      refine sv_iload_n 1 C dX5_hearDigit_55 rfl rfl ?_
      refine sv_iadd C dX5_hearDigit_56 ?_
      refine sv_bipush (v := 65) C dX5_hearDigit_57 (by decide) ?_
      refine sv_isub C dX5_hearDigit_59 ?_
      refine sv_bipush (v := 10) C dX5_hearDigit_60 (by decide) ?_
      refine sv_iadd C dX5_hearDigit_62 ?_
      refine gh_puti C fl_X5_44 o_a0 (by decide) (by decide) rfl rfl dX5_hearDigit_63 ?_
      refine sv_aload_n 0 C dX5_hearDigit_66 rfl rfl ?_
      refine sv_iconst (v := 1) C dX5_hearDigit_67 (by decide) ?_
      refine sv_iload_n 2 C dX5_hearDigit_68 rfl rfl ?_
      obtain ⟨q69, hc69, hf⟩ := sv_bind_some hf
      refine gh_callV0 C mv_X5_27 (m_X5_step (sv_l X) E T sz _ _ _ _ _ hc69 hT o_a0) sv_sx0 o_a0 (by decide) rfl rfl rfl (Nat.le_of_ble_eq_true rfl) ⟨by rw [hR]; decide, by rw [hR]; decide⟩ ⟨by rw [hR]; decide, by rw [hR]; decide⟩ dX5_hearDigit_69 ?_
      exact sv_iret C (by cases hf; exact hZ) dX5_hearDigit_72
set_option maxHeartbeats 4000000 in
set_option maxRecDepth 100000 in
theorem m_X5_hearDigit (l : Launch) (E : sv_E) (T : gh_T) (sz : Nat) (V : gh_V) (a0 : Nat) (x1 : Int32) (x2 : Int32) (q : Int32 × gh_V) (hf : f_X5_hearDigit T V a0 x1 x2 = some q) (hT : gh_ok T) (o_a0 : gh_is T a0 5) : sv_Met l E yX5_hearDigit cX5_hearDigit 3 (some .int) 1 22 [] [.ref a0, .int x1, .int x2] (gh_w E T V) sz (some (.int q.1)) (gh_w E T q.2) sz 0 0 := by
  refine sv_ofJ (by decide) (Nat.le_of_ble_eq_true rfl) ?_
  intro X hX hN hnm hR C hZ
  replace C : sv_C E X cX5_hearDigit RX5 [] := C
  show sv_J E X (gh_w E T V) sz 0 0 0 [(0, .ref a0), (1, .int x1), (2, .int x2)] []
  rw [f_X5_hearDigit] at hf
  refine sv_iload_n 1 C dX5_hearDigit_0 rfl rfl ?_
  refine sv_bipush (v := 48) C dX5_hearDigit_1 (by decide) ?_
  refine sv_icmp_lt (tgt := 35) C dX5_hearDigit_3 (by decide) (fun c3 => ?_) (fun c3 => ?_)
  · replace hf := sv_if_t c3 hf
    refine sv_sub (lv' := [(0, .ref a0), (1, .int x1), (2, .int x2)]) [0, 1, 2] rfl ?_
    exact w_X5_hearDigit_35 C hZ hR hN hT o_a0 _ _ _ hf
  · replace hf := sv_if_f c3 hf
    refine sv_iload_n 1 C dX5_hearDigit_6 rfl rfl ?_
    refine sv_bipush (v := 57) C dX5_hearDigit_7 (by decide) ?_
    refine sv_icmp_gt (tgt := 35) C dX5_hearDigit_9 (by decide) (fun c9 => ?_) (fun c9 => ?_)
    · replace hf := sv_if_t c9 hf
      refine sv_sub (lv' := [(0, .ref a0), (1, .int x1), (2, .int x2)]) [0, 1, 2] rfl ?_
      exact w_X5_hearDigit_35 C hZ hR hN hT o_a0 _ _ _ hf
    · replace hf := sv_if_f c9 hf
      refine sv_aload_n 0 C dX5_hearDigit_12 rfl rfl ?_
      refine sv_aload_n 0 C dX5_hearDigit_13 rfl rfl ?_
      refine gh_geti C fl_X5_44 o_a0 (by decide) (by decide) dX5_hearDigit_14 ?_
      refine sv_bipush (v := 16) C dX5_hearDigit_17 (by decide) ?_
      refine sv_imul C dX5_hearDigit_19 ?_
      refine sv_iload_n 1 C dX5_hearDigit_20 rfl rfl ?_
      refine sv_iadd C dX5_hearDigit_21 ?_
      refine sv_bipush (v := 48) C dX5_hearDigit_22 (by decide) ?_
      refine sv_isub C dX5_hearDigit_24 ?_
      refine gh_puti C fl_X5_44 o_a0 (by decide) (by decide) rfl rfl dX5_hearDigit_25 ?_
      refine sv_aload_n 0 C dX5_hearDigit_28 rfl rfl ?_
      refine sv_iconst (v := 1) C dX5_hearDigit_29 (by decide) ?_
      refine sv_iload_n 2 C dX5_hearDigit_30 rfl rfl ?_
      obtain ⟨q31, hc31, hf⟩ := sv_bind_some hf
      refine gh_callV0 C mv_X5_27 (m_X5_step (sv_l X) E T sz _ _ _ _ _ hc31 hT o_a0) sv_sx0 o_a0 (by decide) rfl rfl rfl (Nat.le_of_ble_eq_true rfl) ⟨by rw [hR]; decide, by rw [hR]; decide⟩ ⟨by rw [hR]; decide, by rw [hR]; decide⟩ dX5_hearDigit_31 ?_
      exact sv_iret C (by cases hf; exact hZ) dX5_hearDigit_34
def f_X5_hear_12 (T : gh_T) (a0 : Nat) (V : gh_V) (x1 : Int32) : Option (Int32 × gh_V) :=
  (f_X5_begin T V a0 x1).bind (fun q14 =>
    some (q14.1, q14.2))
def f_X5_hear_75 (T : gh_T) (a0 : Nat) (V : gh_V) (s0 : Int32) : Option (Int32 × gh_V) :=
  (f_X5_step T V a0 s0 2).bind (fun q76 =>
    some (q76.1, q76.2))
def f_X5_hear_114 (T : gh_T) (a0 : Nat) (V : gh_V) (s0 : Int32) : Option (Int32 × gh_V) :=
  (f_X5_step T V a0 s0 5).bind (fun q115 =>
    some (q115.1, q115.2))
def f_X5_hear (T : gh_T) (V : gh_V) (a0 : Nat) (x1 : Int32) : Option (Int32 × gh_V) :=
  if x1 = 36 then
    f_X5_hear_12 T a0 V x1
  else
    if x1 = 33 then
      f_X5_hear_12 T a0 V x1
    else
      if (V.1 1 a0) = 1 then
        if x1 = 42 then
          if (V.1 3 a0) ≤ 0 then
            f_X5_hear_75 T a0 V 0
          else
            f_X5_hear_75 T a0 V 1
        else
          (f_X5_store T V a0 x1).bind (fun q84 =>
            some (q84.1, q84.2))
      else if (V.1 1 a0) = 2 then
        (f_X5_hearDigit T V a0 x1 3).bind (fun q91 =>
          some (q91.1, q91.2))
      else if (V.1 1 a0) = 3 then
        (f_X5_hearDigit T V a0 x1 4).bind (fun q98 =>
          some (q98.1, q98.2))
      else if (V.1 1 a0) = 4 then
        if x1 = 13 then
          f_X5_hear_114 T a0 V 1
        else
          f_X5_hear_114 T a0 V 0
      else if (V.1 1 a0) = 5 then
        if x1 = 10 then
          some (2, gh_pf V 1 a0 0)
        else
          some (1, gh_pf V 1 a0 0)
      else 
        some (0, V)
set_option maxHeartbeats 4000000 in
set_option maxRecDepth 100000 in
theorem w_X5_hear_12 {E : sv_E} {X : sv_X} {sz : Nat} {q : Int32 × gh_V} {T : gh_T} {a0 : Nat} (C : sv_C E X cX5_hear RX5 []) (hZ : sv_Z E X (some .int) (some (.int q.1)) (gh_w E T q.2) sz 0 0) (hR : sv_R X = { frames := 2, cells := 0, slots := 0, locals := 44 }) (hN : sv_nL X = 2) (hT : gh_ok T) (o_a0 : gh_is T a0 5) (V : gh_V) (x1 : Int32) (hf : f_X5_hear_12 T a0 V x1 = some q) : sv_J E X (gh_w E T V) sz 0 0 12 [(0, .ref a0), (1, .int x1)] [] := by
  rw [f_X5_hear_12] at hf
  refine sv_aload_n 0 C dX5_hear_12 rfl rfl ?_
  refine sv_iload_n 1 C dX5_hear_13 rfl rfl ?_
  obtain ⟨q14, hc14, hf⟩ := sv_bind_some hf
  refine gh_callV0 C mv_X5_23 (m_X5_begin (sv_l X) E T sz _ _ _ _ hc14 hT o_a0) sv_sx0 o_a0 (by decide) rfl rfl rfl (Nat.le_of_ble_eq_true rfl) ⟨by rw [hR]; decide, by rw [hR]; decide⟩ ⟨by rw [hR]; decide, by rw [hR]; decide⟩ dX5_hear_14 ?_
  exact sv_iret C (by cases hf; exact hZ) dX5_hear_17
set_option maxHeartbeats 4000000 in
set_option maxRecDepth 100000 in
theorem w_X5_hear_75 {E : sv_E} {X : sv_X} {sz : Nat} {q : Int32 × gh_V} {T : gh_T} {a0 : Nat} (C : sv_C E X cX5_hear RX5 []) (hZ : sv_Z E X (some .int) (some (.int q.1)) (gh_w E T q.2) sz 0 0) (hR : sv_R X = { frames := 2, cells := 0, slots := 0, locals := 44 }) (hN : sv_nL X = 2) (hT : gh_ok T) (o_a0 : gh_is T a0 5) (V : gh_V) (s0 : Int32) (hf : f_X5_hear_75 T a0 V s0 = some q) : sv_J E X (gh_w E T V) sz 0 0 75 [] [.int s0, .ref a0] := by
  rw [f_X5_hear_75] at hf
  refine sv_iconst (v := 2) C dX5_hear_75 (by decide) ?_
  obtain ⟨q76, hc76, hf⟩ := sv_bind_some hf
  refine gh_callV0 C mv_X5_27 (m_X5_step (sv_l X) E T sz _ _ _ _ _ hc76 hT o_a0) sv_sx0 o_a0 (by decide) rfl rfl rfl (Nat.le_of_ble_eq_true rfl) ⟨by rw [hR]; decide, by rw [hR]; decide⟩ ⟨by rw [hR]; decide, by rw [hR]; decide⟩ dX5_hear_76 ?_
  refine sv_goto (tgt := 87) C dX5_hear_79 (by decide) ?_
  exact sv_iret C (by cases hf; exact hZ) dX5_hear_87
set_option maxHeartbeats 4000000 in
set_option maxRecDepth 100000 in
theorem w_X5_hear_114 {E : sv_E} {X : sv_X} {sz : Nat} {q : Int32 × gh_V} {T : gh_T} {a0 : Nat} (C : sv_C E X cX5_hear RX5 []) (hZ : sv_Z E X (some .int) (some (.int q.1)) (gh_w E T q.2) sz 0 0) (hR : sv_R X = { frames := 2, cells := 0, slots := 0, locals := 44 }) (hN : sv_nL X = 2) (hT : gh_ok T) (o_a0 : gh_is T a0 5) (V : gh_V) (s0 : Int32) (hf : f_X5_hear_114 T a0 V s0 = some q) : sv_J E X (gh_w E T V) sz 0 0 114 [] [.int s0, .ref a0] := by
  rw [f_X5_hear_114] at hf
  refine sv_iconst (v := 5) C dX5_hear_114 (by decide) ?_
  obtain ⟨q115, hc115, hf⟩ := sv_bind_some hf
  refine gh_callV0 C mv_X5_27 (m_X5_step (sv_l X) E T sz _ _ _ _ _ hc115 hT o_a0) sv_sx0 o_a0 (by decide) rfl rfl rfl (Nat.le_of_ble_eq_true rfl) ⟨by rw [hR]; decide, by rw [hR]; decide⟩ ⟨by rw [hR]; decide, by rw [hR]; decide⟩ dX5_hear_115 ?_
  exact sv_iret C (by cases hf; exact hZ) dX5_hear_118
set_option maxHeartbeats 4000000 in
set_option maxRecDepth 100000 in
theorem m_X5_hear (l : Launch) (E : sv_E) (T : gh_T) (sz : Nat) (V : gh_V) (a0 : Nat) (x1 : Int32) (q : Int32 × gh_V) (hf : f_X5_hear T V a0 x1 = some q) (hT : gh_ok T) (o_a0 : gh_is T a0 5) : sv_Met l E yX5_hear cX5_hear 2 (some .int) 2 44 [] [.ref a0, .int x1] (gh_w E T V) sz (some (.int q.1)) (gh_w E T q.2) sz 0 0 := by
  refine sv_ofJ (by decide) (Nat.le_of_ble_eq_true rfl) ?_
  intro X hX hN hnm hR C hZ
  replace C : sv_C E X cX5_hear RX5 [] := C
  show sv_J E X (gh_w E T V) sz 0 0 0 [(0, .ref a0), (1, .int x1)] []
  rw [f_X5_hear] at hf
  refine sv_iload_n 1 C dX5_hear_0 rfl rfl ?_
  refine sv_bipush (v := 36) C dX5_hear_1 (by decide) ?_
  refine sv_icmp_eq (tgt := 12) C dX5_hear_3 (by decide) (fun c3 => ?_) (fun c3 => ?_)
  · replace hf := sv_if_t c3 hf
    refine sv_sub (lv' := [(0, .ref a0), (1, .int x1)]) [0, 1] rfl ?_
    exact w_X5_hear_12 C hZ hR hN hT o_a0 _ _ hf
  · replace hf := sv_if_f c3 hf
    refine sv_iload_n 1 C dX5_hear_6 rfl rfl ?_
    refine sv_bipush (v := 33) C dX5_hear_7 (by decide) ?_
    refine sv_icmp_ne (tgt := 18) C dX5_hear_9 (by decide) (fun c9 => ?_) (fun c9 => ?_)
    · replace hf := sv_if_f c9 hf
      refine sv_aload_n 0 C dX5_hear_18 rfl rfl ?_
      refine gh_geti C fl_X5_15 o_a0 (by decide) (by decide) dX5_hear_19 ?_
      by_cases c22_0 : (V.1 1 a0) = 1
      · replace hf := sv_if_t c22_0 hf
        refine sv_tswI (v := 1) (tgt := 56) C dX5_hear_22 c22_0 (by decide) (by decide) rfl (by decide) ?_
        refine sv_iload_n 1 C dX5_hear_56 rfl rfl ?_
        refine sv_bipush (v := 42) C dX5_hear_57 (by decide) ?_
        refine sv_icmp_ne (tgt := 82) C dX5_hear_59 (by decide) (fun c59 => ?_) (fun c59 => ?_)
        · replace hf := sv_if_f c59 hf
          refine sv_aload_n 0 C dX5_hear_82 rfl rfl ?_
          refine sv_iload_n 1 C dX5_hear_83 rfl rfl ?_
          obtain ⟨q84, hc84, hf⟩ := sv_bind_some hf
          refine gh_callV0 C mv_X5_31 (m_X5_store (sv_l X) E T sz _ _ _ _ hc84 hT o_a0) sv_sx0 o_a0 (by decide) rfl rfl rfl (Nat.le_of_ble_eq_true rfl) ⟨by rw [hR]; decide, by rw [hR]; decide⟩ ⟨by rw [hR]; decide, by rw [hR]; decide⟩ dX5_hear_84 ?_
          exact sv_iret C (by cases hf; exact hZ) dX5_hear_87
        · replace hf := sv_if_t c59 hf
          refine sv_aload_n 0 C dX5_hear_62 rfl rfl ?_
          refine sv_aload_n 0 C dX5_hear_63 rfl rfl ?_
          refine gh_geti C fl_X5_19 o_a0 (by decide) (by decide) dX5_hear_64 ?_
          refine sv_if_le (tgt := 74) C dX5_hear_67 (by decide) (fun c67 => ?_) (fun c67 => ?_)
          · replace hf := sv_if_t c67 hf
            refine sv_iconst (v := 0) C dX5_hear_74 (by decide) ?_
            refine sv_sub (lv' := []) [] rfl ?_
            exact w_X5_hear_75 C hZ hR hN hT o_a0 _ _ hf
          · replace hf := sv_if_f c67 hf
            refine sv_iconst (v := 1) C dX5_hear_70 (by decide) ?_
            refine sv_goto (tgt := 75) C dX5_hear_71 (by decide) ?_
            refine sv_sub (lv' := []) [] rfl ?_
            exact w_X5_hear_75 C hZ hR hN hT o_a0 _ _ hf
      · replace hf := sv_if_f c22_0 hf
        by_cases c22_1 : (V.1 1 a0) = 2
        · replace hf := sv_if_t c22_1 hf
          refine sv_tswI (v := 2) (tgt := 88) C dX5_hear_22 c22_1 (by decide) (by decide) rfl (by decide) ?_
          refine sv_aload_n 0 C dX5_hear_88 rfl rfl ?_
          refine sv_iload_n 1 C dX5_hear_89 rfl rfl ?_
          refine sv_iconst (v := 3) C dX5_hear_90 (by decide) ?_
          obtain ⟨q91, hc91, hf⟩ := sv_bind_some hf
          refine gh_callV0 C mv_X5_34 (m_X5_hearDigit (sv_l X) E T sz _ _ _ _ _ hc91 hT o_a0) sv_sx0 o_a0 (by decide) rfl rfl rfl (Nat.le_of_ble_eq_true rfl) ⟨by rw [hR]; decide, by rw [hR]; decide⟩ ⟨by rw [hR]; decide, by rw [hR]; decide⟩ dX5_hear_91 ?_
          exact sv_iret C (by cases hf; exact hZ) dX5_hear_94
        · replace hf := sv_if_f c22_1 hf
          by_cases c22_2 : (V.1 1 a0) = 3
          · replace hf := sv_if_t c22_2 hf
            refine sv_tswI (v := 3) (tgt := 95) C dX5_hear_22 c22_2 (by decide) (by decide) rfl (by decide) ?_
            refine sv_aload_n 0 C dX5_hear_95 rfl rfl ?_
            refine sv_iload_n 1 C dX5_hear_96 rfl rfl ?_
            refine sv_iconst (v := 4) C dX5_hear_97 (by decide) ?_
            obtain ⟨q98, hc98, hf⟩ := sv_bind_some hf
            refine gh_callV0 C mv_X5_34 (m_X5_hearDigit (sv_l X) E T sz _ _ _ _ _ hc98 hT o_a0) sv_sx0 o_a0 (by decide) rfl rfl rfl (Nat.le_of_ble_eq_true rfl) ⟨by rw [hR]; decide, by rw [hR]; decide⟩ ⟨by rw [hR]; decide, by rw [hR]; decide⟩ dX5_hear_98 ?_
            exact sv_iret C (by cases hf; exact hZ) dX5_hear_101
          · replace hf := sv_if_f c22_2 hf
            by_cases c22_3 : (V.1 1 a0) = 4
            · replace hf := sv_if_t c22_3 hf
              refine sv_tswI (v := 4) (tgt := 102) C dX5_hear_22 c22_3 (by decide) (by decide) rfl (by decide) ?_
              refine sv_aload_n 0 C dX5_hear_102 rfl rfl ?_
              refine sv_iload_n 1 C dX5_hear_103 rfl rfl ?_
              refine sv_bipush (v := 13) C dX5_hear_104 (by decide) ?_
              refine sv_icmp_ne (tgt := 113) C dX5_hear_106 (by decide) (fun c106 => ?_) (fun c106 => ?_)
              · replace hf := sv_if_f c106 hf
                refine sv_iconst (v := 0) C dX5_hear_113 (by decide) ?_
                refine sv_sub (lv' := []) [] rfl ?_
                exact w_X5_hear_114 C hZ hR hN hT o_a0 _ _ hf
              · replace hf := sv_if_t c106 hf
                refine sv_iconst (v := 1) C dX5_hear_109 (by decide) ?_
                refine sv_goto (tgt := 114) C dX5_hear_110 (by decide) ?_
                refine sv_sub (lv' := []) [] rfl ?_
                exact w_X5_hear_114 C hZ hR hN hT o_a0 _ _ hf
            · replace hf := sv_if_f c22_3 hf
              by_cases c22_4 : (V.1 1 a0) = 5
              · replace hf := sv_if_t c22_4 hf
                refine sv_tswI (v := 5) (tgt := 119) C dX5_hear_22 c22_4 (by decide) (by decide) rfl (by decide) ?_
                refine sv_aload_n 0 C dX5_hear_119 rfl rfl ?_
                refine sv_iconst (v := 0) C dX5_hear_120 (by decide) ?_
                refine gh_puti C fl_X5_15 o_a0 (by decide) (by decide) rfl rfl dX5_hear_121 ?_
                refine sv_iload_n 1 C dX5_hear_124 rfl rfl ?_
                refine sv_bipush (v := 10) C dX5_hear_125 (by decide) ?_
                refine sv_icmp_ne (tgt := 134) C dX5_hear_127 (by decide) (fun c127 => ?_) (fun c127 => ?_)
                · replace hf := sv_if_f c127 hf
                  refine sv_iconst (v := 1) C dX5_hear_134 (by decide) ?_
                  exact sv_iret C (by cases hf; exact hZ) dX5_hear_135
                · replace hf := sv_if_t c127 hf
                  refine sv_iconst (v := 2) C dX5_hear_130 (by decide) ?_
                  refine sv_goto (tgt := 135) C dX5_hear_131 (by decide) ?_
                  exact sv_iret C (by cases hf; exact hZ) dX5_hear_135
              · replace hf := sv_if_f c22_4 hf
                have n22_0 : (V.1 1 a0).toInt ≠ 1 := fun e => c22_0 (Int32.toInt_inj.mp (e.trans (by decide)))
                have n22_1 : (V.1 1 a0).toInt ≠ 2 := fun e => c22_1 (Int32.toInt_inj.mp (e.trans (by decide)))
                have n22_2 : (V.1 1 a0).toInt ≠ 3 := fun e => c22_2 (Int32.toInt_inj.mp (e.trans (by decide)))
                have n22_3 : (V.1 1 a0).toInt ≠ 4 := fun e => c22_3 (Int32.toInt_inj.mp (e.trans (by decide)))
                have n22_4 : (V.1 1 a0).toInt ≠ 5 := fun e => c22_4 (Int32.toInt_inj.mp (e.trans (by decide)))
                refine sv_tswO (tgt := 136) C dX5_hear_22 (by omega) (by decide) ?_
                refine sv_iconst (v := 0) C dX5_hear_136 (by decide) ?_
                exact sv_iret C (by cases hf; exact hZ) dX5_hear_137
    · replace hf := sv_if_t c9 hf
      refine sv_sub (lv' := [(0, .ref a0), (1, .int x1)]) [0, 1] rfl ?_
      exact w_X5_hear_12 C hZ hR hN hT o_a0 _ _ hf
def f_X6_hasRoom (T : gh_T) (V : gh_V) (a0 : Nat) (x1 : Int32) : Option (Int32 × gh_V) :=
  (T.2.2.1 0 a0).bind (fun b7 =>
    if (Int32.ofNat (T.2.2.2.1 b7)) < ((V.1 1 a0) + x1) then
      some (0, V)
    else
      some (1, V))
set_option maxHeartbeats 4000000 in
set_option maxRecDepth 100000 in
theorem m_X6_hasRoom (l : Launch) (E : sv_E) (T : gh_T) (sz : Nat) (V : gh_V) (a0 : Nat) (x1 : Int32) (q : Int32 × gh_V) (hf : f_X6_hasRoom T V a0 x1 = some q) (hT : gh_ok T) (o_a0 : gh_is T a0 6) : sv_Met l E yX6_hasRoom cX6_hasRoom 2 (some .boolean) 0 0 [] [.ref a0, .int x1] (gh_w E T V) sz (some (.int q.1)) (gh_w E T q.2) sz 0 0 := by
  refine sv_ofJ (by decide) (Nat.le_of_ble_eq_true rfl) ?_
  intro X hX hN hnm hR C hZ
  replace C : sv_C E X cX6_hasRoom RX6 [] := C
  show sv_J E X (gh_w E T V) sz 0 0 0 [(0, .ref a0), (1, .int x1)] []
  rw [f_X6_hasRoom] at hf
  refine sv_aload_n 0 C dX6_hasRoom_0 rfl rfl ?_
  refine gh_geti C fl_X6_15 o_a0 (by decide) (by decide) dX6_hasRoom_1 ?_
  refine sv_iload_n 1 C dX6_hasRoom_4 rfl rfl ?_
  refine sv_iadd C dX6_hasRoom_5 ?_
  refine sv_aload_n 0 C dX6_hasRoom_6 rfl rfl ?_
  obtain ⟨b7, hb7, hf⟩ := sv_bind_some hf
  have o_b7 : gh_is T b7 9 := gh_okr hT o_a0 rfl hb7
  refine gh_getr (d := 9) C fl_X6_9 o_a0 (by decide) (by decide) hb7 dX6_hasRoom_7 ?_
  refine gh_alen C o_b7 (by decide) dX6_hasRoom_10 ?_
  refine sv_icmp_gt (tgt := 18) C dX6_hasRoom_11 (by decide) (fun c11 => ?_) (fun c11 => ?_)
  · replace hf := sv_if_t c11 hf
    refine sv_iconst (v := 0) C dX6_hasRoom_18 (by decide) ?_
    exact sv_zret (ty := .boolean) C (by decide) (by cases hf; exact hZ) dX6_hasRoom_19
  · replace hf := sv_if_f c11 hf
    refine sv_iconst (v := 1) C dX6_hasRoom_14 (by decide) ?_
    refine sv_goto (tgt := 19) C dX6_hasRoom_15 (by decide) ?_
    exact sv_zret (ty := .boolean) C (by decide) (by cases hf; exact hZ) dX6_hasRoom_19
def f_X6_add (T : gh_T) (V : gh_V) (a0 : Nat) (x1 : Int32) : Option (gh_V) :=
  if (V.1 1 a0) < 0 then
    some (V)
  else
    (T.2.2.1 0 a0).bind (fun b12 =>
      if (Int32.ofNat (T.2.2.2.1 b12)) ≤ (V.1 1 a0) then
        some (V)
      else
        (T.2.2.1 0 a0).bind (fun b20 =>
          sv_g (sv_inb (V.1 1 a0) (T.2.2.2.1 b20)) (
            some (gh_pf (gh_pa V b20 (V.1 1 a0) (vp_nar .byte x1.toInt8.toInt32)) 1 a0 (((gh_pa V b20 (V.1 1 a0) (vp_nar .byte x1.toInt8.toInt32)).1 1 a0) + 1)))))
set_option maxHeartbeats 4000000 in
set_option maxRecDepth 100000 in
theorem m_X6_add (l : Launch) (E : sv_E) (T : gh_T) (sz : Nat) (V : gh_V) (a0 : Nat) (x1 : Int32) (q : gh_V) (hf : f_X6_add T V a0 x1 = some q) (hT : gh_ok T) (o_a0 : gh_is T a0 6) : sv_Met l E yX6_add cX6_add 2 none 0 0 [] [.ref a0, .int x1] (gh_w E T V) sz none (gh_w E T q) sz 0 0 := by
  refine sv_ofJ (by decide) (Nat.le_of_ble_eq_true rfl) ?_
  intro X hX hN hnm hR C hZ
  replace C : sv_C E X cX6_add RX6 [] := C
  show sv_J E X (gh_w E T V) sz 0 0 0 [(0, .ref a0), (1, .int x1)] []
  rw [f_X6_add] at hf
  refine sv_aload_n 0 C dX6_add_0 rfl rfl ?_
  refine gh_geti C fl_X6_15 o_a0 (by decide) (by decide) dX6_add_1 ?_
  refine sv_if_lt (tgt := 40) C dX6_add_4 (by decide) (fun c4 => ?_) (fun c4 => ?_)
  · replace hf := sv_if_t c4 hf
    exact sv_vret C (by cases hf; exact hZ) dX6_add_40
  · replace hf := sv_if_f c4 hf
    refine sv_aload_n 0 C dX6_add_7 rfl rfl ?_
    refine gh_geti C fl_X6_15 o_a0 (by decide) (by decide) dX6_add_8 ?_
    refine sv_aload_n 0 C dX6_add_11 rfl rfl ?_
    obtain ⟨b12, hb12, hf⟩ := sv_bind_some hf
    have o_b12 : gh_is T b12 9 := gh_okr hT o_a0 rfl hb12
    refine gh_getr (d := 9) C fl_X6_9 o_a0 (by decide) (by decide) hb12 dX6_add_12 ?_
    refine gh_alen C o_b12 (by decide) dX6_add_15 ?_
    refine sv_icmp_ge (tgt := 40) C dX6_add_16 (by decide) (fun c16 => ?_) (fun c16 => ?_)
    · replace hf := sv_if_t c16 hf
      exact sv_vret C (by cases hf; exact hZ) dX6_add_40
    · replace hf := sv_if_f c16 hf
      refine sv_aload_n 0 C dX6_add_19 rfl rfl ?_
      obtain ⟨b20, hb20, hf⟩ := sv_bind_some hf
      have o_b20 : gh_is T b20 9 := gh_okr hT o_a0 rfl hb20
      refine gh_getr (d := 9) C fl_X6_9 o_a0 (by decide) (by decide) hb20 dX6_add_20 ?_
      refine sv_aload_n 0 C dX6_add_23 rfl rfl ?_
      refine gh_geti C fl_X6_15 o_a0 (by decide) (by decide) dX6_add_24 ?_
      refine sv_iload_n 1 C dX6_add_27 rfl rfl ?_
      refine sv_i2b C dX6_add_28 ?_
      obtain ⟨g29, hf⟩ := sv_g_some hf
      refine gh_bast C o_b20 g29 dX6_add_29 ?_
      refine sv_aload_n 0 C dX6_add_30 rfl rfl ?_
      refine sv_dup C dX6_add_31 rfl ?_
      refine gh_geti C fl_X6_15 o_a0 (by decide) (by decide) dX6_add_32 ?_
      refine sv_iconst (v := 1) C dX6_add_35 (by decide) ?_
      refine sv_iadd C dX6_add_36 ?_
      refine gh_puti C fl_X6_15 o_a0 (by decide) (by decide) rfl rfl dX6_add_37 ?_
      exact sv_vret C (by cases hf; exact hZ) dX6_add_40
def f_X6_addWord (T : gh_T) (V : gh_V) (a0 : Nat) (x1 : Int32) : Option (gh_V) :=
  (f_X6_add T V a0 ((x1.toUInt32 >>> ((24 : Int32).toUInt32 &&& Int32.toUInt32 31)).toInt32)).bind (fun q5 =>
    (f_X6_add T q5 a0 ((x1.toUInt32 >>> ((16 : Int32).toUInt32 &&& Int32.toUInt32 31)).toInt32)).bind (fun q13 =>
      (f_X6_add T q13 a0 ((x1.toUInt32 >>> ((8 : Int32).toUInt32 &&& Int32.toUInt32 31)).toInt32)).bind (fun q21 =>
        (f_X6_add T q21 a0 x1).bind (fun q26 =>
          some (q26)))))
set_option maxHeartbeats 4000000 in
set_option maxRecDepth 100000 in
theorem m_X6_addWord (l : Launch) (E : sv_E) (T : gh_T) (sz : Nat) (V : gh_V) (a0 : Nat) (x1 : Int32) (q : gh_V) (hf : f_X6_addWord T V a0 x1 = some q) (hT : gh_ok T) (o_a0 : gh_is T a0 6) : sv_Met l E yX6_addWord cX6_addWord 2 none 1 21 [] [.ref a0, .int x1] (gh_w E T V) sz none (gh_w E T q) sz 0 0 := by
  refine sv_ofJ (by decide) (Nat.le_of_ble_eq_true rfl) ?_
  intro X hX hN hnm hR C hZ
  replace C : sv_C E X cX6_addWord RX6 [] := C
  show sv_J E X (gh_w E T V) sz 0 0 0 [(0, .ref a0), (1, .int x1)] []
  rw [f_X6_addWord] at hf
  refine sv_aload_n 0 C dX6_addWord_0 rfl rfl ?_
  refine sv_iload_n 1 C dX6_addWord_1 rfl rfl ?_
  refine sv_bipush (v := 24) C dX6_addWord_2 (by decide) ?_
  refine sv_iushr C dX6_addWord_4 ?_
  obtain ⟨q5, hc5, hf⟩ := sv_bind_some hf
  refine gh_callV0 C mv_X6_19 (m_X6_add (sv_l X) E T sz _ _ _ _ hc5 hT o_a0) sv_sx0 o_a0 (by decide) rfl rfl rfl (Nat.le_of_ble_eq_true rfl) ⟨by rw [hR]; decide, by rw [hR]; decide⟩ ⟨by rw [hR]; decide, by rw [hR]; decide⟩ dX6_addWord_5 ?_
  refine sv_aload_n 0 C dX6_addWord_8 rfl rfl ?_
  refine sv_iload_n 1 C dX6_addWord_9 rfl rfl ?_
  refine sv_bipush (v := 16) C dX6_addWord_10 (by decide) ?_
  refine sv_iushr C dX6_addWord_12 ?_
  obtain ⟨q13, hc13, hf⟩ := sv_bind_some hf
  refine gh_callV0 C mv_X6_19 (m_X6_add (sv_l X) E T sz _ _ _ _ hc13 hT o_a0) sv_sx0 o_a0 (by decide) rfl rfl rfl (Nat.le_of_ble_eq_true rfl) ⟨by rw [hR]; decide, by rw [hR]; decide⟩ ⟨by rw [hR]; decide, by rw [hR]; decide⟩ dX6_addWord_13 ?_
  refine sv_aload_n 0 C dX6_addWord_16 rfl rfl ?_
  refine sv_iload_n 1 C dX6_addWord_17 rfl rfl ?_
  refine sv_bipush (v := 8) C dX6_addWord_18 (by decide) ?_
  refine sv_iushr C dX6_addWord_20 ?_
  obtain ⟨q21, hc21, hf⟩ := sv_bind_some hf
  refine gh_callV0 C mv_X6_19 (m_X6_add (sv_l X) E T sz _ _ _ _ hc21 hT o_a0) sv_sx0 o_a0 (by decide) rfl rfl rfl (Nat.le_of_ble_eq_true rfl) ⟨by rw [hR]; decide, by rw [hR]; decide⟩ ⟨by rw [hR]; decide, by rw [hR]; decide⟩ dX6_addWord_21 ?_
  refine sv_aload_n 0 C dX6_addWord_24 rfl rfl ?_
  refine sv_iload_n 1 C dX6_addWord_25 rfl rfl ?_
  obtain ⟨q26, hc26, hf⟩ := sv_bind_some hf
  refine gh_callV0 C mv_X6_19 (m_X6_add (sv_l X) E T sz _ _ _ _ hc26 hT o_a0) sv_sx0 o_a0 (by decide) rfl rfl rfl (Nat.le_of_ble_eq_true rfl) ⟨by rw [hR]; decide, by rw [hR]; decide⟩ ⟨by rw [hR]; decide, by rw [hR]; decide⟩ dX6_addWord_26 ?_
  exact sv_vret C (by cases hf; exact hZ) dX6_addWord_29
def f_X6_addText_2 (T : gh_T) (a0 : Nat) (t1 : List Int32) : Nat → gh_V → Int32 → Option (gh_V)
  | 0, _, _ => none
  | n + 1, V, x2 =>
    (f_J0_length_8abf5 t1).bind (fun q4 =>
      if q4 ≤ x2 then
        some (V)
      else
        (f_J0_charAt_5068e t1 x2).bind (fun q13 =>
          (f_X6_add T V a0 q13).bind (fun q16 =>
            (f_X6_addText_2 T a0 t1 n) q16 (x2 + 1))))
def f_X6_addText (T : gh_T) (V : gh_V) (a0 : Nat) (t1 : List Int32) : Option (gh_V) :=
  f_X6_addText_2 T a0 t1 sv_fu V 0
set_option maxHeartbeats 4000000 in
set_option maxRecDepth 100000 in
theorem w_X6_addText_2 {E : sv_E} {X : sv_X} {sz : Nat} {q : gh_V} {T : gh_T} {k1 v1 : Nat} {t1 : List Int32} {a0 : Nat} (C : sv_C E X cX6_addText RX6 [(k1, v1, t1)]) (hZ : sv_Z E X none none (gh_w E T q) sz 0 0) (hR : sv_R X = { frames := 4, cells := 0, slots := 0, locals := 85 }) (hN : sv_nL X = 3) (hT : gh_ok T) (o_a0 : gh_is T a0 6) : ∀ (n : Nat) (V : gh_V) (x2 : Int32), f_X6_addText_2 T a0 t1 n V x2 = some q → sv_J E X (gh_w E T V) sz 0 0 2 [(0, .ref a0), (1, .ref k1), (2, .int x2)] [] := by
  intro n
  induction n with
  | zero =>
    intro V x2 hf
    rw [f_X6_addText_2] at hf
    cases hf
  | succ n ih =>
    intro V x2 hf
    rw [f_X6_addText_2] at hf
    refine sv_iload_n 2 C dX6_addText_2 rfl rfl ?_
    refine sv_aload_n 1 C dX6_addText_3 rfl rfl ?_
    obtain ⟨q4, hc4, hf⟩ := sv_bind_some hf
    refine ss_callV (v := v1) (t := t1) C mv_X6_23 (m_J0_length_8abf5 (sv_l X) E _ sz k1 v1 _ _ hc4) sv_sx1 (List.mem_cons_self) rfl rfl rfl (Nat.le_of_ble_eq_true rfl) ⟨by rw [hR]; decide, by rw [hR]; decide⟩ ⟨by rw [hR]; decide, by rw [hR]; decide⟩ dX6_addText_4 ?_
    refine sv_icmp_ge (tgt := 25) C dX6_addText_7 (by decide) (fun c7 => ?_) (fun c7 => ?_)
    · replace hf := sv_if_t c7 hf
      exact sv_vret C (by cases hf; exact hZ) dX6_addText_25
    · replace hf := sv_if_f c7 hf
      refine sv_aload_n 0 C dX6_addText_10 rfl rfl ?_
      refine sv_aload_n 1 C dX6_addText_11 rfl rfl ?_
      refine sv_iload_n 2 C dX6_addText_12 rfl rfl ?_
      obtain ⟨q13, hc13, hf⟩ := sv_bind_some hf
      refine ss_callV (v := v1) (t := t1) C mv_X6_29 (m_J0_charAt_5068e (sv_l X) E _ sz k1 v1 _ _ _ hc13) sv_sx1 (List.mem_cons_self) rfl rfl rfl (Nat.le_of_ble_eq_true rfl) ⟨by rw [hR]; decide, by rw [hR]; decide⟩ ⟨by rw [hR]; decide, by rw [hR]; decide⟩ dX6_addText_13 ?_
      obtain ⟨q16, hc16, hf⟩ := sv_bind_some hf
      refine gh_callV0 C mv_X6_19 (m_X6_add (sv_l X) E T sz _ _ _ _ hc16 hT o_a0) sv_sx0 o_a0 (by decide) rfl rfl rfl (Nat.le_of_ble_eq_true rfl) ⟨by rw [hR]; decide, by rw [hR]; decide⟩ ⟨by rw [hR]; decide, by rw [hR]; decide⟩ dX6_addText_16 ?_
      refine sv_iinc (v := x2 + 1) (lv' := [(2, .int (x2 + 1)), (0, .ref a0), (1, .ref k1)]) 2 C dX6_addText_19 rfl rfl (by rw [hN]; decide) rfl ?_
      refine sv_goto (tgt := 2) C dX6_addText_22 (by decide) ?_
      refine sv_sub (lv' := [(0, .ref a0), (1, .ref k1), (2, .int (x2 + 1))]) [1, 2, 0] rfl ?_
      exact ih _ _ hf
set_option maxHeartbeats 4000000 in
set_option maxRecDepth 100000 in
theorem m_X6_addText (l : Launch) (E : sv_E) (T : gh_T) (sz : Nat) (k1 v1 : Nat) (V : gh_V) (a0 : Nat) (t1 : List Int32) (q : gh_V) (hf : f_X6_addText T V a0 t1 = some q) (hT : gh_ok T) (o_a0 : gh_is T a0 6) : sv_Met l E yX6_addText cX6_addText 3 none 4 85 [(k1, v1, t1)] [.ref a0, .ref k1] (gh_w E T V) sz none (gh_w E T q) sz 0 0 := by
  refine sv_ofJ (by decide) (Nat.le_of_ble_eq_true rfl) ?_
  intro X hX hN hnm hR C hZ
  replace C : sv_C E X cX6_addText RX6 [(k1, v1, t1)] := C
  show sv_J E X (gh_w E T V) sz 0 0 0 [(0, .ref a0), (1, .ref k1)] []
  rw [f_X6_addText] at hf
  refine sv_iconst (v := 0) C dX6_addText_0 (by decide) ?_
  refine sv_istore_n (lv' := [(2, .int 0), (0, .ref a0), (1, .ref k1)]) C dX6_addText_1 rfl (by rw [hN]; decide) rfl ?_
  refine sv_sub (lv' := [(0, .ref a0), (1, .ref k1), (2, .int 0)]) [1, 2, 0] rfl ?_
  exact w_X6_addText_2 C hZ hR hN hT o_a0 sv_fu _ _ hf
def f_X6_at (T : gh_T) (V : gh_V) (a0 : Nat) (x1 : Int32) : Option (Int32 × gh_V) :=
  if x1 < 0 then
    some ((-2147483648), V)
  else
    if (V.1 1 a0) ≤ x1 then
      some ((-2147483648), V)
    else
      (T.2.2.1 0 a0).bind (fun b14 =>
        if (Int32.ofNat (T.2.2.2.1 b14)) ≤ x1 then
          some ((-2147483648), V)
        else
          (T.2.2.1 0 a0).bind (fun b22 =>
            sv_g (sv_inb x1 (T.2.2.2.1 b22)) (
              some ((V.2 b22 x1.toNatClampNeg) &&& 255, V))))
set_option maxHeartbeats 4000000 in
set_option maxRecDepth 100000 in
theorem m_X6_at (l : Launch) (E : sv_E) (T : gh_T) (sz : Nat) (V : gh_V) (a0 : Nat) (x1 : Int32) (q : Int32 × gh_V) (hf : f_X6_at T V a0 x1 = some q) (hT : gh_ok T) (o_a0 : gh_is T a0 6) : sv_Met l E yX6_at cX6_at 2 (some .int) 0 0 [] [.ref a0, .int x1] (gh_w E T V) sz (some (.int q.1)) (gh_w E T q.2) sz 0 0 := by
  refine sv_ofJ (by decide) (Nat.le_of_ble_eq_true rfl) ?_
  intro X hX hN hnm hR C hZ
  replace C : sv_C E X cX6_at RX6 [] := C
  show sv_J E X (gh_w E T V) sz 0 0 0 [(0, .ref a0), (1, .int x1)] []
  rw [f_X6_at] at hf
  refine sv_iload_n 1 C dX6_at_0 rfl rfl ?_
  refine sv_if_lt (tgt := 34) C dX6_at_1 (by decide) (fun c1 => ?_) (fun c1 => ?_)
  · replace hf := sv_if_t c1 hf
    refine sv_ldc C kw_328 dX6_at_34 ?_
    exact sv_iret C (by cases hf; exact hZ) dX6_at_36
  · replace hf := sv_if_f c1 hf
    refine sv_iload_n 1 C dX6_at_4 rfl rfl ?_
    refine sv_aload_n 0 C dX6_at_5 rfl rfl ?_
    refine gh_geti C fl_X6_15 o_a0 (by decide) (by decide) dX6_at_6 ?_
    refine sv_icmp_ge (tgt := 34) C dX6_at_9 (by decide) (fun c9 => ?_) (fun c9 => ?_)
    · replace hf := sv_if_t c9 hf
      refine sv_ldc C kw_328 dX6_at_34 ?_
      exact sv_iret C (by cases hf; exact hZ) dX6_at_36
    · replace hf := sv_if_f c9 hf
      refine sv_iload_n 1 C dX6_at_12 rfl rfl ?_
      refine sv_aload_n 0 C dX6_at_13 rfl rfl ?_
      obtain ⟨b14, hb14, hf⟩ := sv_bind_some hf
      have o_b14 : gh_is T b14 9 := gh_okr hT o_a0 rfl hb14
      refine gh_getr (d := 9) C fl_X6_9 o_a0 (by decide) (by decide) hb14 dX6_at_14 ?_
      refine gh_alen C o_b14 (by decide) dX6_at_17 ?_
      refine sv_icmp_ge (tgt := 34) C dX6_at_18 (by decide) (fun c18 => ?_) (fun c18 => ?_)
      · replace hf := sv_if_t c18 hf
        refine sv_ldc C kw_328 dX6_at_34 ?_
        exact sv_iret C (by cases hf; exact hZ) dX6_at_36
      · replace hf := sv_if_f c18 hf
        refine sv_aload_n 0 C dX6_at_21 rfl rfl ?_
        obtain ⟨b22, hb22, hf⟩ := sv_bind_some hf
        have o_b22 : gh_is T b22 9 := gh_okr hT o_a0 rfl hb22
        refine gh_getr (d := 9) C fl_X6_9 o_a0 (by decide) (by decide) hb22 dX6_at_22 ?_
        refine sv_iload_n 1 C dX6_at_25 rfl rfl ?_
        obtain ⟨g26, hf⟩ := sv_g_some hf
        refine gh_bald C o_b22 g26 dX6_at_26 ?_
        refine sv_sipush (v := 255) C dX6_at_27 (by decide) ?_
        refine sv_iand C dX6_at_30 ?_
        refine sv_goto (tgt := 36) C dX6_at_31 (by decide) ?_
        exact sv_iret C (by cases hf; exact hZ) dX6_at_36
