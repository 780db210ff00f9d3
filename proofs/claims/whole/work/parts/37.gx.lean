def f_X8_fix_10 (T : gh_T) (a0 : Nat) (V : gh_V) : Option (Int32 × Int32 × gh_V) :=
  some (1, 0, V)
def f_X8_fix (T : gh_T) (V : gh_V) (a0 : Nat) (x1 : Int32) : Option (Int32 × Int32 × gh_V) :=
  if x1 < 0 then
    f_X8_fix_10 T a0 V
  else
    if x1 < 18 then
      (T.2.2.1 5 a0).bind (fun b21 =>
        (T.2.2.1 0 b21).bind (fun b24 =>
          sv_g (sv_inb x1 (T.2.2.2.1 b24)) (
            some (0, V.2 b24 x1.toNatClampNeg, V))))
    else
      f_X8_fix_10 T a0 V
set_option maxHeartbeats 4000000 in
set_option maxRecDepth 100000 in
theorem w_X8_fix_10 {E : sv_E} {X : sv_X} {sz : Nat} {q : Int32 × Int32 × gh_V} {T : gh_T} {a0 : Nat} (C : sv_C E X cX8_fix RX8 []) (CX : sv_CX X) (hZ : sv_ZX E X (some .int) q.1 (some (.int q.2.1)) (gh_w E T q.2.2) sz) (hR : sv_R X = { frames := 6, cells := 1, slots := 6, locals := 90 }) (hN : sv_nL X = 2) (hT : gh_ok T) (o_a0 : gh_is T a0 8) (V : gh_V) (hf : f_X8_fix_10 T a0 V = some q) : sv_J E X (gh_w E T V) sz 0 0 10 [] [] := by
  rw [f_X8_fix_10] at hf
  exact sv_thr1 (i := 0) C CX (by cases hf; exact hZ) (by rfl) ⟨⟨by rw [hR]; decide, by rw [hR]; exact Nat.le_of_ble_eq_true rfl⟩, by rw [hR]; decide, by rw [hR]; decide⟩ dX8_fix_10 dX8_fix_13 dX8_fix_14 dX8_fix_16 dX8_fix_19 kw_506 kw_507
set_option maxHeartbeats 4000000 in
set_option maxRecDepth 100000 in
theorem m_X8_fix (l : Launch) (hl : l.stackTraces = false) (E : sv_E) (T : gh_T) (sz : Nat) (V : gh_V) (a0 : Nat) (x1 : Int32) (q : Int32 × Int32 × gh_V) (hf : f_X8_fix T V a0 x1 = some q) (hT : gh_ok T) (o_a0 : gh_is T a0 8) : sv_MetX l E yX8_fix cX8_fix 2 (some .int) 6 90 [.ref a0, .int x1] (gh_w E T V) sz q.1 (some (.int q.2.1)) (gh_w E T q.2.2) := by
  refine sv_ofJX hl (by decide) (Nat.le_of_ble_eq_true rfl) ?_
  intro X hX hN hnm hR C CX hZ
  replace C : sv_C E X cX8_fix RX8 [] := C
  show sv_J E X (gh_w E T V) sz 0 0 0 [(0, .ref a0), (1, .int x1)] []
  rw [f_X8_fix] at hf
  refine sv_iload_n 1 C dX8_fix_0 rfl rfl ?_
  refine sv_if_lt (tgt := 10) C dX8_fix_1 (by decide) (fun c1 => ?_) (fun c1 => ?_)
  · replace hf := sv_if_t c1 hf
    refine sv_sub (lv' := []) [] rfl ?_
    exact w_X8_fix_10 C CX hZ hR hN hT o_a0 _ hf
  · replace hf := sv_if_f c1 hf
    refine sv_iload_n 1 C dX8_fix_4 rfl rfl ?_
    refine sv_bipush (v := 18) C dX8_fix_5 (by decide) ?_
    refine sv_icmp_lt (tgt := 20) C dX8_fix_7 (by decide) (fun c7 => ?_) (fun c7 => ?_)
    · replace hf := sv_if_t c7 hf
      refine sv_aload_n 0 C dX8_fix_20 rfl rfl ?_
      obtain ⟨b21, hb21, hf⟩ := sv_bind_some hf
      have o_b21 : gh_is T b21 4 := gh_okr hT o_a0 rfl hb21
      refine gh_getr (d := 4) C fl_X8_42 o_a0 (by decide) (by decide) hb21 dX8_fix_21 ?_
      obtain ⟨b24, hb24, hf⟩ := sv_bind_some hf
      have o_b24 : gh_is T b24 10 := gh_okr hT o_b21 rfl hb24
      refine gh_getr (d := 10) C fl_X8_107 o_b21 (by decide) (by decide) hb24 dX8_fix_24 ?_
      refine sv_iload_n 1 C dX8_fix_27 rfl rfl ?_
      obtain ⟨g28, hf⟩ := sv_g_some hf
      refine gh_iald C o_b24 g28 dX8_fix_28 ?_
      exact sv_iretX C (by cases hf; exact hZ) dX8_fix_29
    · replace hf := sv_if_f c7 hf
      refine sv_sub (lv' := []) [] rfl ?_
      exact w_X8_fix_10 C CX hZ hR hN hT o_a0 _ hf
def f_X8_vessel_52 (T : gh_T) (a0 : Nat) (V : gh_V) : Option (Int32 × Int32 × gh_V) :=
  some (1, 0, V)
def f_X8_vessel_40 (T : gh_T) (a0 : Nat) (V : gh_V) (x2 : Int32) (a3 : Nat) : Option (Int32 × Int32 × gh_V) :=
  if x2 < 30 then
    f_X8_vessel_52 T a0 V
  else
    if x2 ≤ 32 then
      (T.2.2.1 1 a3).bind (fun b63 =>
        sv_g (sv_inb (x2 - 30) (T.2.2.2.1 b63)) (
          some (0, V.2 b63 (x2 - 30).toNatClampNeg, V)))
    else
      f_X8_vessel_52 T a0 V
def f_X8_vessel (T : gh_T) (V : gh_V) (a0 : Nat) (x1 : Int32) (x2 : Int32) : Option (Int32 × Int32 × gh_V) :=
  (T.2.2.1 8 a0).bind (fun b1 =>
    (f_X2_at T V b1 x1).bind (fun q5 =>
      match q5.1 with
      | none =>
          some (1, 0, q5.2)
      | some b5 =>
        sv_g (gh_isb T b5 7) (
          if x2 < 0 then
            f_X8_vessel_40 T a0 q5.2 x2 b5
          else
            if 24 ≤ x2 then
              f_X8_vessel_40 T a0 q5.2 x2 b5
            else
              (T.2.2.1 0 b5).bind (fun b34 =>
                sv_g (sv_inb x2 (T.2.2.2.1 b34)) (
                  some (0, q5.2.2 b34 x2.toNatClampNeg, q5.2))))))
set_option maxHeartbeats 4000000 in
set_option maxRecDepth 100000 in
theorem w_X8_vessel_52 {E : sv_E} {X : sv_X} {sz : Nat} {q : Int32 × Int32 × gh_V} {T : gh_T} {a0 : Nat} (C : sv_C E X cX8_vessel RX8 []) (CX : sv_CX X) (hZ : sv_ZX E X (some .int) q.1 (some (.int q.2.1)) (gh_w E T q.2.2) sz) (hR : sv_R X = { frames := 6, cells := 1, slots := 6, locals := 90 }) (hN : sv_nL X = 4) (hT : gh_ok T) (o_a0 : gh_is T a0 8) (V : gh_V) (hf : f_X8_vessel_52 T a0 V = some q) : sv_J E X (gh_w E T V) sz 0 0 52 [] [] := by
  rw [f_X8_vessel_52] at hf
  exact sv_thr1 (i := 2) C CX (by cases hf; exact hZ) (by rfl) ⟨⟨by rw [hR]; decide, by rw [hR]; exact Nat.le_of_ble_eq_true rfl⟩, by rw [hR]; decide, by rw [hR]; decide⟩ dX8_vessel_52 dX8_vessel_55 dX8_vessel_56 dX8_vessel_58 dX8_vessel_61 kw_506 kw_507
set_option maxHeartbeats 4000000 in
set_option maxRecDepth 100000 in
theorem w_X8_vessel_40 {E : sv_E} {X : sv_X} {sz : Nat} {q : Int32 × Int32 × gh_V} {T : gh_T} {a0 : Nat} (C : sv_C E X cX8_vessel RX8 []) (CX : sv_CX X) (hZ : sv_ZX E X (some .int) q.1 (some (.int q.2.1)) (gh_w E T q.2.2) sz) (hR : sv_R X = { frames := 6, cells := 1, slots := 6, locals := 90 }) (hN : sv_nL X = 4) (hT : gh_ok T) (o_a0 : gh_is T a0 8) (V : gh_V) (x2 : Int32) (a3 : Nat) (o_a3 : gh_is T a3 7) (hf : f_X8_vessel_40 T a0 V x2 a3 = some q) : sv_J E X (gh_w E T V) sz 0 0 40 [(2, .int x2), (3, .ref a3)] [] := by
  rw [f_X8_vessel_40] at hf
  refine sv_iload_n 0 C dX8_vessel_40 rfl rfl ?_
  refine sv_bipush (v := 30) C dX8_vessel_41 (by decide) ?_
  refine sv_icmp_lt (tgt := 52) C dX8_vessel_43 (by decide) (fun c43 => ?_) (fun c43 => ?_)
  · replace hf := sv_if_t c43 hf
    refine sv_sub (lv' := []) [] rfl ?_
    exact w_X8_vessel_52 C CX hZ hR hN hT o_a0 _ hf
  · replace hf := sv_if_f c43 hf
    refine sv_iload_n 0 C dX8_vessel_46 rfl rfl ?_
    refine sv_bipush (v := 32) C dX8_vessel_47 (by decide) ?_
    refine sv_icmp_le (tgt := 62) C dX8_vessel_49 (by decide) (fun c49 => ?_) (fun c49 => ?_)
    · replace hf := sv_if_t c49 hf
      refine sv_aload_n 1 C dX8_vessel_62 rfl rfl ?_
      obtain ⟨b63, hb63, hf⟩ := sv_bind_some hf
      have o_b63 : gh_is T b63 10 := gh_okr hT o_a3 rfl hb63
      refine gh_getr (d := 10) C fl_X8_125 o_a3 (by decide) (by decide) hb63 dX8_vessel_63 ?_
      refine sv_iload_n 0 C dX8_vessel_66 rfl rfl ?_
      refine sv_bipush (v := 30) C dX8_vessel_67 (by decide) ?_
      refine sv_isub C dX8_vessel_69 ?_
      obtain ⟨g70, hf⟩ := sv_g_some hf
      refine gh_iald C o_b63 g70 dX8_vessel_70 ?_
      exact sv_iretX C (by cases hf; exact hZ) dX8_vessel_71
    · replace hf := sv_if_f c49 hf
      refine sv_sub (lv' := []) [] rfl ?_
      exact w_X8_vessel_52 C CX hZ hR hN hT o_a0 _ hf
set_option maxHeartbeats 4000000 in
set_option maxRecDepth 100000 in
theorem m_X8_vessel (l : Launch) (hl : l.stackTraces = false) (E : sv_E) (T : gh_T) (sz : Nat) (V : gh_V) (a0 : Nat) (x1 : Int32) (x2 : Int32) (q : Int32 × Int32 × gh_V) (hf : f_X8_vessel T V a0 x1 x2 = some q) (hT : gh_ok T) (o_a0 : gh_is T a0 8) : sv_MetX l E yX8_vessel cX8_vessel 4 (some .int) 6 90 [.ref a0, .int x1, .int x2] (gh_w E T V) sz q.1 (some (.int q.2.1)) (gh_w E T q.2.2) := by
  refine sv_ofJX hl (by decide) (Nat.le_of_ble_eq_true rfl) ?_
  intro X hX hN hnm hR C CX hZ
  replace C : sv_C E X cX8_vessel RX8 [] := C
  show sv_J E X (gh_w E T V) sz 0 0 0 [(0, .ref a0), (1, .int x1), (2, .int x2)] []
  rw [f_X8_vessel] at hf
  refine sv_aload_n 0 C dX8_vessel_0 rfl rfl ?_
  obtain ⟨b1, hb1, hf⟩ := sv_bind_some hf
  have o_b1 : gh_is T b1 2 := gh_okr hT o_a0 rfl hb1
  refine gh_getr (d := 2) C fl_X8_63 o_a0 (by decide) (by decide) hb1 dX8_vessel_1 ?_
  refine sv_iload_n 1 C dX8_vessel_4 rfl rfl ?_
  obtain ⟨q5, hc5, hf⟩ := sv_bind_some hf
  refine gh_callV0 C mv_X8_113 (m_X2_at (sv_l X) E T sz _ _ _ _ hc5 hT o_b1) sv_sx0 o_b1 (by decide) rfl rfl rfl (Nat.le_of_ble_eq_true rfl) ⟨by rw [hR]; decide, by rw [hR]; decide⟩ ⟨by rw [hR]; decide, by rw [hR]; decide⟩ dX8_vessel_5 ?_
  cases hb5 : q5.1 with
  | none =>
    rw [hb5] at hf
    show sv_J E X (gh_w E T q5.2) sz 0 0 8 [(0, .ref a0), (1, .int x1), (2, .int x2)] [.null]
    refine sv_astore_nN (lv' := [(3, .null), (0, .ref a0), (1, .int x1), (2, .int x2)]) C dX8_vessel_8 rfl (by rw [hN]; decide) rfl ?_
    refine sv_aload_nN 0 C dX8_vessel_9 rfl rfl ?_
    refine sv_ifnonnullN C dX8_vessel_10 ?_
    exact sv_thr1 (i := 1) C CX (by cases hf; exact hZ) (by rfl) ⟨⟨by rw [hR]; decide, by rw [hR]; exact Nat.le_of_ble_eq_true rfl⟩, by rw [hR]; decide, by rw [hR]; decide⟩ dX8_vessel_13 dX8_vessel_16 dX8_vessel_17 dX8_vessel_19 dX8_vessel_22 kw_506 kw_507
  | some b5 =>
    rw [hb5] at hf
    obtain ⟨g5, hf⟩ := sv_g_some hf
    have o_b5 : gh_is T b5 7 := gh_isb_is g5
    show sv_J E X (gh_w E T q5.2) sz 0 0 8 [(0, .ref a0), (1, .int x1), (2, .int x2)] [.ref b5]
    refine sv_astore_n (lv' := [(3, .ref b5), (0, .ref a0), (1, .int x1), (2, .int x2)]) C dX8_vessel_8 rfl (by rw [hN]; decide) rfl ?_
    refine sv_aload_n 0 C dX8_vessel_9 rfl rfl ?_
    refine sv_ifnonnull (tgt := 23) C dX8_vessel_10 (by decide) ?_
    refine sv_iload_n 3 C dX8_vessel_23 rfl rfl ?_
    refine sv_if_lt (tgt := 40) C dX8_vessel_24 (by decide) (fun c24 => ?_) (fun c24 => ?_)
    · replace hf := sv_if_t c24 hf
      refine sv_sub (lv' := [(2, .int x2), (3, .ref b5)]) [3, 0] rfl ?_
      exact w_X8_vessel_40 C CX hZ hR hN hT o_a0 _ _ _ o_b5 hf
    · replace hf := sv_if_f c24 hf
      refine sv_iload_n 3 C dX8_vessel_27 rfl rfl ?_
      refine sv_bipush (v := 24) C dX8_vessel_28 (by decide) ?_
      refine sv_icmp_ge (tgt := 40) C dX8_vessel_30 (by decide) (fun c30 => ?_) (fun c30 => ?_)
      · replace hf := sv_if_t c30 hf
        refine sv_sub (lv' := [(2, .int x2), (3, .ref b5)]) [3, 0] rfl ?_
        exact w_X8_vessel_40 C CX hZ hR hN hT o_a0 _ _ _ o_b5 hf
      · replace hf := sv_if_f c30 hf
        refine sv_aload_n 0 C dX8_vessel_33 rfl rfl ?_
        obtain ⟨b34, hb34, hf⟩ := sv_bind_some hf
        have o_b34 : gh_is T b34 10 := gh_okr hT o_b5 rfl hb34
        refine gh_getr (d := 10) C fl_X8_120 o_b5 (by decide) (by decide) hb34 dX8_vessel_34 ?_
        refine sv_iload_n 3 C dX8_vessel_37 rfl rfl ?_
        obtain ⟨g38, hf⟩ := sv_g_some hf
        refine gh_iald C o_b34 g38 dX8_vessel_38 ?_
        exact sv_iretX C (by cases hf; exact hZ) dX8_vessel_39
def f_X8_bits_28 (T : gh_T) (a0 : Nat) (V : gh_V) : Option (Int32 × Int32 × gh_V) :=
  some (1, 0, V)
def f_X8_bits (T : gh_T) (V : gh_V) (a0 : Nat) (x1 : Int32) (x2 : Int32) : Option (Int32 × Int32 × gh_V) :=
  if x2 < 1 then
    f_X8_bits_28 T a0 V
  else
    if 32 < x2 then
      f_X8_bits_28 T a0 V
    else
      if x1 < 0 then
        f_X8_bits_28 T a0 V
      else
        (T.2.2.1 7 a0).bind (fun b17 =>
          if x1 ≤ ((V.1 2 b17) - x2) then
            (T.2.2.1 7 a0).bind (fun b39 =>
              (f_X0_read T V b39 x1 x2).bind (fun q44 =>
                some (0, q44.1, q44.2)))
          else
            f_X8_bits_28 T a0 V)
set_option maxHeartbeats 4000000 in
set_option maxRecDepth 100000 in
theorem w_X8_bits_28 {E : sv_E} {X : sv_X} {sz : Nat} {q : Int32 × Int32 × gh_V} {T : gh_T} {a0 : Nat} (C : sv_C E X cX8_bits RX8 []) (CX : sv_CX X) (hZ : sv_ZX E X (some .int) q.1 (some (.int q.2.1)) (gh_w E T q.2.2) sz) (hR : sv_R X = { frames := 6, cells := 1, slots := 6, locals := 90 }) (hN : sv_nL X = 3) (hT : gh_ok T) (o_a0 : gh_is T a0 8) (V : gh_V) (hf : f_X8_bits_28 T a0 V = some q) : sv_J E X (gh_w E T V) sz 0 0 28 [] [] := by
  rw [f_X8_bits_28] at hf
  exact sv_thr1 (i := 3) C CX (by cases hf; exact hZ) (by rfl) ⟨⟨by rw [hR]; decide, by rw [hR]; exact Nat.le_of_ble_eq_true rfl⟩, by rw [hR]; decide, by rw [hR]; decide⟩ dX8_bits_28 dX8_bits_31 dX8_bits_32 dX8_bits_34 dX8_bits_37 kw_506 kw_507
set_option maxHeartbeats 4000000 in
set_option maxRecDepth 100000 in
theorem m_X8_bits (l : Launch) (hl : l.stackTraces = false) (E : sv_E) (T : gh_T) (sz : Nat) (V : gh_V) (a0 : Nat) (x1 : Int32) (x2 : Int32) (q : Int32 × Int32 × gh_V) (hf : f_X8_bits T V a0 x1 x2 = some q) (hT : gh_ok T) (o_a0 : gh_is T a0 8) : sv_MetX l E yX8_bits cX8_bits 3 (some .int) 6 90 [.ref a0, .int x1, .int x2] (gh_w E T V) sz q.1 (some (.int q.2.1)) (gh_w E T q.2.2) := by
  refine sv_ofJX hl (by decide) (Nat.le_of_ble_eq_true rfl) ?_
  intro X hX hN hnm hR C CX hZ
  replace C : sv_C E X cX8_bits RX8 [] := C
  show sv_J E X (gh_w E T V) sz 0 0 0 [(0, .ref a0), (1, .int x1), (2, .int x2)] []
  rw [f_X8_bits] at hf
  refine sv_iload_n 2 C dX8_bits_0 rfl rfl ?_
  refine sv_iconst (v := 1) C dX8_bits_1 (by decide) ?_
  refine sv_icmp_lt (tgt := 28) C dX8_bits_2 (by decide) (fun c2 => ?_) (fun c2 => ?_)
  · replace hf := sv_if_t c2 hf
    refine sv_sub (lv' := []) [] rfl ?_
    exact w_X8_bits_28 C CX hZ hR hN hT o_a0 _ hf
  · replace hf := sv_if_f c2 hf
    refine sv_iload_n 2 C dX8_bits_5 rfl rfl ?_
    refine sv_bipush (v := 32) C dX8_bits_6 (by decide) ?_
    refine sv_icmp_gt (tgt := 28) C dX8_bits_8 (by decide) (fun c8 => ?_) (fun c8 => ?_)
    · replace hf := sv_if_t c8 hf
      refine sv_sub (lv' := []) [] rfl ?_
      exact w_X8_bits_28 C CX hZ hR hN hT o_a0 _ hf
    · replace hf := sv_if_f c8 hf
      refine sv_iload_n 1 C dX8_bits_11 rfl rfl ?_
      refine sv_if_lt (tgt := 28) C dX8_bits_12 (by decide) (fun c12 => ?_) (fun c12 => ?_)
      · replace hf := sv_if_t c12 hf
        refine sv_sub (lv' := []) [] rfl ?_
        exact w_X8_bits_28 C CX hZ hR hN hT o_a0 _ hf
      · replace hf := sv_if_f c12 hf
        refine sv_iload_n 1 C dX8_bits_15 rfl rfl ?_
        refine sv_aload_n 0 C dX8_bits_16 rfl rfl ?_
        obtain ⟨b17, hb17, hf⟩ := sv_bind_some hf
        have o_b17 : gh_is T b17 0 := gh_okr hT o_a0 rfl hb17
        refine gh_getr (d := 0) C fl_X8_56 o_a0 (by decide) (by decide) hb17 dX8_bits_17 ?_
        refine gh_geti C fl_X8_132 o_b17 (by decide) (by decide) dX8_bits_20 ?_
        refine sv_iload_n 2 C dX8_bits_23 rfl rfl ?_
        refine sv_isub C dX8_bits_24 ?_
        refine sv_icmp_le (tgt := 38) C dX8_bits_25 (by decide) (fun c25 => ?_) (fun c25 => ?_)
        · replace hf := sv_if_t c25 hf
          refine sv_aload_n 0 C dX8_bits_38 rfl rfl ?_
          obtain ⟨b39, hb39, hf⟩ := sv_bind_some hf
          have o_b39 : gh_is T b39 0 := gh_okr hT o_a0 rfl hb39
          refine gh_getr (d := 0) C fl_X8_56 o_a0 (by decide) (by decide) hb39 dX8_bits_39 ?_
          refine sv_iload_n 1 C dX8_bits_42 rfl rfl ?_
          refine sv_iload_n 2 C dX8_bits_43 rfl rfl ?_
          obtain ⟨q44, hc44, hf⟩ := sv_bind_some hf
          refine gh_callV0 C mv_X8_137 (m_X0_read (sv_l X) E T sz _ _ _ _ _ hc44 hT o_b39) sv_sx0 o_b39 (by decide) rfl rfl rfl (Nat.le_of_ble_eq_true rfl) ⟨by rw [hR]; decide, by rw [hR]; decide⟩ ⟨by rw [hR]; decide, by rw [hR]; decide⟩ dX8_bits_44 ?_
          exact sv_iretX C (by cases hf; exact hZ) dX8_bits_47
        · replace hf := sv_if_f c25 hf
          refine sv_sub (lv' := []) [] rfl ?_
          exact w_X8_bits_28 C CX hZ hR hN hT o_a0 _ hf
def f_X8_send_66 (T : gh_T) (a0 : Nat) (V : gh_V) : Option (Int32 × Int32 × gh_V) :=
  some (2, 0, V)
def f_X8_send_148 (T : gh_T) (a0 : Nat) (V : gh_V) : Option (Int32 × Int32 × gh_V) :=
  (T.2.2.1 2 a0).bind (fun b149 =>
    some (0, V.1 1 b149, V))
def f_X8_send_76 (T : gh_T) (a0 : Nat) (V : gh_V) (x2 : Int32) (x3 : Int32) (a4 : Nat) : Option (Int32 × Int32 × gh_V) :=
  (T.2.2.1 9 a0).bind (fun b80 =>
    (f_X7_tell T V a4 x2 b80).bind (fun q83 =>
      (T.2.2.1 2 a0).bind (fun b87 =>
        (T.2.2.1 9 a0).bind (fun b95 =>
          if x2 = 5 then
            (f_X8_writeSentence T (gh_pf q83 1 b87 0) a0 ([50, 44, 49, 44]) x3 0 60).bind (fun q120 =>
              (f_X8_writeSentence T q120 a0 ([50, 44, 50, 44]) x3 60 ((((gh_pf q83 1 b87 0).1 2 b95) + 5) / 6)).bind (fun q131 =>
                f_X8_send_148 T a0 q131))
          else
            (f_X8_writeSentence T (gh_pf q83 1 b87 0) a0 ([49, 44, 49, 44]) (-2147483648) 0 ((((gh_pf q83 1 b87 0).1 2 b95) + 5) / 6)).bind (fun q145 =>
              f_X8_send_148 T a0 q145)))))
def f_X8_send_51 (T : gh_T) (a0 : Nat) (V : gh_V) (x2 : Int32) (x3 : Int32) (a4 : Nat) : Option (Int32 × Int32 × gh_V) :=
  if x2 = 5 then
    if x3 < 0 then
      f_X8_send_66 T a0 V
    else
      if x3 ≤ 9 then
        f_X8_send_76 T a0 V x2 x3 a4
      else
        f_X8_send_66 T a0 V
  else
    f_X8_send_76 T a0 V x2 x3 a4
def f_X8_send (T : gh_T) (V : gh_V) (a0 : Nat) (x1 : Int32) (x2 : Int32) (x3 : Int32) : Option (Int32 × Int32 × gh_V) :=
  (T.2.2.1 8 a0).bind (fun b1 =>
    (f_X2_at T V b1 x1).bind (fun q5 =>
      match q5.1 with
      | none =>
          some (1, 0, q5.2)
      | some b5 =>
        sv_g (gh_isb T b5 7) (
          if x2 = 1 then
            f_X8_send_51 T a0 q5.2 x2 x3 b5
          else
            if x2 = 5 then
              f_X8_send_51 T a0 q5.2 x2 x3 b5
            else
              if x2 = 18 then
                f_X8_send_51 T a0 q5.2 x2 x3 b5
              else
                some (2, 0, q5.2))))
set_option maxHeartbeats 4000000 in
set_option maxRecDepth 100000 in
theorem w_X8_send_66 {E : sv_E} {X : sv_X} {sz : Nat} {q : Int32 × Int32 × gh_V} {T : gh_T} {a0 : Nat} (C : sv_C E X cX8_send RX8 []) (CX : sv_CX X) (hZ : sv_ZX E X (some .int) q.1 (some (.int q.2.1)) (gh_w E T q.2.2) sz) (hR : sv_R X = { frames := 6, cells := 1, slots := 6, locals := 134 }) (hN : sv_nL X = 6) (hT : gh_ok T) (o_a0 : gh_is T a0 8) (V : gh_V) (hf : f_X8_send_66 T a0 V = some q) : sv_J E X (gh_w E T V) sz 0 0 66 [] [] := by
  rw [f_X8_send_66] at hf
  exact sv_thr2 (i := 5) C CX (by cases hf; exact hZ) (by rfl) ⟨⟨by rw [hR]; decide, by rw [hR]; exact Nat.le_of_ble_eq_true rfl⟩, by rw [hR]; decide, by rw [hR]; decide⟩ dX8_send_66 dX8_send_69 dX8_send_70 dX8_send_72 dX8_send_75 kw_531 kw_532
set_option maxHeartbeats 4000000 in
set_option maxRecDepth 100000 in
theorem w_X8_send_148 {E : sv_E} {X : sv_X} {sz : Nat} {q : Int32 × Int32 × gh_V} {T : gh_T} {a0 : Nat} (C : sv_C E X cX8_send RX8 []) (CX : sv_CX X) (hZ : sv_ZX E X (some .int) q.1 (some (.int q.2.1)) (gh_w E T q.2.2) sz) (hR : sv_R X = { frames := 6, cells := 1, slots := 6, locals := 134 }) (hN : sv_nL X = 6) (hT : gh_ok T) (o_a0 : gh_is T a0 8) (V : gh_V) (hf : f_X8_send_148 T a0 V = some q) : sv_J E X (gh_w E T V) sz 0 0 148 [(0, .ref a0)] [] := by
  rw [f_X8_send_148] at hf
  refine sv_aload_n 0 C dX8_send_148 rfl rfl ?_
  obtain ⟨b149, hb149, hf⟩ := sv_bind_some hf
  have o_b149 : gh_is T b149 6 := gh_okr hT o_a0 rfl hb149
  refine gh_getr (d := 6) C fl_X8_22 o_a0 (by decide) (by decide) hb149 dX8_send_149 ?_
  refine gh_geti C fl_X8_78 o_b149 (by decide) (by decide) dX8_send_152 ?_
  exact sv_iretX C (by cases hf; exact hZ) dX8_send_155
set_option maxHeartbeats 4000000 in
set_option maxRecDepth 100000 in
theorem w_X8_send_76 {E : sv_E} {X : sv_X} {sz : Nat} {q : Int32 × Int32 × gh_V} {T : gh_T} {a0 : Nat} (C : sv_C E X cX8_send RX8 []) (CX : sv_CX X) (hZ : sv_ZX E X (some .int) q.1 (some (.int q.2.1)) (gh_w E T q.2.2) sz) (hR : sv_R X = { frames := 6, cells := 1, slots := 6, locals := 134 }) (hN : sv_nL X = 6) (hT : gh_ok T) (o_a0 : gh_is T a0 8) (V : gh_V) (x2 : Int32) (x3 : Int32) (a4 : Nat) (o_a4 : gh_is T a4 7) (hf : f_X8_send_76 T a0 V x2 x3 a4 = some q) : sv_J E X (gh_w E T V) sz 0 0 76 [(0, .ref a0), (2, .int x2), (3, .int x3), (4, .ref a4)] [] := by
  rw [f_X8_send_76] at hf
  refine sv_aload 3 C dX8_send_76 rfl ?_
  refine sv_iload_n 1 C dX8_send_78 rfl rfl ?_
  refine sv_aload_n 0 C dX8_send_79 rfl rfl ?_
  obtain ⟨b80, hb80, hf⟩ := sv_bind_some hf
  have o_b80 : gh_is T b80 0 := gh_okr hT o_a0 rfl hb80
  refine gh_getr (d := 0) C fl_X8_67 o_a0 (by decide) (by decide) hb80 dX8_send_80 ?_
  obtain ⟨q83, hc83, hf⟩ := sv_bind_some hf
  refine gh_callV0 C mv_X8_147 (m_X7_tell (sv_l X) E T sz _ _ _ _ _ hc83 hT o_a4 o_b80) sv_sx0 o_a4 (by decide) rfl rfl rfl (Nat.le_of_ble_eq_true rfl) ⟨by rw [hR]; decide, by rw [hR]; decide⟩ ⟨by rw [hR]; decide, by rw [hR]; decide⟩ dX8_send_83 ?_
  refine sv_aload_n 0 C dX8_send_86 rfl rfl ?_
  obtain ⟨b87, hb87, hf⟩ := sv_bind_some hf
  have o_b87 : gh_is T b87 6 := gh_okr hT o_a0 rfl hb87
  refine gh_getr (d := 6) C fl_X8_22 o_a0 (by decide) (by decide) hb87 dX8_send_87 ?_
  refine sv_iconst (v := 0) C dX8_send_90 (by decide) ?_
  refine gh_puti C fl_X8_78 o_b87 (by decide) (by decide) rfl rfl dX8_send_91 ?_
  refine sv_aload_n 0 C dX8_send_94 rfl rfl ?_
  obtain ⟨b95, hb95, hf⟩ := sv_bind_some hf
  have o_b95 : gh_is T b95 0 := gh_okr hT o_a0 rfl hb95
  refine gh_getr (d := 0) C fl_X8_67 o_a0 (by decide) (by decide) hb95 dX8_send_95 ?_
  refine gh_geti C fl_X8_132 o_b95 (by decide) (by decide) dX8_send_98 ?_
  refine sv_iconst (v := 5) C dX8_send_101 (by decide) ?_
  refine sv_iadd C dX8_send_102 ?_
  refine sv_bipush (v := 6) C dX8_send_103 (by decide) ?_
  refine sv_idiv C dX8_send_105 (by decide) ?_
  refine sv_istore (lv' := [(5, .int ((((gh_pf q83 1 b87 0).1 2 b95) + 5) / 6)), (0, .ref a0), (2, .int x2), (3, .int x3), (4, .ref a4)]) C dX8_send_106 (by rw [hN]; decide) rfl ?_
  refine sv_iload_n 2 C dX8_send_108 rfl rfl ?_
  refine sv_iconst (v := 5) C dX8_send_109 (by decide) ?_
  refine sv_icmp_ne (tgt := 137) C dX8_send_110 (by decide) (fun c110 => ?_) (fun c110 => ?_)
  · replace hf := sv_if_f c110 hf
    refine sv_aload_n 1 C dX8_send_137 rfl rfl ?_
    refine sv_ldcS (i := 8) C (by rfl) dX8_send_138 ?_
    refine sv_ldc C kw_397 dX8_send_140 ?_
    refine sv_iconst (v := 0) C dX8_send_142 (by decide) ?_
    refine sv_iload 0 C dX8_send_143 rfl ?_
    obtain ⟨q145, hc145, hf⟩ := sv_bind_some hf
    refine gh_callV0 C mv_X8_153 (m_X8_writeSentence (sv_l X) E T sz (E.2.2.1 8) (E.2.2.2.1 8) _ _ _ _ _ _ _ hc145 hT o_a0) (sv_sxi (i := 8) (by rfl)) o_a0 (by decide) rfl rfl rfl (Nat.le_of_ble_eq_true rfl) ⟨by rw [hR]; decide, by rw [hR]; decide⟩ ⟨by rw [hR]; decide, by rw [hR]; decide⟩ dX8_send_145 ?_
    refine sv_sub (lv' := [(0, .ref a0)]) [1] rfl ?_
    exact w_X8_send_148 C CX hZ hR hN hT o_a0 _ hf
  · replace hf := sv_if_t c110 hf
    refine sv_aload_n 1 C dX8_send_113 rfl rfl ?_
    refine sv_ldcS (i := 6) C (by rfl) dX8_send_114 ?_
    refine sv_iload_n 3 C dX8_send_116 rfl rfl ?_
    refine sv_iconst (v := 0) C dX8_send_117 (by decide) ?_
    refine sv_bipush (v := 60) C dX8_send_118 (by decide) ?_
    obtain ⟨q120, hc120, hf⟩ := sv_bind_some hf
    refine gh_callV0 C mv_X8_153 (m_X8_writeSentence (sv_l X) E T sz (E.2.2.1 6) (E.2.2.2.1 6) _ _ _ _ _ _ _ hc120 hT o_a0) (sv_sxi (i := 6) (by rfl)) o_a0 (by decide) rfl rfl rfl (Nat.le_of_ble_eq_true rfl) ⟨by rw [hR]; decide, by rw [hR]; decide⟩ ⟨by rw [hR]; decide, by rw [hR]; decide⟩ dX8_send_120 ?_
    refine sv_aload_n 1 C dX8_send_123 rfl rfl ?_
    refine sv_ldcS (i := 7) C (by rfl) dX8_send_124 ?_
    refine sv_iload_n 3 C dX8_send_126 rfl rfl ?_
    refine sv_bipush (v := 60) C dX8_send_127 (by decide) ?_
    refine sv_iload 0 C dX8_send_129 rfl ?_
    obtain ⟨q131, hc131, hf⟩ := sv_bind_some hf
    refine gh_callV0 C mv_X8_153 (m_X8_writeSentence (sv_l X) E T sz (E.2.2.1 7) (E.2.2.2.1 7) _ _ _ _ _ _ _ hc131 hT o_a0) (sv_sxi (i := 7) (by rfl)) o_a0 (by decide) rfl rfl rfl (Nat.le_of_ble_eq_true rfl) ⟨by rw [hR]; decide, by rw [hR]; decide⟩ ⟨by rw [hR]; decide, by rw [hR]; decide⟩ dX8_send_131 ?_
    refine sv_goto (tgt := 148) C dX8_send_134 (by decide) ?_
    refine sv_sub (lv' := [(0, .ref a0)]) [1] rfl ?_
    exact w_X8_send_148 C CX hZ hR hN hT o_a0 _ hf
set_option maxHeartbeats 4000000 in
set_option maxRecDepth 100000 in
theorem w_X8_send_51 {E : sv_E} {X : sv_X} {sz : Nat} {q : Int32 × Int32 × gh_V} {T : gh_T} {a0 : Nat} (C : sv_C E X cX8_send RX8 []) (CX : sv_CX X) (hZ : sv_ZX E X (some .int) q.1 (some (.int q.2.1)) (gh_w E T q.2.2) sz) (hR : sv_R X = { frames := 6, cells := 1, slots := 6, locals := 134 }) (hN : sv_nL X = 6) (hT : gh_ok T) (o_a0 : gh_is T a0 8) (V : gh_V) (x2 : Int32) (x3 : Int32) (a4 : Nat) (o_a4 : gh_is T a4 7) (hf : f_X8_send_51 T a0 V x2 x3 a4 = some q) : sv_J E X (gh_w E T V) sz 0 0 51 [(0, .ref a0), (2, .int x2), (3, .int x3), (4, .ref a4)] [] := by
  rw [f_X8_send_51] at hf
  refine sv_iload_n 1 C dX8_send_51 rfl rfl ?_
  refine sv_iconst (v := 5) C dX8_send_52 (by decide) ?_
  refine sv_icmp_ne (tgt := 76) C dX8_send_53 (by decide) (fun c53 => ?_) (fun c53 => ?_)
  · replace hf := sv_if_f c53 hf
    refine sv_sub (lv' := [(0, .ref a0), (2, .int x2), (3, .int x3), (4, .ref a4)]) [0, 1, 2, 3] rfl ?_
    exact w_X8_send_76 C CX hZ hR hN hT o_a0 _ _ _ _ o_a4 hf
  · replace hf := sv_if_t c53 hf
    refine sv_iload_n 2 C dX8_send_56 rfl rfl ?_
    refine sv_if_lt (tgt := 66) C dX8_send_57 (by decide) (fun c57 => ?_) (fun c57 => ?_)
    · replace hf := sv_if_t c57 hf
      refine sv_sub (lv' := []) [] rfl ?_
      exact w_X8_send_66 C CX hZ hR hN hT o_a0 _ hf
    · replace hf := sv_if_f c57 hf
      refine sv_iload_n 2 C dX8_send_60 rfl rfl ?_
      refine sv_bipush (v := 9) C dX8_send_61 (by decide) ?_
      refine sv_icmp_le (tgt := 76) C dX8_send_63 (by decide) (fun c63 => ?_) (fun c63 => ?_)
      · replace hf := sv_if_t c63 hf
        refine sv_sub (lv' := [(0, .ref a0), (2, .int x2), (3, .int x3), (4, .ref a4)]) [0, 1, 2, 3] rfl ?_
        exact w_X8_send_76 C CX hZ hR hN hT o_a0 _ _ _ _ o_a4 hf
      · replace hf := sv_if_f c63 hf
        refine sv_sub (lv' := []) [] rfl ?_
        exact w_X8_send_66 C CX hZ hR hN hT o_a0 _ hf
set_option maxHeartbeats 4000000 in
set_option maxRecDepth 100000 in
theorem m_X8_send (l : Launch) (hl : l.stackTraces = false) (E : sv_E) (T : gh_T) (sz : Nat) (V : gh_V) (a0 : Nat) (x1 : Int32) (x2 : Int32) (x3 : Int32) (q : Int32 × Int32 × gh_V) (hf : f_X8_send T V a0 x1 x2 x3 = some q) (hT : gh_ok T) (o_a0 : gh_is T a0 8) : sv_MetX l E yX8_send cX8_send 6 (some .int) 6 134 [.ref a0, .int x1, .int x2, .int x3] (gh_w E T V) sz q.1 (some (.int q.2.1)) (gh_w E T q.2.2) := by
  refine sv_ofJX hl (by decide) (Nat.le_of_ble_eq_true rfl) ?_
  intro X hX hN hnm hR C CX hZ
  replace C : sv_C E X cX8_send RX8 [] := C
  show sv_J E X (gh_w E T V) sz 0 0 0 [(0, .ref a0), (1, .int x1), (2, .int x2), (3, .int x3)] []
  rw [f_X8_send] at hf
  refine sv_aload_n 0 C dX8_send_0 rfl rfl ?_
  obtain ⟨b1, hb1, hf⟩ := sv_bind_some hf
  have o_b1 : gh_is T b1 2 := gh_okr hT o_a0 rfl hb1
  refine gh_getr (d := 2) C fl_X8_63 o_a0 (by decide) (by decide) hb1 dX8_send_1 ?_
  refine sv_iload_n 1 C dX8_send_4 rfl rfl ?_
  obtain ⟨q5, hc5, hf⟩ := sv_bind_some hf
  refine gh_callV0 C mv_X8_113 (m_X2_at (sv_l X) E T sz _ _ _ _ hc5 hT o_b1) sv_sx0 o_b1 (by decide) rfl rfl rfl (Nat.le_of_ble_eq_true rfl) ⟨by rw [hR]; decide, by rw [hR]; decide⟩ ⟨by rw [hR]; decide, by rw [hR]; decide⟩ dX8_send_5 ?_
  cases hb5 : q5.1 with
  | none =>
    rw [hb5] at hf
    show sv_J E X (gh_w E T q5.2) sz 0 0 8 [(0, .ref a0), (1, .int x1), (2, .int x2), (3, .int x3)] [.null]
    refine sv_astoreN (lv' := [(4, .null), (0, .ref a0), (1, .int x1), (2, .int x2), (3, .int x3)]) C dX8_send_8 (by rw [hN]; decide) rfl ?_
    refine sv_aloadN 0 C dX8_send_10 rfl ?_
    refine sv_ifnonnullN C dX8_send_12 ?_
    exact sv_thr1 (i := 1) C CX (by cases hf; exact hZ) (by rfl) ⟨⟨by rw [hR]; decide, by rw [hR]; exact Nat.le_of_ble_eq_true rfl⟩, by rw [hR]; decide, by rw [hR]; decide⟩ dX8_send_15 dX8_send_18 dX8_send_19 dX8_send_21 dX8_send_24 kw_506 kw_507
  | some b5 =>
    rw [hb5] at hf
    obtain ⟨g5, hf⟩ := sv_g_some hf
    have o_b5 : gh_is T b5 7 := gh_isb_is g5
    show sv_J E X (gh_w E T q5.2) sz 0 0 8 [(0, .ref a0), (1, .int x1), (2, .int x2), (3, .int x3)] [.ref b5]
    refine sv_astore (lv' := [(4, .ref b5), (0, .ref a0), (1, .int x1), (2, .int x2), (3, .int x3)]) C dX8_send_8 (by rw [hN]; decide) rfl ?_
    refine sv_aload 0 C dX8_send_10 rfl ?_
    refine sv_ifnonnull (tgt := 25) C dX8_send_12 (by decide) ?_
    refine sv_iload_n 3 C dX8_send_25 rfl rfl ?_
    refine sv_iconst (v := 1) C dX8_send_26 (by decide) ?_
    refine sv_icmp_eq (tgt := 51) C dX8_send_27 (by decide) (fun c27 => ?_) (fun c27 => ?_)
    · replace hf := sv_if_t c27 hf
      refine sv_sub (lv' := [(0, .ref a0), (2, .int x2), (3, .int x3), (4, .ref b5)]) [1, 3, 4, 0] rfl ?_
      exact w_X8_send_51 C CX hZ hR hN hT o_a0 _ _ _ _ o_b5 hf
    · replace hf := sv_if_f c27 hf
      refine sv_iload_n 3 C dX8_send_30 rfl rfl ?_
      refine sv_iconst (v := 5) C dX8_send_31 (by decide) ?_
      refine sv_icmp_eq (tgt := 51) C dX8_send_32 (by decide) (fun c32 => ?_) (fun c32 => ?_)
      · replace hf := sv_if_t c32 hf
        refine sv_sub (lv' := [(0, .ref a0), (2, .int x2), (3, .int x3), (4, .ref b5)]) [1, 3, 4, 0] rfl ?_
        exact w_X8_send_51 C CX hZ hR hN hT o_a0 _ _ _ _ o_b5 hf
      · replace hf := sv_if_f c32 hf
        refine sv_iload_n 3 C dX8_send_35 rfl rfl ?_
        refine sv_bipush (v := 18) C dX8_send_36 (by decide) ?_
        refine sv_icmp_eq (tgt := 51) C dX8_send_38 (by decide) (fun c38 => ?_) (fun c38 => ?_)
        · replace hf := sv_if_t c38 hf
          refine sv_sub (lv' := [(0, .ref a0), (2, .int x2), (3, .int x3), (4, .ref b5)]) [1, 3, 4, 0] rfl ?_
          exact w_X8_send_51 C CX hZ hR hN hT o_a0 _ _ _ _ o_b5 hf
        · replace hf := sv_if_f c38 hf
          exact sv_thr2 (i := 4) C CX (by cases hf; exact hZ) (by rfl) ⟨⟨by rw [hR]; decide, by rw [hR]; exact Nat.le_of_ble_eq_true rfl⟩, by rw [hR]; decide, by rw [hR]; decide⟩ dX8_send_41 dX8_send_44 dX8_send_45 dX8_send_47 dX8_send_50 kw_531 kw_532
