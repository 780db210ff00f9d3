def f_X9_bits_42 (B : md_B) : Option (Int32 × md_B) :=
  (f_X9_refuse B 1).bind (fun q44 =>
    some (q44.1, q44.2))
def f_X9_bits (B : md_B) (x1 : Int32) (x2 : Int32) : Option (Int32 × md_B) :=
  if ((md_pf B 0 0).1 27) = 0 then
    f_X9_bits_42 (md_pf B 0 0)
  else
    (f_X9_in (md_pf B 0 0) x2.toInt64 1 32).bind (fun q18 =>
      if q18.1 = 0 then
        f_X9_bits_42 q18.2
      else
        if x1 < 0 then
          f_X9_bits_42 q18.2
        else
          if (lg_cmp (x1.toInt64 + x2.toInt64) ((q18.2.1 26).toInt64)) ≤ 0 then
            (f_X9_read q18.2 x1 x2).bind (fun q51 =>
              some (q51.1, q51.2))
          else
            f_X9_bits_42 q18.2)
set_option maxHeartbeats 4000000 in
set_option maxRecDepth 100000 in
theorem w_X9_bits_42 {E : sv_E} {X : sv_X} {sz : Nat} {q : Int32 × md_B} {h0 : Nat} {ad : Nat → Nat} (C : sv_C E X cX9_bits RX9 []) (hZ : sv_Z E X (some .int) (some (.int q.1)) (md_w E h0 ad q.2) sz 0 0) (hR : sv_R X = { frames := 1, cells := 0, slots := 0, locals := 25 }) (hN : sv_nL X = 3) (B : md_B) (hf : f_X9_bits_42 B = some q) : sv_J E X (md_w E h0 ad B) sz 0 0 42 [(0, .ref h0)] [] := by
  rw [f_X9_bits_42] at hf
  refine sv_aload_n 0 C dX9_bits_42 rfl rfl ?_
  refine sv_iconst (v := 1) C dX9_bits_43 (by decide) ?_
  obtain ⟨q44, hc44, hf⟩ := sv_bind_some hf
  refine sv_callV0 C mv_X9_343 (m_X9_refuse (sv_l X) E h0 ad sz _ _ _ hc44) sv_sx0 0 rfl rfl rfl rfl (Nat.le_of_ble_eq_true rfl) ⟨by rw [hR]; decide, by rw [hR]; decide⟩ ⟨by rw [hR]; decide, by rw [hR]; decide⟩ dX9_bits_44 ?_
  exact sv_iret C (by cases hf; exact hZ) dX9_bits_47
set_option maxHeartbeats 4000000 in
set_option maxRecDepth 100000 in
theorem m_X9_bits (l : Launch) (E : sv_E) (h0 : Nat) (ad : Nat → Nat) (sz : Nat) (B : md_B) (x1 : Int32) (x2 : Int32) (q : Int32 × md_B) (hf : f_X9_bits B x1 x2 = some q) : sv_Met l E yX9_bits cX9_bits 3 (some .int) 1 25 [] [.ref h0, .int x1, .int x2] (md_w E h0 ad B) sz (some (.int q.1)) (md_w E h0 ad q.2) sz 0 0 := by
  refine sv_ofJ (by decide) (Nat.le_of_ble_eq_true rfl) ?_
  intro X hX hN hnm hR C hZ
  replace C : sv_C E X cX9_bits RX9 [] := C
  show sv_J E X (md_w E h0 ad B) sz 0 0 0 [(0, .ref h0), (1, .int x1), (2, .int x2)] []
  rw [f_X9_bits] at hf
  refine sv_aload_n 0 C dX9_bits_0 rfl rfl ?_
  refine sv_iconst (v := 0) C dX9_bits_1 (by decide) ?_
  refine md_puti C fl_X9_1 (by decide) rfl rfl dX9_bits_2 ?_
  refine sv_aload_n 0 C dX9_bits_5 rfl rfl ?_
  refine md_geti C fl_X9_280 (by decide) dX9_bits_6 ?_
  refine sv_if_eq (tgt := 42) C dX9_bits_9 (by decide) (fun c9 => ?_) (fun c9 => ?_)
  · replace hf := sv_if_t c9 hf
    refine sv_sub (lv' := [(0, .ref h0)]) [0] rfl ?_
    exact w_X9_bits_42 C hZ hR hN _ hf
  · replace hf := sv_if_f c9 hf
    refine sv_iload_n 2 C dX9_bits_12 rfl rfl ?_
    refine sv_i2l C dX9_bits_13 ?_
    refine sv_lconst (v := 1) C dX9_bits_14 (by decide) ?_
    refine sv_ldc2 C kw_776 dX9_bits_15 ?_
    obtain ⟨q18, hc18, hf⟩ := sv_bind_some hf
    refine sv_callS0 C ms_X9_74 (m_X9_in (sv_l X) E h0 ad sz _ _ _ _ _ hc18) sv_sx0 rfl rfl (Nat.le_of_ble_eq_true rfl) ⟨by rw [hR]; decide, by rw [hR]; decide⟩ ⟨by rw [hR]; decide, by rw [hR]; decide⟩ dX9_bits_18 ?_
    refine sv_if_eq (tgt := 42) C dX9_bits_21 (by decide) (fun c21 => ?_) (fun c21 => ?_)
    · replace hf := sv_if_t c21 hf
      refine sv_sub (lv' := [(0, .ref h0)]) [0] rfl ?_
      exact w_X9_bits_42 C hZ hR hN _ hf
    · replace hf := sv_if_f c21 hf
      refine sv_iload_n 1 C dX9_bits_24 rfl rfl ?_
      refine sv_if_lt (tgt := 42) C dX9_bits_25 (by decide) (fun c25 => ?_) (fun c25 => ?_)
      · replace hf := sv_if_t c25 hf
        refine sv_sub (lv' := [(0, .ref h0)]) [0] rfl ?_
        exact w_X9_bits_42 C hZ hR hN _ hf
      · replace hf := sv_if_f c25 hf
        refine sv_iload_n 1 C dX9_bits_28 rfl rfl ?_
        refine sv_i2l C dX9_bits_29 ?_
        refine sv_iload_n 2 C dX9_bits_30 rfl rfl ?_
        refine sv_i2l C dX9_bits_31 ?_
        refine sv_ladd C dX9_bits_32 ?_
        refine sv_aload_n 0 C dX9_bits_33 rfl rfl ?_
        refine md_geti C fl_X9_277 (by decide) dX9_bits_34 ?_
        refine sv_i2l C dX9_bits_37 ?_
        refine sv_lcmp C dX9_bits_38 ?_
        refine sv_if_le (tgt := 48) C dX9_bits_39 (by decide) (fun c39 => ?_) (fun c39 => ?_)
        · replace hf := sv_if_t c39 hf
          refine sv_aload_n 0 C dX9_bits_48 rfl rfl ?_
          refine sv_iload_n 1 C dX9_bits_49 rfl rfl ?_
          refine sv_iload_n 2 C dX9_bits_50 rfl rfl ?_
          obtain ⟨q51, hc51, hf⟩ := sv_bind_some hf
          refine sv_callV0 C mv_X9_286 (m_X9_read (sv_l X) E h0 ad sz _ _ _ _ hc51) sv_sx0 0 rfl rfl rfl rfl (Nat.le_of_ble_eq_true rfl) ⟨by rw [hR]; decide, by rw [hR]; decide⟩ ⟨by rw [hR]; decide, by rw [hR]; decide⟩ dX9_bits_51 ?_
          exact sv_iret C (by cases hf; exact hZ) dX9_bits_54
        · replace hf := sv_if_f c39 hf
          refine sv_sub (lv' := [(0, .ref h0)]) [0] rfl ?_
          exact w_X9_bits_42 C hZ hR hN _ hf
def f_X9_write_37 (B : md_B) (s0 : Int32) : Option (md_B) :=
  some (md_pf B 37 s0)
def f_X9_write (B : md_B) (x1 : Int32) : Option (md_B) :=
  sv_g (sv_inb (B.1 4) 200) (
    if x1 = 33 then
      f_X9_write_37 (md_pf (md_pa B 3 (B.1 4) x1) 4 (((md_pa B 3 (B.1 4) x1).1 4) + 1)) 0
    else
      f_X9_write_37 (md_pf (md_pa B 3 (B.1 4) x1) 4 (((md_pa B 3 (B.1 4) x1).1 4) + 1)) (((md_pf (md_pa B 3 (B.1 4) x1) 4 (((md_pa B 3 (B.1 4) x1).1 4) + 1)).1 37) ^^^ x1))
set_option maxHeartbeats 4000000 in
set_option maxRecDepth 100000 in
theorem w_X9_write_37 {E : sv_E} {X : sv_X} {sz : Nat} {q : md_B} {h0 : Nat} {ad : Nat → Nat} (C : sv_C E X cX9_write RX9 []) (hZ : sv_Z E X none none (md_w E h0 ad q) sz 0 0) (hR : sv_R X = { frames := 0, cells := 0, slots := 0, locals := 0 }) (hN : sv_nL X = 2) (B : md_B) (s0 : Int32) (hf : f_X9_write_37 B s0 = some q) : sv_J E X (md_w E h0 ad B) sz 0 0 37 [] [.int s0, .ref h0] := by
  rw [f_X9_write_37] at hf
  refine md_puti C fl_X9_355 (by decide) rfl rfl dX9_write_37 ?_
  exact sv_vret C (by cases hf; exact hZ) dX9_write_40
set_option maxHeartbeats 4000000 in
set_option maxRecDepth 100000 in
theorem m_X9_write (l : Launch) (E : sv_E) (h0 : Nat) (ad : Nat → Nat) (sz : Nat) (B : md_B) (x1 : Int32) (q : md_B) (hf : f_X9_write B x1 = some q) : sv_Met l E yX9_write cX9_write 2 none 0 0 [] [.ref h0, .int x1] (md_w E h0 ad B) sz none (md_w E h0 ad q) sz 0 0 := by
  refine sv_ofJ (by decide) (Nat.le_of_ble_eq_true rfl) ?_
  intro X hX hN hnm hR C hZ
  replace C : sv_C E X cX9_write RX9 [] := C
  show sv_J E X (md_w E h0 ad B) sz 0 0 0 [(0, .ref h0), (1, .int x1)] []
  rw [f_X9_write] at hf
  refine sv_aload_n 0 C dX9_write_0 rfl rfl ?_
  refine md_getr C fl_X9_17 (by decide) dX9_write_1 ?_
  refine sv_aload_n 0 C dX9_write_4 rfl rfl ?_
  refine md_geti C fl_X9_338 (by decide) dX9_write_5 ?_
  refine sv_iload_n 1 C dX9_write_8 rfl rfl ?_
  obtain ⟨g9, hf⟩ := sv_g_some hf
  refine md_iast C 1 rfl g9 dX9_write_9 ?_
  refine sv_aload_n 0 C dX9_write_10 rfl rfl ?_
  refine sv_dup C dX9_write_11 rfl ?_
  refine md_geti C fl_X9_338 (by decide) dX9_write_12 ?_
  refine sv_iconst (v := 1) C dX9_write_15 (by decide) ?_
  refine sv_iadd C dX9_write_16 ?_
  refine md_puti C fl_X9_338 (by decide) rfl rfl dX9_write_17 ?_
  refine sv_aload_n 0 C dX9_write_20 rfl rfl ?_
  refine sv_iload_n 1 C dX9_write_21 rfl rfl ?_
  refine sv_bipush (v := 33) C dX9_write_22 (by decide) ?_
  refine sv_icmp_ne (tgt := 31) C dX9_write_24 (by decide) (fun c24 => ?_) (fun c24 => ?_)
  · replace hf := sv_if_f c24 hf
    refine sv_aload_n 0 C dX9_write_31 rfl rfl ?_
    refine md_geti C fl_X9_355 (by decide) dX9_write_32 ?_
    refine sv_iload_n 1 C dX9_write_35 rfl rfl ?_
    refine sv_ixor C dX9_write_36 ?_
    refine sv_sub (lv' := []) [] rfl ?_
    exact w_X9_write_37 C hZ hR hN _ _ hf
  · replace hf := sv_if_t c24 hf
    refine sv_iconst (v := 0) C dX9_write_27 (by decide) ?_
    refine sv_goto (tgt := 37) C dX9_write_28 (by decide) ?_
    refine sv_sub (lv' := []) [] rfl ?_
    exact w_X9_write_37 C hZ hR hN _ _ hf
def f_X9_writeAll_2 (t1 : List Int32) : Nat → md_B → Int32 → Option (md_B)
  | 0, _, _ => none
  | n + 1, B, x2 =>
    (f_J0_length_8abf5 t1).bind (fun q4 =>
      if q4 ≤ x2 then
        some (B)
      else
        (f_J0_charAt_5068e t1 x2).bind (fun q13 =>
          (f_X9_write B q13).bind (fun q16 =>
            (f_X9_writeAll_2 t1 n) q16 (x2 + 1))))
def f_X9_writeAll (B : md_B) (t1 : List Int32) : Option (md_B) :=
  f_X9_writeAll_2 t1 sv_fu B 0
set_option maxHeartbeats 4000000 in
set_option maxRecDepth 100000 in
theorem w_X9_writeAll_2 {E : sv_E} {X : sv_X} {sz : Nat} {q : md_B} {h0 : Nat} {ad : Nat → Nat} {k1 v1 : Nat} {t1 : List Int32} (C : sv_C E X cX9_writeAll RX9 [(k1, v1, t1)]) (hZ : sv_Z E X none none (md_w E h0 ad q) sz 0 0) (hR : sv_R X = { frames := 4, cells := 0, slots := 0, locals := 85 }) (hN : sv_nL X = 3) : ∀ (n : Nat) (B : md_B) (x2 : Int32), f_X9_writeAll_2 t1 n B x2 = some q → sv_J E X (md_w E h0 ad B) sz 0 0 2 [(0, .ref h0), (1, .ref k1), (2, .int x2)] [] := by
  intro n
  induction n with
  | zero =>
    intro B x2 hf
    rw [f_X9_writeAll_2] at hf
    cases hf
  | succ n ih =>
    intro B x2 hf
    rw [f_X9_writeAll_2] at hf
    refine sv_iload_n 2 C dX9_writeAll_2 rfl rfl ?_
    refine sv_aload_n 1 C dX9_writeAll_3 rfl rfl ?_
    obtain ⟨q4, hc4, hf⟩ := sv_bind_some hf
    refine ss_callV (v := v1) (t := t1) C mv_X9_187 (m_J0_length_8abf5 (sv_l X) E _ sz k1 v1 _ _ hc4) sv_sx1 (List.mem_cons_self) rfl rfl rfl (Nat.le_of_ble_eq_true rfl) ⟨by rw [hR]; decide, by rw [hR]; decide⟩ ⟨by rw [hR]; decide, by rw [hR]; decide⟩ dX9_writeAll_4 ?_
    refine sv_icmp_ge (tgt := 25) C dX9_writeAll_7 (by decide) (fun c7 => ?_) (fun c7 => ?_)
    · replace hf := sv_if_t c7 hf
      exact sv_vret C (by cases hf; exact hZ) dX9_writeAll_25
    · replace hf := sv_if_f c7 hf
      refine sv_aload_n 0 C dX9_writeAll_10 rfl rfl ?_
      refine sv_aload_n 1 C dX9_writeAll_11 rfl rfl ?_
      refine sv_iload_n 2 C dX9_writeAll_12 rfl rfl ?_
      obtain ⟨q13, hc13, hf⟩ := sv_bind_some hf
      refine ss_callV (v := v1) (t := t1) C mv_X9_127 (m_J0_charAt_5068e (sv_l X) E _ sz k1 v1 _ _ _ hc13) sv_sx1 (List.mem_cons_self) rfl rfl rfl (Nat.le_of_ble_eq_true rfl) ⟨by rw [hR]; decide, by rw [hR]; decide⟩ ⟨by rw [hR]; decide, by rw [hR]; decide⟩ dX9_writeAll_13 ?_
      obtain ⟨q16, hc16, hf⟩ := sv_bind_some hf
      refine sv_callV0 C mv_X9_358 (m_X9_write (sv_l X) E h0 ad sz _ _ _ hc16) sv_sx0 0 rfl rfl rfl rfl (Nat.le_of_ble_eq_true rfl) ⟨by rw [hR]; decide, by rw [hR]; decide⟩ ⟨by rw [hR]; decide, by rw [hR]; decide⟩ dX9_writeAll_16 ?_
      refine sv_iinc (v := x2 + 1) (lv' := [(2, .int (x2 + 1)), (0, .ref h0), (1, .ref k1)]) 2 C dX9_writeAll_19 rfl rfl (by rw [hN]; decide) rfl ?_
      refine sv_goto (tgt := 2) C dX9_writeAll_22 (by decide) ?_
      refine sv_sub (lv' := [(0, .ref h0), (1, .ref k1), (2, .int (x2 + 1))]) [1, 2, 0] rfl ?_
      exact ih _ _ hf
set_option maxHeartbeats 4000000 in
set_option maxRecDepth 100000 in
theorem m_X9_writeAll (l : Launch) (E : sv_E) (h0 : Nat) (ad : Nat → Nat) (sz : Nat) (k1 v1 : Nat) (B : md_B) (t1 : List Int32) (q : md_B) (hf : f_X9_writeAll B t1 = some q) : sv_Met l E yX9_writeAll cX9_writeAll 3 none 4 85 [(k1, v1, t1)] [.ref h0, .ref k1] (md_w E h0 ad B) sz none (md_w E h0 ad q) sz 0 0 := by
  refine sv_ofJ (by decide) (Nat.le_of_ble_eq_true rfl) ?_
  intro X hX hN hnm hR C hZ
  replace C : sv_C E X cX9_writeAll RX9 [(k1, v1, t1)] := C
  show sv_J E X (md_w E h0 ad B) sz 0 0 0 [(0, .ref h0), (1, .ref k1)] []
  rw [f_X9_writeAll] at hf
  refine sv_iconst (v := 0) C dX9_writeAll_0 (by decide) ?_
  refine sv_istore_n (lv' := [(2, .int 0), (0, .ref h0), (1, .ref k1)]) C dX9_writeAll_1 rfl (by rw [hN]; decide) rfl ?_
  refine sv_sub (lv' := [(0, .ref h0), (1, .ref k1), (2, .int 0)]) [1, 2, 0] rfl ?_
  exact w_X9_writeAll_2 C hZ hR hN sv_fu _ _ hf
def f_X9_hexOf (B : md_B) (x0 : Int32) : Option (Int32 × md_B) :=
  if 10 ≤ x0 then
    some ((65 + x0) - 10, B)
  else
    some (48 + x0, B)
set_option maxHeartbeats 4000000 in
set_option maxRecDepth 100000 in
theorem m_X9_hexOf (l : Launch) (E : sv_E) (h0 : Nat) (ad : Nat → Nat) (sz : Nat) (B : md_B) (x0 : Int32) (q : Int32 × md_B) (hf : f_X9_hexOf B x0 = some q) : sv_Met l E yX9_hexOf cX9_hexOf 1 (some .int) 0 0 [] [.int x0] (md_w E h0 ad B) sz (some (.int q.1)) (md_w E h0 ad q.2) sz 0 0 := by
  refine sv_ofJ (by decide) (Nat.le_of_ble_eq_true rfl) ?_
  intro X hX hN hnm hR C hZ
  replace C : sv_C E X cX9_hexOf RX9 [] := C
  show sv_J E X (md_w E h0 ad B) sz 0 0 0 [(0, .int x0)] []
  rw [f_X9_hexOf] at hf
  refine sv_iload_n 0 C dX9_hexOf_0 rfl rfl ?_
  refine sv_bipush (v := 10) C dX9_hexOf_1 (by decide) ?_
  refine sv_icmp_ge (tgt := 13) C dX9_hexOf_3 (by decide) (fun c3 => ?_) (fun c3 => ?_)
  · replace hf := sv_if_t c3 hf
    refine sv_bipush (v := 65) C dX9_hexOf_13 (by decide) ?_
    refine sv_iload_n 0 C dX9_hexOf_15 rfl rfl ?_
    refine sv_iadd C dX9_hexOf_16 ?_
    refine sv_bipush (v := 10) C dX9_hexOf_17 (by decide) ?_
    refine sv_isub C dX9_hexOf_19 ?_
    exact sv_iret C (by cases hf; exact hZ) dX9_hexOf_20
  · replace hf := sv_if_f c3 hf
    refine sv_bipush (v := 48) C dX9_hexOf_6 (by decide) ?_
    refine sv_iload_n 0 C dX9_hexOf_8 rfl rfl ?_
    refine sv_iadd C dX9_hexOf_9 ?_
    refine sv_goto (tgt := 20) C dX9_hexOf_10 (by decide) ?_
    exact sv_iret C (by cases hf; exact hZ) dX9_hexOf_20
def f_X9_sentence_125 (k66 : md_B → Int32 → Int32 → Int32 → Int32 → Option (md_B)) (k83 : md_B → Int32 → Int32 → Int32 → Int32 → Int32 → Int32 → Option (md_B)) (B : md_B) (x4 : Int32) (x5 : Int32) (x6 : Int32) (x7 : Int32) (x9 : Int32) (s0 : Int32) (s1 : Int32) : Option (md_B) :=
  k83 B x4 x5 x6 x7 (s1 + s0) (x9 + 1)
def f_X9_sentence_124 (k66 : md_B → Int32 → Int32 → Int32 → Int32 → Option (md_B)) (k83 : md_B → Int32 → Int32 → Int32 → Int32 → Int32 → Int32 → Option (md_B)) (B : md_B) (x4 : Int32) (x5 : Int32) (x6 : Int32) (x7 : Int32) (x9 : Int32) (s0 : Int32) : Option (md_B) :=
  f_X9_sentence_125 k66 k83 B x4 x5 x6 x7 x9 0 s0
def f_X9_sentence_155 (k66 : md_B → Int32 → Int32 → Int32 → Int32 → Option (md_B)) (B : md_B) (x4 : Int32) (x5 : Int32) (x6 : Int32) (x7 : Int32) (s0 : Int32) : Option (md_B) :=
  (f_X9_write B s0).bind (fun q155 =>
    k66 q155 x4 x5 x6 (x7 + 1))
def f_X9_sentence_83 (k66 : md_B → Int32 → Int32 → Int32 → Int32 → Option (md_B)) : Nat → md_B → Int32 → Int32 → Int32 → Int32 → Int32 → Int32 → Option (md_B)
  | 0, _, _, _, _, _, _, _ => none
  | n + 1, B, x4, x5, x6, x7, x8, x9 =>
    if ((6 * x7) + 6) ≤ x9 then
      if 40 ≤ x8 then
        f_X9_sentence_155 k66 B x4 x5 x6 x7 (x8 + 56)
      else
        f_X9_sentence_155 k66 B x4 x5 x6 x7 (x8 + 48)
    else
      if x5 ≤ x9 then
        f_X9_sentence_124 k66 (f_X9_sentence_83 k66 n) B x4 x5 x6 x7 x9 (2 * x8)
      else
        sv_g (sv_inb (x4 + x9) 424) (
          if (B.2 35 (x4 + x9).toNatClampNeg) = 0 then
            f_X9_sentence_124 k66 (f_X9_sentence_83 k66 n) B x4 x5 x6 x7 x9 (2 * x8)
          else
            f_X9_sentence_125 k66 (f_X9_sentence_83 k66 n) B x4 x5 x6 x7 x9 1 (2 * x8))
def f_X9_sentence_66 : Nat → md_B → Int32 → Int32 → Int32 → Int32 → Option (md_B)
  | 0, _, _, _, _, _ => none
  | n + 1, B, x4, x5, x6, x7 =>
    if x6 ≤ x7 then
      (f_X9_write B 44).bind (fun q167 =>
        (f_X9_write q167 ((48 + (6 * x6)) - x5)).bind (fun q182 =>
          (f_X9_write q182 42).bind (fun q194 =>
            (f_X9_hexOf q194 ((q182.1 37) >>> (4 &&& 31))).bind (fun q202 =>
              (f_X9_write q202.2 q202.1).bind (fun q205 =>
                (f_X9_hexOf q205 ((q182.1 37) &&& 15)).bind (fun q214 =>
                  (f_X9_write q214.2 q214.1).bind (fun q217 =>
                    (f_X9_write q217 13).bind (fun q223 =>
                      (f_X9_write q223 10).bind (fun q229 =>
                        some (q229))))))))))
    else
      f_X9_sentence_83 (f_X9_sentence_66 n) sv_fu B x4 x5 x6 x7 0 (6 * x7)
def f_X9_sentence_47 (B : md_B) (x4 : Int32) (x5 : Int32) : Option (md_B) :=
  (f_X9_writeAll B ([44, 65, 44])).bind (fun q51 =>
    f_X9_sentence_66 sv_fu q51 x4 x5 ((x5 + 5) / 6) 0)
def f_X9_sentence (B : md_B) (x1 : Int32) (x2 : Int32) (x3 : Int32) (x4 : Int32) (x5 : Int32) : Option (md_B) :=
  (f_X9_writeAll B ([33, 65, 73, 86, 68, 77, 44])).bind (fun q4 =>
    (f_X9_write q4 (48 + x1)).bind (fun q12 =>
      (f_X9_write q12 44).bind (fun q18 =>
        (f_X9_write q18 (48 + x2)).bind (fun q26 =>
          (f_X9_write q26 44).bind (fun q32 =>
            if x3 < 0 then
              f_X9_sentence_47 q32 x4 x5
            else
              (f_X9_write q32 (48 + x3)).bind (fun q44 =>
                f_X9_sentence_47 q44 x4 x5))))))
set_option maxHeartbeats 4000000 in
set_option maxRecDepth 100000 in
theorem w_X9_sentence_125 {E : sv_E} {X : sv_X} {sz : Nat} {q : md_B} {h0 : Nat} {ad : Nat → Nat} (C : sv_C E X cX9_sentence RX9 []) (hZ : sv_Z E X none none (md_w E h0 ad q) sz 0 0) (hR : sv_R X = { frames := 5, cells := 0, slots := 0, locals := 107 }) (hN : sv_nL X = 10) {k66 : md_B → Int32 → Int32 → Int32 → Int32 → Option (md_B)} (hk66 : ∀ (B : md_B) (x4 : Int32) (x5 : Int32) (x6 : Int32) (x7 : Int32), k66 B x4 x5 x6 x7 = some q → sv_J E X (md_w E h0 ad B) sz 0 0 66 [(0, .ref h0), (4, .int x4), (5, .int x5), (6, .int x6), (7, .int x7)] []) {k83 : md_B → Int32 → Int32 → Int32 → Int32 → Int32 → Int32 → Option (md_B)} (hk83 : ∀ (B : md_B) (x4 : Int32) (x5 : Int32) (x6 : Int32) (x7 : Int32) (x8 : Int32) (x9 : Int32), k83 B x4 x5 x6 x7 x8 x9 = some q → sv_J E X (md_w E h0 ad B) sz 0 0 83 [(0, .ref h0), (4, .int x4), (5, .int x5), (6, .int x6), (7, .int x7), (8, .int x8), (9, .int x9)] []) (B : md_B) (x4 : Int32) (x5 : Int32) (x6 : Int32) (x7 : Int32) (x9 : Int32) (s0 : Int32) (s1 : Int32) (hf : f_X9_sentence_125 k66 k83 B x4 x5 x6 x7 x9 s0 s1 = some q) : sv_J E X (md_w E h0 ad B) sz 0 0 125 [(0, .ref h0), (4, .int x4), (5, .int x5), (6, .int x6), (7, .int x7), (9, .int x9)] [.int s0, .int s1] := by
  rw [f_X9_sentence_125] at hf
  refine sv_iadd C dX9_sentence_125 ?_
  refine sv_istore (lv' := [(8, .int (s1 + s0)), (0, .ref h0), (4, .int x4), (5, .int x5), (6, .int x6), (7, .int x7), (9, .int x9)]) C dX9_sentence_126 (by rw [hN]; decide) rfl ?_
  refine sv_iinc (v := x9 + 1) (lv' := [(9, .int (x9 + 1)), (8, .int (s1 + s0)), (0, .ref h0), (4, .int x4), (5, .int x5), (6, .int x6), (7, .int x7)]) 6 C dX9_sentence_128 rfl rfl (by rw [hN]; decide) rfl ?_
  refine sv_goto (tgt := 83) C dX9_sentence_131 (by decide) ?_
  refine sv_sub (lv' := [(0, .ref h0), (4, .int x4), (5, .int x5), (6, .int x6), (7, .int x7), (8, .int (s1 + s0)), (9, .int (x9 + 1))]) [2, 3, 4, 5, 6, 1, 0] rfl ?_
  exact hk83 _ _ _ _ _ _ _ hf
set_option maxHeartbeats 4000000 in
set_option maxRecDepth 100000 in
theorem w_X9_sentence_124 {E : sv_E} {X : sv_X} {sz : Nat} {q : md_B} {h0 : Nat} {ad : Nat → Nat} (C : sv_C E X cX9_sentence RX9 []) (hZ : sv_Z E X none none (md_w E h0 ad q) sz 0 0) (hR : sv_R X = { frames := 5, cells := 0, slots := 0, locals := 107 }) (hN : sv_nL X = 10) {k66 : md_B → Int32 → Int32 → Int32 → Int32 → Option (md_B)} (hk66 : ∀ (B : md_B) (x4 : Int32) (x5 : Int32) (x6 : Int32) (x7 : Int32), k66 B x4 x5 x6 x7 = some q → sv_J E X (md_w E h0 ad B) sz 0 0 66 [(0, .ref h0), (4, .int x4), (5, .int x5), (6, .int x6), (7, .int x7)] []) {k83 : md_B → Int32 → Int32 → Int32 → Int32 → Int32 → Int32 → Option (md_B)} (hk83 : ∀ (B : md_B) (x4 : Int32) (x5 : Int32) (x6 : Int32) (x7 : Int32) (x8 : Int32) (x9 : Int32), k83 B x4 x5 x6 x7 x8 x9 = some q → sv_J E X (md_w E h0 ad B) sz 0 0 83 [(0, .ref h0), (4, .int x4), (5, .int x5), (6, .int x6), (7, .int x7), (8, .int x8), (9, .int x9)] []) (B : md_B) (x4 : Int32) (x5 : Int32) (x6 : Int32) (x7 : Int32) (x9 : Int32) (s0 : Int32) (hf : f_X9_sentence_124 k66 k83 B x4 x5 x6 x7 x9 s0 = some q) : sv_J E X (md_w E h0 ad B) sz 0 0 124 [(0, .ref h0), (4, .int x4), (5, .int x5), (6, .int x6), (7, .int x7), (9, .int x9)] [.int s0] := by
  rw [f_X9_sentence_124] at hf
  refine sv_iconst (v := 0) C dX9_sentence_124 (by decide) ?_
  refine sv_sub (lv' := [(0, .ref h0), (4, .int x4), (5, .int x5), (6, .int x6), (7, .int x7), (9, .int x9)]) [0, 1, 2, 3, 4, 5] rfl ?_
  exact w_X9_sentence_125 C hZ hR hN hk66 hk83 _ _ _ _ _ _ _ _ hf
set_option maxHeartbeats 4000000 in
set_option maxRecDepth 100000 in
theorem w_X9_sentence_155 {E : sv_E} {X : sv_X} {sz : Nat} {q : md_B} {h0 : Nat} {ad : Nat → Nat} (C : sv_C E X cX9_sentence RX9 []) (hZ : sv_Z E X none none (md_w E h0 ad q) sz 0 0) (hR : sv_R X = { frames := 5, cells := 0, slots := 0, locals := 107 }) (hN : sv_nL X = 10) {k66 : md_B → Int32 → Int32 → Int32 → Int32 → Option (md_B)} (hk66 : ∀ (B : md_B) (x4 : Int32) (x5 : Int32) (x6 : Int32) (x7 : Int32), k66 B x4 x5 x6 x7 = some q → sv_J E X (md_w E h0 ad B) sz 0 0 66 [(0, .ref h0), (4, .int x4), (5, .int x5), (6, .int x6), (7, .int x7)] []) (B : md_B) (x4 : Int32) (x5 : Int32) (x6 : Int32) (x7 : Int32) (s0 : Int32) (hf : f_X9_sentence_155 k66 B x4 x5 x6 x7 s0 = some q) : sv_J E X (md_w E h0 ad B) sz 0 0 155 [(0, .ref h0), (4, .int x4), (5, .int x5), (6, .int x6), (7, .int x7)] [.int s0, .ref h0] := by
  rw [f_X9_sentence_155] at hf
  obtain ⟨q155, hc155, hf⟩ := sv_bind_some hf
  refine sv_callV0 C mv_X9_358 (m_X9_write (sv_l X) E h0 ad sz _ _ _ hc155) sv_sx0 0 rfl rfl rfl rfl (Nat.le_of_ble_eq_true rfl) ⟨by rw [hR]; decide, by rw [hR]; decide⟩ ⟨by rw [hR]; decide, by rw [hR]; decide⟩ dX9_sentence_155 ?_
  refine sv_iinc (v := x7 + 1) (lv' := [(7, .int (x7 + 1)), (0, .ref h0), (4, .int x4), (5, .int x5), (6, .int x6)]) 4 C dX9_sentence_158 rfl rfl (by rw [hN]; decide) rfl ?_
  refine sv_goto (tgt := 66) C dX9_sentence_161 (by decide) ?_
  refine sv_sub (lv' := [(0, .ref h0), (4, .int x4), (5, .int x5), (6, .int x6), (7, .int (x7 + 1))]) [1, 2, 3, 4, 0] rfl ?_
  exact hk66 _ _ _ _ _ hf
set_option maxHeartbeats 4000000 in
set_option maxRecDepth 100000 in
theorem w_X9_sentence_83 {E : sv_E} {X : sv_X} {sz : Nat} {q : md_B} {h0 : Nat} {ad : Nat → Nat} (C : sv_C E X cX9_sentence RX9 []) (hZ : sv_Z E X none none (md_w E h0 ad q) sz 0 0) (hR : sv_R X = { frames := 5, cells := 0, slots := 0, locals := 107 }) (hN : sv_nL X = 10) {k66 : md_B → Int32 → Int32 → Int32 → Int32 → Option (md_B)} (hk66 : ∀ (B : md_B) (x4 : Int32) (x5 : Int32) (x6 : Int32) (x7 : Int32), k66 B x4 x5 x6 x7 = some q → sv_J E X (md_w E h0 ad B) sz 0 0 66 [(0, .ref h0), (4, .int x4), (5, .int x5), (6, .int x6), (7, .int x7)] []) : ∀ (n : Nat) (B : md_B) (x4 : Int32) (x5 : Int32) (x6 : Int32) (x7 : Int32) (x8 : Int32) (x9 : Int32), f_X9_sentence_83 k66 n B x4 x5 x6 x7 x8 x9 = some q → sv_J E X (md_w E h0 ad B) sz 0 0 83 [(0, .ref h0), (4, .int x4), (5, .int x5), (6, .int x6), (7, .int x7), (8, .int x8), (9, .int x9)] [] := by
  intro n
  induction n with
  | zero =>
    intro B x4 x5 x6 x7 x8 x9 hf
    rw [f_X9_sentence_83] at hf
    cases hf
  | succ n ih =>
    intro B x4 x5 x6 x7 x8 x9 hf
    rw [f_X9_sentence_83] at hf
    refine sv_iload 6 C dX9_sentence_83 rfl ?_
    refine sv_bipush (v := 6) C dX9_sentence_85 (by decide) ?_
    refine sv_iload 4 C dX9_sentence_87 rfl ?_
    refine sv_imul C dX9_sentence_89 ?_
    refine sv_bipush (v := 6) C dX9_sentence_90 (by decide) ?_
    refine sv_iadd C dX9_sentence_92 ?_
    refine sv_icmp_ge (tgt := 134) C dX9_sentence_93 (by decide) (fun c93 => ?_) (fun c93 => ?_)
    · replace hf := sv_if_t c93 hf
      refine sv_aload_n 0 C dX9_sentence_134 rfl rfl ?_
      refine sv_iload 5 C dX9_sentence_135 rfl ?_
      refine sv_bipush (v := 40) C dX9_sentence_137 (by decide) ?_
      refine sv_icmp_ge (tgt := 150) C dX9_sentence_139 (by decide) (fun c139 => ?_) (fun c139 => ?_)
      · replace hf := sv_if_t c139 hf
        refine sv_iload 5 C dX9_sentence_150 rfl ?_
        refine sv_bipush (v := 56) C dX9_sentence_152 (by decide) ?_
        refine sv_iadd C dX9_sentence_154 ?_
        refine sv_sub (lv' := [(0, .ref h0), (4, .int x4), (5, .int x5), (6, .int x6), (7, .int x7)]) [0, 1, 2, 3, 4] rfl ?_
        exact w_X9_sentence_155 C hZ hR hN hk66 _ _ _ _ _ _ hf
      · replace hf := sv_if_f c139 hf
        refine sv_iload 5 C dX9_sentence_142 rfl ?_
        refine sv_bipush (v := 48) C dX9_sentence_144 (by decide) ?_
        refine sv_iadd C dX9_sentence_146 ?_
        refine sv_goto (tgt := 155) C dX9_sentence_147 (by decide) ?_
        refine sv_sub (lv' := [(0, .ref h0), (4, .int x4), (5, .int x5), (6, .int x6), (7, .int x7)]) [0, 1, 2, 3, 4] rfl ?_
        exact w_X9_sentence_155 C hZ hR hN hk66 _ _ _ _ _ _ hf
    · replace hf := sv_if_f c93 hf
      refine sv_iconst (v := 2) C dX9_sentence_96 (by decide) ?_
      refine sv_iload 5 C dX9_sentence_97 rfl ?_
      refine sv_imul C dX9_sentence_99 ?_
      refine sv_iload 6 C dX9_sentence_100 rfl ?_
      refine sv_iload 2 C dX9_sentence_102 rfl ?_
      refine sv_icmp_ge (tgt := 124) C dX9_sentence_104 (by decide) (fun c104 => ?_) (fun c104 => ?_)
      · replace hf := sv_if_t c104 hf
        refine sv_sub (lv' := [(0, .ref h0), (4, .int x4), (5, .int x5), (6, .int x6), (7, .int x7), (9, .int x9)]) [0, 1, 2, 3, 4, 6] rfl ?_
        exact w_X9_sentence_124 C hZ hR hN hk66 ih _ _ _ _ _ _ _ hf
      · replace hf := sv_if_f c104 hf
        refine sv_aload_n 0 C dX9_sentence_107 rfl rfl ?_
        refine md_getr C fl_X9_64 (by decide) dX9_sentence_108 ?_
        refine sv_iload 1 C dX9_sentence_111 rfl ?_
        refine sv_iload 6 C dX9_sentence_113 rfl ?_
        refine sv_iadd C dX9_sentence_115 ?_
        obtain ⟨g116, hf⟩ := sv_g_some hf
        refine md_zald C 16 rfl g116 dX9_sentence_116 ?_
        refine sv_if_eq (tgt := 124) C dX9_sentence_117 (by decide) (fun c117 => ?_) (fun c117 => ?_)
        · replace hf := sv_if_t c117 hf
          refine sv_sub (lv' := [(0, .ref h0), (4, .int x4), (5, .int x5), (6, .int x6), (7, .int x7), (9, .int x9)]) [0, 1, 2, 3, 4, 6] rfl ?_
          exact w_X9_sentence_124 C hZ hR hN hk66 ih _ _ _ _ _ _ _ hf
        · replace hf := sv_if_f c117 hf
          refine sv_iconst (v := 1) C dX9_sentence_120 (by decide) ?_
          refine sv_goto (tgt := 125) C dX9_sentence_121 (by decide) ?_
          refine sv_sub (lv' := [(0, .ref h0), (4, .int x4), (5, .int x5), (6, .int x6), (7, .int x7), (9, .int x9)]) [0, 1, 2, 3, 4, 6] rfl ?_
          exact w_X9_sentence_125 C hZ hR hN hk66 ih _ _ _ _ _ _ _ _ hf
set_option maxHeartbeats 4000000 in
set_option maxRecDepth 100000 in
theorem w_X9_sentence_66 {E : sv_E} {X : sv_X} {sz : Nat} {q : md_B} {h0 : Nat} {ad : Nat → Nat} (C : sv_C E X cX9_sentence RX9 []) (hZ : sv_Z E X none none (md_w E h0 ad q) sz 0 0) (hR : sv_R X = { frames := 5, cells := 0, slots := 0, locals := 107 }) (hN : sv_nL X = 10) : ∀ (n : Nat) (B : md_B) (x4 : Int32) (x5 : Int32) (x6 : Int32) (x7 : Int32), f_X9_sentence_66 n B x4 x5 x6 x7 = some q → sv_J E X (md_w E h0 ad B) sz 0 0 66 [(0, .ref h0), (4, .int x4), (5, .int x5), (6, .int x6), (7, .int x7)] [] := by
  intro n
  induction n with
  | zero =>
    intro B x4 x5 x6 x7 hf
    rw [f_X9_sentence_66] at hf
    cases hf
  | succ n ih =>
    intro B x4 x5 x6 x7 hf
    rw [f_X9_sentence_66] at hf
    refine sv_iload 4 C dX9_sentence_66 rfl ?_
    refine sv_iload 3 C dX9_sentence_68 rfl ?_
    refine sv_icmp_ge (tgt := 164) C dX9_sentence_70 (by decide) (fun c70 => ?_) (fun c70 => ?_)
    · replace hf := sv_if_t c70 hf
      refine sv_aload_n 0 C dX9_sentence_164 rfl rfl ?_
      refine sv_bipush (v := 44) C dX9_sentence_165 (by decide) ?_
      obtain ⟨q167, hc167, hf⟩ := sv_bind_some hf
      refine sv_callV0 C mv_X9_358 (m_X9_write (sv_l X) E h0 ad sz _ _ _ hc167) sv_sx0 0 rfl rfl rfl rfl (Nat.le_of_ble_eq_true rfl) ⟨by rw [hR]; decide, by rw [hR]; decide⟩ ⟨by rw [hR]; decide, by rw [hR]; decide⟩ dX9_sentence_167 ?_
      refine sv_aload_n 0 C dX9_sentence_170 rfl rfl ?_
      refine sv_bipush (v := 48) C dX9_sentence_171 (by decide) ?_
      refine sv_bipush (v := 6) C dX9_sentence_173 (by decide) ?_
      refine sv_iload 3 C dX9_sentence_175 rfl ?_
      refine sv_imul C dX9_sentence_177 ?_
      refine sv_iadd C dX9_sentence_178 ?_
      refine sv_iload 2 C dX9_sentence_179 rfl ?_
      refine sv_isub C dX9_sentence_181 ?_
      obtain ⟨q182, hc182, hf⟩ := sv_bind_some hf
      refine sv_callV0 C mv_X9_358 (m_X9_write (sv_l X) E h0 ad sz _ _ _ hc182) sv_sx0 0 rfl rfl rfl rfl (Nat.le_of_ble_eq_true rfl) ⟨by rw [hR]; decide, by rw [hR]; decide⟩ ⟨by rw [hR]; decide, by rw [hR]; decide⟩ dX9_sentence_182 ?_
      refine sv_aload_n 0 C dX9_sentence_185 rfl rfl ?_
      refine md_geti C fl_X9_355 (by decide) dX9_sentence_186 ?_
      refine sv_istore (lv' := [(7, .int (q182.1 37)), (0, .ref h0), (4, .int x4), (5, .int x5), (6, .int x6)]) C dX9_sentence_189 (by rw [hN]; decide) rfl ?_
      refine sv_aload_n 1 C dX9_sentence_191 rfl rfl ?_
      refine sv_bipush (v := 42) C dX9_sentence_192 (by decide) ?_
      obtain ⟨q194, hc194, hf⟩ := sv_bind_some hf
      refine sv_callV0 C mv_X9_358 (m_X9_write (sv_l X) E h0 ad sz _ _ _ hc194) sv_sx0 0 rfl rfl rfl rfl (Nat.le_of_ble_eq_true rfl) ⟨by rw [hR]; decide, by rw [hR]; decide⟩ ⟨by rw [hR]; decide, by rw [hR]; decide⟩ dX9_sentence_194 ?_
      refine sv_aload_n 1 C dX9_sentence_197 rfl rfl ?_
      refine sv_iload 0 C dX9_sentence_198 rfl ?_
      refine sv_iconst (v := 4) C dX9_sentence_200 (by decide) ?_
      refine sv_ishr C dX9_sentence_201 ?_
      obtain ⟨q202, hc202, hf⟩ := sv_bind_some hf
      refine sv_callS0 C ms_X9_369 (m_X9_hexOf (sv_l X) E h0 ad sz _ _ _ hc202) sv_sx0 rfl rfl (Nat.le_of_ble_eq_true rfl) ⟨by rw [hR]; decide, by rw [hR]; decide⟩ ⟨by rw [hR]; decide, by rw [hR]; decide⟩ dX9_sentence_202 ?_
      obtain ⟨q205, hc205, hf⟩ := sv_bind_some hf
      refine sv_callV0 C mv_X9_358 (m_X9_write (sv_l X) E h0 ad sz _ _ _ hc205) sv_sx0 0 rfl rfl rfl rfl (Nat.le_of_ble_eq_true rfl) ⟨by rw [hR]; decide, by rw [hR]; decide⟩ ⟨by rw [hR]; decide, by rw [hR]; decide⟩ dX9_sentence_205 ?_
      refine sv_aload_n 1 C dX9_sentence_208 rfl rfl ?_
      refine sv_iload 0 C dX9_sentence_209 rfl ?_
      refine sv_bipush (v := 15) C dX9_sentence_211 (by decide) ?_
      refine sv_iand C dX9_sentence_213 ?_
      obtain ⟨q214, hc214, hf⟩ := sv_bind_some hf
      refine sv_callS0 C ms_X9_369 (m_X9_hexOf (sv_l X) E h0 ad sz _ _ _ hc214) sv_sx0 rfl rfl (Nat.le_of_ble_eq_true rfl) ⟨by rw [hR]; decide, by rw [hR]; decide⟩ ⟨by rw [hR]; decide, by rw [hR]; decide⟩ dX9_sentence_214 ?_
      obtain ⟨q217, hc217, hf⟩ := sv_bind_some hf
      refine sv_callV0 C mv_X9_358 (m_X9_write (sv_l X) E h0 ad sz _ _ _ hc217) sv_sx0 0 rfl rfl rfl rfl (Nat.le_of_ble_eq_true rfl) ⟨by rw [hR]; decide, by rw [hR]; decide⟩ ⟨by rw [hR]; decide, by rw [hR]; decide⟩ dX9_sentence_217 ?_
      refine sv_aload_n 1 C dX9_sentence_220 rfl rfl ?_
      refine sv_bipush (v := 13) C dX9_sentence_221 (by decide) ?_
      obtain ⟨q223, hc223, hf⟩ := sv_bind_some hf
      refine sv_callV0 C mv_X9_358 (m_X9_write (sv_l X) E h0 ad sz _ _ _ hc223) sv_sx0 0 rfl rfl rfl rfl (Nat.le_of_ble_eq_true rfl) ⟨by rw [hR]; decide, by rw [hR]; decide⟩ ⟨by rw [hR]; decide, by rw [hR]; decide⟩ dX9_sentence_223 ?_
      refine sv_aload_n 1 C dX9_sentence_226 rfl rfl ?_
      refine sv_bipush (v := 10) C dX9_sentence_227 (by decide) ?_
      obtain ⟨q229, hc229, hf⟩ := sv_bind_some hf
      refine sv_callV0 C mv_X9_358 (m_X9_write (sv_l X) E h0 ad sz _ _ _ hc229) sv_sx0 0 rfl rfl rfl rfl (Nat.le_of_ble_eq_true rfl) ⟨by rw [hR]; decide, by rw [hR]; decide⟩ ⟨by rw [hR]; decide, by rw [hR]; decide⟩ dX9_sentence_229 ?_
      exact sv_vret C (by cases hf; exact hZ) dX9_sentence_232
    · replace hf := sv_if_f c70 hf
      refine sv_iconst (v := 0) C dX9_sentence_73 (by decide) ?_
      refine sv_istore (lv' := [(8, .int 0), (0, .ref h0), (4, .int x4), (5, .int x5), (6, .int x6), (7, .int x7)]) C dX9_sentence_74 (by rw [hN]; decide) rfl ?_
      refine sv_bipush (v := 6) C dX9_sentence_76 (by decide) ?_
      refine sv_iload 5 C dX9_sentence_78 rfl ?_
      refine sv_imul C dX9_sentence_80 ?_
      refine sv_istore (lv' := [(9, .int (6 * x7)), (8, .int 0), (0, .ref h0), (4, .int x4), (5, .int x5), (6, .int x6), (7, .int x7)]) C dX9_sentence_81 (by rw [hN]; decide) rfl ?_
      refine sv_sub (lv' := [(0, .ref h0), (4, .int x4), (5, .int x5), (6, .int x6), (7, .int x7), (8, .int 0), (9, .int (6 * x7))]) [2, 3, 4, 5, 6, 1, 0] rfl ?_
      exact w_X9_sentence_83 C hZ hR hN ih sv_fu _ _ _ _ _ _ _ hf
set_option maxHeartbeats 4000000 in
set_option maxRecDepth 100000 in
theorem w_X9_sentence_47 {E : sv_E} {X : sv_X} {sz : Nat} {q : md_B} {h0 : Nat} {ad : Nat → Nat} (C : sv_C E X cX9_sentence RX9 []) (hZ : sv_Z E X none none (md_w E h0 ad q) sz 0 0) (hR : sv_R X = { frames := 5, cells := 0, slots := 0, locals := 107 }) (hN : sv_nL X = 10) (B : md_B) (x4 : Int32) (x5 : Int32) (hf : f_X9_sentence_47 B x4 x5 = some q) : sv_J E X (md_w E h0 ad B) sz 0 0 47 [(0, .ref h0), (4, .int x4), (5, .int x5)] [] := by
  rw [f_X9_sentence_47] at hf
  refine sv_aload_n 0 C dX9_sentence_47 rfl rfl ?_
  refine sv_ldcSw (i := 34) C (by rfl) dX9_sentence_48 ?_
  obtain ⟨q51, hc51, hf⟩ := sv_bind_some hf
  refine sv_callV0 C mv_X9_363 (m_X9_writeAll (sv_l X) E h0 ad sz (E.2.2.1 34) (E.2.2.2.1 34) _ _ _ hc51) (sv_sxi (i := 34) (by rfl)) 0 rfl rfl rfl rfl (Nat.le_of_ble_eq_true rfl) ⟨by rw [hR]; decide, by rw [hR]; decide⟩ ⟨by rw [hR]; decide, by rw [hR]; decide⟩ dX9_sentence_51 ?_
  refine sv_iload 2 C dX9_sentence_54 rfl ?_
  refine sv_iconst (v := 5) C dX9_sentence_56 (by decide) ?_
  refine sv_iadd C dX9_sentence_57 ?_
  refine sv_bipush (v := 6) C dX9_sentence_58 (by decide) ?_
  refine sv_idiv C dX9_sentence_60 (by decide) ?_
  refine sv_istore (lv' := [(6, .int ((x5 + 5) / 6)), (0, .ref h0), (4, .int x4), (5, .int x5)]) C dX9_sentence_61 (by rw [hN]; decide) rfl ?_
  refine sv_iconst (v := 0) C dX9_sentence_63 (by decide) ?_
  refine sv_istore (lv' := [(7, .int 0), (6, .int ((x5 + 5) / 6)), (0, .ref h0), (4, .int x4), (5, .int x5)]) C dX9_sentence_64 (by rw [hN]; decide) rfl ?_
  refine sv_sub (lv' := [(0, .ref h0), (4, .int x4), (5, .int x5), (6, .int ((x5 + 5) / 6)), (7, .int 0)]) [2, 3, 4, 1, 0] rfl ?_
  exact w_X9_sentence_66 C hZ hR hN sv_fu _ _ _ _ _ hf
set_option maxHeartbeats 4000000 in
set_option maxRecDepth 100000 in
theorem m_X9_sentence (l : Launch) (E : sv_E) (h0 : Nat) (ad : Nat → Nat) (sz : Nat) (B : md_B) (x1 : Int32) (x2 : Int32) (x3 : Int32) (x4 : Int32) (x5 : Int32) (q : md_B) (hf : f_X9_sentence B x1 x2 x3 x4 x5 = some q) : sv_Met l E yX9_sentence cX9_sentence 10 none 5 107 [] [.ref h0, .int x1, .int x2, .int x3, .int x4, .int x5] (md_w E h0 ad B) sz none (md_w E h0 ad q) sz 0 0 := by
  refine sv_ofJ (by decide) (Nat.le_of_ble_eq_true rfl) ?_
  intro X hX hN hnm hR C hZ
  replace C : sv_C E X cX9_sentence RX9 [] := C
  show sv_J E X (md_w E h0 ad B) sz 0 0 0 [(0, .ref h0), (1, .int x1), (2, .int x2), (3, .int x3), (4, .int x4), (5, .int x5)] []
  rw [f_X9_sentence] at hf
  refine sv_aload_n 0 C dX9_sentence_0 rfl rfl ?_
  refine sv_ldcSw (i := 33) C (by rfl) dX9_sentence_1 ?_
  obtain ⟨q4, hc4, hf⟩ := sv_bind_some hf
  refine sv_callV0 C mv_X9_363 (m_X9_writeAll (sv_l X) E h0 ad sz (E.2.2.1 33) (E.2.2.2.1 33) _ _ _ hc4) (sv_sxi (i := 33) (by rfl)) 0 rfl rfl rfl rfl (Nat.le_of_ble_eq_true rfl) ⟨by rw [hR]; decide, by rw [hR]; decide⟩ ⟨by rw [hR]; decide, by rw [hR]; decide⟩ dX9_sentence_4 ?_
  refine sv_aload_n 0 C dX9_sentence_7 rfl rfl ?_
  refine sv_bipush (v := 48) C dX9_sentence_8 (by decide) ?_
  refine sv_iload_n 1 C dX9_sentence_10 rfl rfl ?_
  refine sv_iadd C dX9_sentence_11 ?_
  obtain ⟨q12, hc12, hf⟩ := sv_bind_some hf
  refine sv_callV0 C mv_X9_358 (m_X9_write (sv_l X) E h0 ad sz _ _ _ hc12) sv_sx0 0 rfl rfl rfl rfl (Nat.le_of_ble_eq_true rfl) ⟨by rw [hR]; decide, by rw [hR]; decide⟩ ⟨by rw [hR]; decide, by rw [hR]; decide⟩ dX9_sentence_12 ?_
  refine sv_aload_n 0 C dX9_sentence_15 rfl rfl ?_
  refine sv_bipush (v := 44) C dX9_sentence_16 (by decide) ?_
  obtain ⟨q18, hc18, hf⟩ := sv_bind_some hf
  refine sv_callV0 C mv_X9_358 (m_X9_write (sv_l X) E h0 ad sz _ _ _ hc18) sv_sx0 0 rfl rfl rfl rfl (Nat.le_of_ble_eq_true rfl) ⟨by rw [hR]; decide, by rw [hR]; decide⟩ ⟨by rw [hR]; decide, by rw [hR]; decide⟩ dX9_sentence_18 ?_
  refine sv_aload_n 0 C dX9_sentence_21 rfl rfl ?_
  refine sv_bipush (v := 48) C dX9_sentence_22 (by decide) ?_
  refine sv_iload_n 2 C dX9_sentence_24 rfl rfl ?_
  refine sv_iadd C dX9_sentence_25 ?_
  obtain ⟨q26, hc26, hf⟩ := sv_bind_some hf
  refine sv_callV0 C mv_X9_358 (m_X9_write (sv_l X) E h0 ad sz _ _ _ hc26) sv_sx0 0 rfl rfl rfl rfl (Nat.le_of_ble_eq_true rfl) ⟨by rw [hR]; decide, by rw [hR]; decide⟩ ⟨by rw [hR]; decide, by rw [hR]; decide⟩ dX9_sentence_26 ?_
  refine sv_aload_n 0 C dX9_sentence_29 rfl rfl ?_
  refine sv_bipush (v := 44) C dX9_sentence_30 (by decide) ?_
  obtain ⟨q32, hc32, hf⟩ := sv_bind_some hf
  refine sv_callV0 C mv_X9_358 (m_X9_write (sv_l X) E h0 ad sz _ _ _ hc32) sv_sx0 0 rfl rfl rfl rfl (Nat.le_of_ble_eq_true rfl) ⟨by rw [hR]; decide, by rw [hR]; decide⟩ ⟨by rw [hR]; decide, by rw [hR]; decide⟩ dX9_sentence_32 ?_
  refine sv_iload_n 3 C dX9_sentence_35 rfl rfl ?_
  refine sv_if_lt (tgt := 47) C dX9_sentence_36 (by decide) (fun c36 => ?_) (fun c36 => ?_)
  · replace hf := sv_if_t c36 hf
    refine sv_sub (lv' := [(0, .ref h0), (4, .int x4), (5, .int x5)]) [0, 4, 5] rfl ?_
    exact w_X9_sentence_47 C hZ hR hN _ _ _ hf
  · replace hf := sv_if_f c36 hf
    refine sv_aload_n 0 C dX9_sentence_39 rfl rfl ?_
    refine sv_bipush (v := 48) C dX9_sentence_40 (by decide) ?_
    refine sv_iload_n 3 C dX9_sentence_42 rfl rfl ?_
    refine sv_iadd C dX9_sentence_43 ?_
    obtain ⟨q44, hc44, hf⟩ := sv_bind_some hf
    refine sv_callV0 C mv_X9_358 (m_X9_write (sv_l X) E h0 ad sz _ _ _ hc44) sv_sx0 0 rfl rfl rfl rfl (Nat.le_of_ble_eq_true rfl) ⟨by rw [hR]; decide, by rw [hR]; decide⟩ ⟨by rw [hR]; decide, by rw [hR]; decide⟩ dX9_sentence_44 ?_
    refine sv_sub (lv' := [(0, .ref h0), (4, .int x4), (5, .int x5)]) [0, 4, 5] rfl ?_
    exact w_X9_sentence_47 C hZ hR hN _ _ _ hf
def f_X9_send_55 (B : md_B) : Option (Int32 × md_B) :=
  (f_X9_refuse B 2).bind (fun q57 =>
    some (q57.1, q57.2))
def f_X9_send_157 (B : md_B) : Option (Int32 × md_B) :=
  some (B.1 4, B)
def f_X9_send_61 (B : md_B) (x1 : Int32) (x2 : Int32) (x3 : Int32) : Option (Int32 × md_B) :=
  (f_X9_put (md_pf B 36 0) x2 6).bind (fun q70 =>
    (f_X9_put q70 0 2).bind (fun q76 =>
      sv_g (sv_inb (24 * x1) 960) (
        (f_X9_put q76 (q76.2 29 (24 * x1).toNatClampNeg) 30).bind (fun q91 =>
          (f_X9_reports (md_pf q91 33 1) x1 x2).bind (fun q102 =>
            if x2 = 5 then
              (f_X9_sentence (md_pf (md_pf q102 33 0) 4 0) 2 1 x3 0 360).bind (fun q128 =>
                (f_X9_sentence q128 2 2 x3 360 64).bind (fun q140 =>
                  f_X9_send_157 q140))
            else
              (f_X9_sentence (md_pf (md_pf q102 33 0) 4 0) 1 1 (-1) 0 168).bind (fun q154 =>
                f_X9_send_157 q154))))))
def f_X9_send (B : md_B) (x1 : Int32) (x2 : Int32) (x3 : Int32) : Option (Int32 × md_B) :=
  (f_X9_in (md_pf B 0 0) x1.toInt64 0 ((((md_pf B 0 0).1 28) - 1).toInt64)).bind (fun q15 =>
    if q15.1 = 0 then
      (f_X9_refuse q15.2 1).bind (fun q23 =>
        some (q23.1, q23.2))
    else
      if x2 = 1 then
        f_X9_send_61 q15.2 x1 x2 x3
      else
        if x2 = 18 then
          f_X9_send_61 q15.2 x1 x2 x3
        else
          if x2 = 5 then
            (f_X9_in q15.2 x3.toInt64 0 9).bind (fun q49 =>
              if q49.1 = 0 then
                f_X9_send_55 q49.2
              else
                f_X9_send_61 q49.2 x1 x2 x3)
          else
            f_X9_send_55 q15.2)
set_option maxHeartbeats 4000000 in
set_option maxRecDepth 100000 in
theorem w_X9_send_55 {E : sv_E} {X : sv_X} {sz : Nat} {q : Int32 × md_B} {h0 : Nat} {ad : Nat → Nat} (C : sv_C E X cX9_send RX9 []) (hZ : sv_Z E X (some .int) (some (.int q.1)) (md_w E h0 ad q.2) sz 0 0) (hR : sv_R X = { frames := 6, cells := 0, slots := 0, locals := 136 }) (hN : sv_nL X = 4) (B : md_B) (hf : f_X9_send_55 B = some q) : sv_J E X (md_w E h0 ad B) sz 0 0 55 [(0, .ref h0)] [] := by
  rw [f_X9_send_55] at hf
  refine sv_aload_n 0 C dX9_send_55 rfl rfl ?_
  refine sv_iconst (v := 2) C dX9_send_56 (by decide) ?_
  obtain ⟨q57, hc57, hf⟩ := sv_bind_some hf
  refine sv_callV0 C mv_X9_343 (m_X9_refuse (sv_l X) E h0 ad sz _ _ _ hc57) sv_sx0 0 rfl rfl rfl rfl (Nat.le_of_ble_eq_true rfl) ⟨by rw [hR]; decide, by rw [hR]; decide⟩ ⟨by rw [hR]; decide, by rw [hR]; decide⟩ dX9_send_57 ?_
  exact sv_iret C (by cases hf; exact hZ) dX9_send_60
set_option maxHeartbeats 4000000 in
set_option maxRecDepth 100000 in
theorem w_X9_send_157 {E : sv_E} {X : sv_X} {sz : Nat} {q : Int32 × md_B} {h0 : Nat} {ad : Nat → Nat} (C : sv_C E X cX9_send RX9 []) (hZ : sv_Z E X (some .int) (some (.int q.1)) (md_w E h0 ad q.2) sz 0 0) (hR : sv_R X = { frames := 6, cells := 0, slots := 0, locals := 136 }) (hN : sv_nL X = 4) (B : md_B) (hf : f_X9_send_157 B = some q) : sv_J E X (md_w E h0 ad B) sz 0 0 157 [(0, .ref h0)] [] := by
  rw [f_X9_send_157] at hf
  refine sv_aload_n 0 C dX9_send_157 rfl rfl ?_
  refine md_geti C fl_X9_338 (by decide) dX9_send_158 ?_
  exact sv_iret C (by cases hf; exact hZ) dX9_send_161
set_option maxHeartbeats 4000000 in
set_option maxRecDepth 100000 in
theorem w_X9_send_61 {E : sv_E} {X : sv_X} {sz : Nat} {q : Int32 × md_B} {h0 : Nat} {ad : Nat → Nat} (C : sv_C E X cX9_send RX9 []) (hZ : sv_Z E X (some .int) (some (.int q.1)) (md_w E h0 ad q.2) sz 0 0) (hR : sv_R X = { frames := 6, cells := 0, slots := 0, locals := 136 }) (hN : sv_nL X = 4) (B : md_B) (x1 : Int32) (x2 : Int32) (x3 : Int32) (hf : f_X9_send_61 B x1 x2 x3 = some q) : sv_J E X (md_w E h0 ad B) sz 0 0 61 [(0, .ref h0), (1, .int x1), (2, .int x2), (3, .int x3)] [] := by
  rw [f_X9_send_61] at hf
  refine sv_aload_n 0 C dX9_send_61 rfl rfl ?_
  refine sv_iconst (v := 0) C dX9_send_62 (by decide) ?_
  refine md_puti C fl_X9_352 (by decide) rfl rfl dX9_send_63 ?_
  refine sv_aload_n 0 C dX9_send_66 rfl rfl ?_
  refine sv_iload_n 2 C dX9_send_67 rfl rfl ?_
  refine sv_bipush (v := 6) C dX9_send_68 (by decide) ?_
  obtain ⟨q70, hc70, hf⟩ := sv_bind_some hf
  refine sv_callV0 C mv_X9_311 (m_X9_put (sv_l X) E h0 ad sz _ _ _ _ hc70) sv_sx0 0 rfl rfl rfl rfl (Nat.le_of_ble_eq_true rfl) ⟨by rw [hR]; decide, by rw [hR]; decide⟩ ⟨by rw [hR]; decide, by rw [hR]; decide⟩ dX9_send_70 ?_
  refine sv_aload_n 0 C dX9_send_73 rfl rfl ?_
  refine sv_iconst (v := 0) C dX9_send_74 (by decide) ?_
  refine sv_iconst (v := 2) C dX9_send_75 (by decide) ?_
  obtain ⟨q76, hc76, hf⟩ := sv_bind_some hf
  refine sv_callV0 C mv_X9_311 (m_X9_put (sv_l X) E h0 ad sz _ _ _ _ hc76) sv_sx0 0 rfl rfl rfl rfl (Nat.le_of_ble_eq_true rfl) ⟨by rw [hR]; decide, by rw [hR]; decide⟩ ⟨by rw [hR]; decide, by rw [hR]; decide⟩ dX9_send_76 ?_
  refine sv_aload_n 0 C dX9_send_79 rfl rfl ?_
  refine sv_aload_n 0 C dX9_send_80 rfl rfl ?_
  refine md_getr C fl_X9_55 (by decide) dX9_send_81 ?_
  refine sv_bipush (v := 24) C dX9_send_84 (by decide) ?_
  refine sv_iload_n 1 C dX9_send_86 rfl rfl ?_
  refine sv_imul C dX9_send_87 ?_
  obtain ⟨g88, hf⟩ := sv_g_some hf
  refine md_iald C 13 rfl g88 dX9_send_88 ?_
  refine sv_bipush (v := 30) C dX9_send_89 (by decide) ?_
  obtain ⟨q91, hc91, hf⟩ := sv_bind_some hf
  refine sv_callV0 C mv_X9_311 (m_X9_put (sv_l X) E h0 ad sz _ _ _ _ hc91) sv_sx0 0 rfl rfl rfl rfl (Nat.le_of_ble_eq_true rfl) ⟨by rw [hR]; decide, by rw [hR]; decide⟩ ⟨by rw [hR]; decide, by rw [hR]; decide⟩ dX9_send_91 ?_
  refine sv_aload_n 0 C dX9_send_94 rfl rfl ?_
  refine sv_iconst (v := 1) C dX9_send_95 (by decide) ?_
  refine md_puti C fl_X9_303 (by decide) (by decide) (by decide) dX9_send_96 ?_
  refine sv_aload_n 0 C dX9_send_99 rfl rfl ?_
  refine sv_iload_n 1 C dX9_send_100 rfl rfl ?_
  refine sv_iload_n 2 C dX9_send_101 rfl rfl ?_
  obtain ⟨q102, hc102, hf⟩ := sv_bind_some hf
  refine sv_callV0 C mv_X9_297 (m_X9_reports (sv_l X) E h0 ad sz _ _ _ _ hc102) sv_sx0 0 rfl rfl rfl rfl (Nat.le_of_ble_eq_true rfl) ⟨by rw [hR]; decide, by rw [hR]; decide⟩ ⟨by rw [hR]; decide, by rw [hR]; decide⟩ dX9_send_102 ?_
  refine sv_aload_n 0 C dX9_send_105 rfl rfl ?_
  refine sv_iconst (v := 0) C dX9_send_106 (by decide) ?_
  refine md_puti C fl_X9_303 (by decide) (by decide) (by decide) dX9_send_107 ?_
  refine sv_aload_n 0 C dX9_send_110 rfl rfl ?_
  refine sv_iconst (v := 0) C dX9_send_111 (by decide) ?_
  refine md_puti C fl_X9_338 (by decide) rfl rfl dX9_send_112 ?_
  refine sv_iload_n 2 C dX9_send_115 rfl rfl ?_
  refine sv_iconst (v := 5) C dX9_send_116 (by decide) ?_
  refine sv_icmp_ne (tgt := 146) C dX9_send_117 (by decide) (fun c117 => ?_) (fun c117 => ?_)
  · replace hf := sv_if_f c117 hf
    refine sv_aload_n 0 C dX9_send_146 rfl rfl ?_
    refine sv_iconst (v := 1) C dX9_send_147 (by decide) ?_
    refine sv_iconst (v := 1) C dX9_send_148 (by decide) ?_
    refine sv_iconst (v := (-1)) C dX9_send_149 (by decide) ?_
    refine sv_iconst (v := 0) C dX9_send_150 (by decide) ?_
    refine sv_sipush (v := 168) C dX9_send_151 (by decide) ?_
    obtain ⟨q154, hc154, hf⟩ := sv_bind_some hf
    refine sv_callV0 C mv_X9_374 (m_X9_sentence (sv_l X) E h0 ad sz _ _ _ _ _ _ _ hc154) sv_sx0 0 rfl rfl rfl rfl (Nat.le_of_ble_eq_true rfl) ⟨by rw [hR]; decide, by rw [hR]; decide⟩ ⟨by rw [hR]; decide, by rw [hR]; decide⟩ dX9_send_154 ?_
    refine sv_sub (lv' := [(0, .ref h0)]) [0] rfl ?_
    exact w_X9_send_157 C hZ hR hN _ hf
  · replace hf := sv_if_t c117 hf
    refine sv_aload_n 0 C dX9_send_120 rfl rfl ?_
    refine sv_iconst (v := 2) C dX9_send_121 (by decide) ?_
    refine sv_iconst (v := 1) C dX9_send_122 (by decide) ?_
    refine sv_iload_n 3 C dX9_send_123 rfl rfl ?_
    refine sv_iconst (v := 0) C dX9_send_124 (by decide) ?_
    refine sv_sipush (v := 360) C dX9_send_125 (by decide) ?_
    obtain ⟨q128, hc128, hf⟩ := sv_bind_some hf
    refine sv_callV0 C mv_X9_374 (m_X9_sentence (sv_l X) E h0 ad sz _ _ _ _ _ _ _ hc128) sv_sx0 0 rfl rfl rfl rfl (Nat.le_of_ble_eq_true rfl) ⟨by rw [hR]; decide, by rw [hR]; decide⟩ ⟨by rw [hR]; decide, by rw [hR]; decide⟩ dX9_send_128 ?_
    refine sv_aload_n 0 C dX9_send_131 rfl rfl ?_
    refine sv_iconst (v := 2) C dX9_send_132 (by decide) ?_
    refine sv_iconst (v := 2) C dX9_send_133 (by decide) ?_
    refine sv_iload_n 3 C dX9_send_134 rfl rfl ?_
    refine sv_sipush (v := 360) C dX9_send_135 (by decide) ?_
    refine sv_bipush (v := 64) C dX9_send_138 (by decide) ?_
    obtain ⟨q140, hc140, hf⟩ := sv_bind_some hf
    refine sv_callV0 C mv_X9_374 (m_X9_sentence (sv_l X) E h0 ad sz _ _ _ _ _ _ _ hc140) sv_sx0 0 rfl rfl rfl rfl (Nat.le_of_ble_eq_true rfl) ⟨by rw [hR]; decide, by rw [hR]; decide⟩ ⟨by rw [hR]; decide, by rw [hR]; decide⟩ dX9_send_140 ?_
    refine sv_goto (tgt := 157) C dX9_send_143 (by decide) ?_
    refine sv_sub (lv' := [(0, .ref h0)]) [0] rfl ?_
    exact w_X9_send_157 C hZ hR hN _ hf
set_option maxHeartbeats 4000000 in
set_option maxRecDepth 100000 in
theorem m_X9_send (l : Launch) (E : sv_E) (h0 : Nat) (ad : Nat → Nat) (sz : Nat) (B : md_B) (x1 : Int32) (x2 : Int32) (x3 : Int32) (q : Int32 × md_B) (hf : f_X9_send B x1 x2 x3 = some q) : sv_Met l E yX9_send cX9_send 4 (some .int) 6 136 [] [.ref h0, .int x1, .int x2, .int x3] (md_w E h0 ad B) sz (some (.int q.1)) (md_w E h0 ad q.2) sz 0 0 := by
  refine sv_ofJ (by decide) (Nat.le_of_ble_eq_true rfl) ?_
  intro X hX hN hnm hR C hZ
  replace C : sv_C E X cX9_send RX9 [] := C
  show sv_J E X (md_w E h0 ad B) sz 0 0 0 [(0, .ref h0), (1, .int x1), (2, .int x2), (3, .int x3)] []
  rw [f_X9_send] at hf
  refine sv_aload_n 0 C dX9_send_0 rfl rfl ?_
  refine sv_iconst (v := 0) C dX9_send_1 (by decide) ?_
  refine md_puti C fl_X9_1 (by decide) rfl rfl dX9_send_2 ?_
  refine sv_iload_n 1 C dX9_send_5 rfl rfl ?_
  refine sv_i2l C dX9_send_6 ?_
  refine sv_lconst (v := 0) C dX9_send_7 (by decide) ?_
  refine sv_aload_n 0 C dX9_send_8 rfl rfl ?_
  refine md_geti C fl_X9_289 (by decide) dX9_send_9 ?_
  refine sv_iconst (v := 1) C dX9_send_12 (by decide) ?_
  refine sv_isub C dX9_send_13 ?_
  refine sv_i2l C dX9_send_14 ?_
  obtain ⟨q15, hc15, hf⟩ := sv_bind_some hf
  refine sv_callS0 C ms_X9_74 (m_X9_in (sv_l X) E h0 ad sz _ _ _ _ _ hc15) sv_sx0 rfl rfl (Nat.le_of_ble_eq_true rfl) ⟨by rw [hR]; decide, by rw [hR]; decide⟩ ⟨by rw [hR]; decide, by rw [hR]; decide⟩ dX9_send_15 ?_
  refine sv_if_ne (tgt := 27) C dX9_send_18 (by decide) (fun c18 => ?_) (fun c18 => ?_)
  · replace hf := sv_if_f c18 hf
    refine sv_iload_n 2 C dX9_send_27 rfl rfl ?_
    refine sv_iconst (v := 1) C dX9_send_28 (by decide) ?_
    refine sv_icmp_eq (tgt := 61) C dX9_send_29 (by decide) (fun c29 => ?_) (fun c29 => ?_)
    · replace hf := sv_if_t c29 hf
      refine sv_sub (lv' := [(0, .ref h0), (1, .int x1), (2, .int x2), (3, .int x3)]) [0, 1, 2, 3] rfl ?_
      exact w_X9_send_61 C hZ hR hN _ _ _ _ hf
    · replace hf := sv_if_f c29 hf
      refine sv_iload_n 2 C dX9_send_32 rfl rfl ?_
      refine sv_bipush (v := 18) C dX9_send_33 (by decide) ?_
      refine sv_icmp_eq (tgt := 61) C dX9_send_35 (by decide) (fun c35 => ?_) (fun c35 => ?_)
      · replace hf := sv_if_t c35 hf
        refine sv_sub (lv' := [(0, .ref h0), (1, .int x1), (2, .int x2), (3, .int x3)]) [0, 1, 2, 3] rfl ?_
        exact w_X9_send_61 C hZ hR hN _ _ _ _ hf
      · replace hf := sv_if_f c35 hf
        refine sv_iload_n 2 C dX9_send_38 rfl rfl ?_
        refine sv_iconst (v := 5) C dX9_send_39 (by decide) ?_
        refine sv_icmp_ne (tgt := 55) C dX9_send_40 (by decide) (fun c40 => ?_) (fun c40 => ?_)
        · replace hf := sv_if_f c40 hf
          refine sv_sub (lv' := [(0, .ref h0)]) [0] rfl ?_
          exact w_X9_send_55 C hZ hR hN _ hf
        · replace hf := sv_if_t c40 hf
          refine sv_iload_n 3 C dX9_send_43 rfl rfl ?_
          refine sv_i2l C dX9_send_44 ?_
          refine sv_lconst (v := 0) C dX9_send_45 (by decide) ?_
          refine sv_ldc2 C kw_811 dX9_send_46 ?_
          obtain ⟨q49, hc49, hf⟩ := sv_bind_some hf
          refine sv_callS0 C ms_X9_74 (m_X9_in (sv_l X) E h0 ad sz _ _ _ _ _ hc49) sv_sx0 rfl rfl (Nat.le_of_ble_eq_true rfl) ⟨by rw [hR]; decide, by rw [hR]; decide⟩ ⟨by rw [hR]; decide, by rw [hR]; decide⟩ dX9_send_49 ?_
          refine sv_if_ne (tgt := 61) C dX9_send_52 (by decide) (fun c52 => ?_) (fun c52 => ?_)
          · replace hf := sv_if_f c52 hf
            refine sv_sub (lv' := [(0, .ref h0), (1, .int x1), (2, .int x2), (3, .int x3)]) [0, 1, 2, 3] rfl ?_
            exact w_X9_send_61 C hZ hR hN _ _ _ _ hf
          · replace hf := sv_if_t c52 hf
            refine sv_sub (lv' := [(0, .ref h0)]) [0] rfl ?_
            exact w_X9_send_55 C hZ hR hN _ hf
  · replace hf := sv_if_t c18 hf
    refine sv_aload_n 0 C dX9_send_21 rfl rfl ?_
    refine sv_iconst (v := 1) C dX9_send_22 (by decide) ?_
    obtain ⟨q23, hc23, hf⟩ := sv_bind_some hf
    refine sv_callV0 C mv_X9_343 (m_X9_refuse (sv_l X) E h0 ad sz _ _ _ hc23) sv_sx0 0 rfl rfl rfl rfl (Nat.le_of_ble_eq_true rfl) ⟨by rw [hR]; decide, by rw [hR]; decide⟩ ⟨by rw [hR]; decide, by rw [hR]; decide⟩ dX9_send_23 ?_
    exact sv_iret C (by cases hf; exact hZ) dX9_send_26
def f_X9_out (B : md_B) (x1 : Int32) : Option (Int32 × md_B) :=
  (f_X9_in (md_pf B 0 0) x1.toInt64 0 ((((md_pf B 0 0).1 4) - 1).toInt64)).bind (fun q15 =>
    if q15.1 = 0 then
      some ((-2147483648), q15.2)
    else
      sv_g (sv_inb x1 200) (
        some (q15.2.2 3 x1.toNatClampNeg, q15.2)))
set_option maxHeartbeats 4000000 in
set_option maxRecDepth 100000 in
theorem m_X9_out (l : Launch) (E : sv_E) (h0 : Nat) (ad : Nat → Nat) (sz : Nat) (B : md_B) (x1 : Int32) (q : Int32 × md_B) (hf : f_X9_out B x1 = some q) : sv_Met l E yX9_out cX9_out 2 (some .int) 1 25 [] [.ref h0, .int x1] (md_w E h0 ad B) sz (some (.int q.1)) (md_w E h0 ad q.2) sz 0 0 := by
  refine sv_ofJ (by decide) (Nat.le_of_ble_eq_true rfl) ?_
  intro X hX hN hnm hR C hZ
  replace C : sv_C E X cX9_out RX9 [] := C
  show sv_J E X (md_w E h0 ad B) sz 0 0 0 [(0, .ref h0), (1, .int x1)] []
  rw [f_X9_out] at hf
  refine sv_aload_n 0 C dX9_out_0 rfl rfl ?_
  refine sv_iconst (v := 0) C dX9_out_1 (by decide) ?_
  refine md_puti C fl_X9_1 (by decide) rfl rfl dX9_out_2 ?_
  refine sv_iload_n 1 C dX9_out_5 rfl rfl ?_
  refine sv_i2l C dX9_out_6 ?_
  refine sv_lconst (v := 0) C dX9_out_7 (by decide) ?_
  refine sv_aload_n 0 C dX9_out_8 rfl rfl ?_
  refine md_geti C fl_X9_338 (by decide) dX9_out_9 ?_
  refine sv_iconst (v := 1) C dX9_out_12 (by decide) ?_
  refine sv_isub C dX9_out_13 ?_
  refine sv_i2l C dX9_out_14 ?_
  obtain ⟨q15, hc15, hf⟩ := sv_bind_some hf
  refine sv_callS0 C ms_X9_74 (m_X9_in (sv_l X) E h0 ad sz _ _ _ _ _ hc15) sv_sx0 rfl rfl (Nat.le_of_ble_eq_true rfl) ⟨by rw [hR]; decide, by rw [hR]; decide⟩ ⟨by rw [hR]; decide, by rw [hR]; decide⟩ dX9_out_15 ?_
  refine sv_if_eq (tgt := 30) C dX9_out_18 (by decide) (fun c18 => ?_) (fun c18 => ?_)
  · replace hf := sv_if_t c18 hf
    refine sv_ldc C kw_562 dX9_out_30 ?_
    exact sv_iret C (by cases hf; exact hZ) dX9_out_32
  · replace hf := sv_if_f c18 hf
    refine sv_aload_n 0 C dX9_out_21 rfl rfl ?_
    refine md_getr C fl_X9_17 (by decide) dX9_out_22 ?_
    refine sv_iload_n 1 C dX9_out_25 rfl rfl ?_
    obtain ⟨g26, hf⟩ := sv_g_some hf
    refine md_iald C 1 rfl g26 dX9_out_26 ?_
    refine sv_goto (tgt := 32) C dX9_out_27 (by decide) ?_
    exact sv_iret C (by cases hf; exact hZ) dX9_out_32
def f_X9_again_25 : Nat → md_B → Int32 → Option (Int32 × md_B)
  | 0, _, _ => none
  | n + 1, B, x1 =>
    if (B.1 4) ≤ x1 then
      some (B.1 2, B)
    else
      sv_g (sv_inb x1 200) (
        sv_g (sv_inb (B.1 2) 2000) (
          (f_X9_again_25 n) (md_pf (md_pa B 1 (B.1 2) (B.2 3 x1.toNatClampNeg)) 2 (((md_pa B 1 (B.1 2) (B.2 3 x1.toNatClampNeg)).1 2) + 1)) (x1 + 1)))
def f_X9_again (B : md_B) : Option (Int32 × md_B) :=
  if (((md_pf B 0 0).1 2) + ((md_pf B 0 0).1 4)) ≤ 2000 then
    f_X9_again_25 sv_fu (md_pf B 0 0) 0
  else
    some ((-2147483648), md_pf B 0 0)
set_option maxHeartbeats 4000000 in
set_option maxRecDepth 100000 in
theorem w_X9_again_25 {E : sv_E} {X : sv_X} {sz : Nat} {q : Int32 × md_B} {h0 : Nat} {ad : Nat → Nat} (C : sv_C E X cX9_again RX9 []) (hZ : sv_Z E X (some .int) (some (.int q.1)) (md_w E h0 ad q.2) sz 0 0) (hR : sv_R X = { frames := 0, cells := 0, slots := 0, locals := 0 }) (hN : sv_nL X = 2) : ∀ (n : Nat) (B : md_B) (x1 : Int32), f_X9_again_25 n B x1 = some q → sv_J E X (md_w E h0 ad B) sz 0 0 25 [(0, .ref h0), (1, .int x1)] [] := by
  intro n
  induction n with
  | zero =>
    intro B x1 hf
    rw [f_X9_again_25] at hf
    cases hf
  | succ n ih =>
    intro B x1 hf
    rw [f_X9_again_25] at hf
    refine sv_iload_n 1 C dX9_again_25 rfl rfl ?_
    refine sv_aload_n 0 C dX9_again_26 rfl rfl ?_
    refine md_geti C fl_X9_338 (by decide) dX9_again_27 ?_
    refine sv_icmp_ge (tgt := 64) C dX9_again_30 (by decide) (fun c30 => ?_) (fun c30 => ?_)
    · replace hf := sv_if_t c30 hf
      refine sv_aload_n 0 C dX9_again_64 rfl rfl ?_
      refine md_geti C fl_X9_70 (by decide) dX9_again_65 ?_
      exact sv_iret C (by cases hf; exact hZ) dX9_again_68
    · replace hf := sv_if_f c30 hf
      refine sv_aload_n 0 C dX9_again_33 rfl rfl ?_
      refine md_getr C fl_X9_13 (by decide) dX9_again_34 ?_
      refine sv_aload_n 0 C dX9_again_37 rfl rfl ?_
      refine md_geti C fl_X9_70 (by decide) dX9_again_38 ?_
      refine sv_aload_n 0 C dX9_again_41 rfl rfl ?_
      refine md_getr C fl_X9_17 (by decide) dX9_again_42 ?_
      refine sv_iload_n 1 C dX9_again_45 rfl rfl ?_
      obtain ⟨g46, hf⟩ := sv_g_some hf
      refine md_iald C 1 rfl g46 dX9_again_46 ?_
      obtain ⟨g47, hf⟩ := sv_g_some hf
      refine md_iast C 0 rfl g47 dX9_again_47 ?_
      refine sv_aload_n 0 C dX9_again_48 rfl rfl ?_
      refine sv_dup C dX9_again_49 rfl ?_
      refine md_geti C fl_X9_70 (by decide) dX9_again_50 ?_
      refine sv_iconst (v := 1) C dX9_again_53 (by decide) ?_
      refine sv_iadd C dX9_again_54 ?_
      refine md_puti C fl_X9_70 (by decide) rfl rfl dX9_again_55 ?_
      refine sv_iinc (v := x1 + 1) (lv' := [(1, .int (x1 + 1)), (0, .ref h0)]) 1 C dX9_again_58 rfl rfl (by rw [hN]; decide) rfl ?_
      refine sv_goto (tgt := 25) C dX9_again_61 (by decide) ?_
      refine sv_sub (lv' := [(0, .ref h0), (1, .int (x1 + 1))]) [1, 0] rfl ?_
      exact ih _ _ hf
set_option maxHeartbeats 4000000 in
set_option maxRecDepth 100000 in
theorem m_X9_again (l : Launch) (E : sv_E) (h0 : Nat) (ad : Nat → Nat) (sz : Nat) (B : md_B) (q : Int32 × md_B) (hf : f_X9_again B = some q) : sv_Met l E yX9_again cX9_again 2 (some .int) 0 0 [] [.ref h0] (md_w E h0 ad B) sz (some (.int q.1)) (md_w E h0 ad q.2) sz 0 0 := by
  refine sv_ofJ (by decide) (Nat.le_of_ble_eq_true rfl) ?_
  intro X hX hN hnm hR C hZ
  replace C : sv_C E X cX9_again RX9 [] := C
  show sv_J E X (md_w E h0 ad B) sz 0 0 0 [(0, .ref h0)] []
  rw [f_X9_again] at hf
  refine sv_aload_n 0 C dX9_again_0 rfl rfl ?_
  refine sv_iconst (v := 0) C dX9_again_1 (by decide) ?_
  refine md_puti C fl_X9_1 (by decide) rfl rfl dX9_again_2 ?_
  refine sv_aload_n 0 C dX9_again_5 rfl rfl ?_
  refine md_geti C fl_X9_70 (by decide) dX9_again_6 ?_
  refine sv_aload_n 0 C dX9_again_9 rfl rfl ?_
  refine md_geti C fl_X9_338 (by decide) dX9_again_10 ?_
  refine sv_iadd C dX9_again_13 ?_
  refine sv_sipush (v := 2000) C dX9_again_14 (by decide) ?_
  refine sv_icmp_le (tgt := 23) C dX9_again_17 (by decide) (fun c17 => ?_) (fun c17 => ?_)
  · replace hf := sv_if_t c17 hf
    refine sv_iconst (v := 0) C dX9_again_23 (by decide) ?_
    refine sv_istore_n (lv' := [(1, .int 0), (0, .ref h0)]) C dX9_again_24 rfl (by rw [hN]; decide) rfl ?_
    refine sv_sub (lv' := [(0, .ref h0), (1, .int 0)]) [1, 0] rfl ?_
    exact w_X9_again_25 C hZ hR hN sv_fu _ _ hf
  · replace hf := sv_if_f c17 hf
    refine sv_ldc C kw_562 dX9_again_20 ?_
    exact sv_iret C (by cases hf; exact hZ) dX9_again_22
def f_X9_forget_65 : Nat → md_B → Int32 → Option (md_B)
  | 0, _, _ => none
  | n + 1, B, x1 =>
    if 11 ≤ x1 then
      some (B)
    else
      sv_g (sv_inb x1 11) (
        sv_g (sv_inb x1 11) (
          (f_X9_forget_65 n) (md_pa (md_pa B 22 x1 0) 23 x1 0) (x1 + 1)))
def f_X9_forget_43 : Nat → md_B → Int32 → Option (md_B)
  | 0, _, _ => none
  | n + 1, B, x1 =>
    if 18 ≤ x1 then
      f_X9_forget_65 sv_fu B 0
    else
      sv_g (sv_inb x1 18) (
        (f_X9_forget_43 n) (md_pa B 16 x1 (-2147483648)) (x1 + 1))
def f_X9_forget_22 : Nat → md_B → Int32 → Option (md_B)
  | 0, _, _ => none
  | n + 1, B, x1 =>
    if 9 ≤ x1 then
      f_X9_forget_43 sv_fu B 0
    else
      sv_g (sv_inb x1 9) (
        (f_X9_forget_22 n) (md_pa B 10 x1 0) (x1 + 1))
def f_X9_forget (B : md_B) : Option (md_B) :=
  f_X9_forget_22 sv_fu (md_pf (md_pf (md_pf (md_pf B 5 0) 7 0) 28 0) 27 0) 0
set_option maxHeartbeats 4000000 in
set_option maxRecDepth 100000 in
theorem w_X9_forget_65 {E : sv_E} {X : sv_X} {sz : Nat} {q : md_B} {h0 : Nat} {ad : Nat → Nat} (C : sv_C E X cX9_forget RX9 []) (hZ : sv_Z E X none none (md_w E h0 ad q) sz 0 0) (hR : sv_R X = { frames := 0, cells := 0, slots := 0, locals := 0 }) (hN : sv_nL X = 2) : ∀ (n : Nat) (B : md_B) (x1 : Int32), f_X9_forget_65 n B x1 = some q → sv_J E X (md_w E h0 ad B) sz 0 0 65 [(0, .ref h0), (1, .int x1)] [] := by
  intro n
  induction n with
  | zero =>
    intro B x1 hf
    rw [f_X9_forget_65] at hf
    cases hf
  | succ n ih =>
    intro B x1 hf
    rw [f_X9_forget_65] at hf
    refine sv_iload_n 1 C dX9_forget_65 rfl rfl ?_
    refine sv_bipush (v := 11) C dX9_forget_66 (by decide) ?_
    refine sv_icmp_ge (tgt := 91) C dX9_forget_68 (by decide) (fun c68 => ?_) (fun c68 => ?_)
    · replace hf := sv_if_t c68 hf
      exact sv_vret C (by cases hf; exact hZ) dX9_forget_91
    · replace hf := sv_if_f c68 hf
      refine sv_aload_n 0 C dX9_forget_71 rfl rfl ?_
      refine md_getr C fl_X9_41 (by decide) dX9_forget_72 ?_
      refine sv_iload_n 1 C dX9_forget_75 rfl rfl ?_
      refine sv_iconst (v := 0) C dX9_forget_76 (by decide) ?_
      obtain ⟨g77, hf⟩ := sv_g_some hf
      refine md_iast C 9 rfl g77 dX9_forget_77 ?_
      refine sv_aload_n 0 C dX9_forget_78 rfl rfl ?_
      refine md_getr C fl_X9_44 (by decide) dX9_forget_79 ?_
      refine sv_iload_n 1 C dX9_forget_82 rfl rfl ?_
      refine sv_iconst (v := 0) C dX9_forget_83 (by decide) ?_
      obtain ⟨g84, hf⟩ := sv_g_some hf
      refine md_iast C 10 rfl g84 dX9_forget_84 ?_
      refine sv_iinc (v := x1 + 1) (lv' := [(1, .int (x1 + 1)), (0, .ref h0)]) 1 C dX9_forget_85 rfl rfl (by rw [hN]; decide) rfl ?_
      refine sv_goto (tgt := 65) C dX9_forget_88 (by decide) ?_
      refine sv_sub (lv' := [(0, .ref h0), (1, .int (x1 + 1))]) [1, 0] rfl ?_
      exact ih _ _ hf
set_option maxHeartbeats 4000000 in
set_option maxRecDepth 100000 in
theorem w_X9_forget_43 {E : sv_E} {X : sv_X} {sz : Nat} {q : md_B} {h0 : Nat} {ad : Nat → Nat} (C : sv_C E X cX9_forget RX9 []) (hZ : sv_Z E X none none (md_w E h0 ad q) sz 0 0) (hR : sv_R X = { frames := 0, cells := 0, slots := 0, locals := 0 }) (hN : sv_nL X = 2) : ∀ (n : Nat) (B : md_B) (x1 : Int32), f_X9_forget_43 n B x1 = some q → sv_J E X (md_w E h0 ad B) sz 0 0 43 [(0, .ref h0), (1, .int x1)] [] := by
  intro n
  induction n with
  | zero =>
    intro B x1 hf
    rw [f_X9_forget_43] at hf
    cases hf
  | succ n ih =>
    intro B x1 hf
    rw [f_X9_forget_43] at hf
    refine sv_iload_n 1 C dX9_forget_43 rfl rfl ?_
    refine sv_bipush (v := 18) C dX9_forget_44 (by decide) ?_
    refine sv_icmp_ge (tgt := 63) C dX9_forget_46 (by decide) (fun c46 => ?_) (fun c46 => ?_)
    · replace hf := sv_if_t c46 hf
      refine sv_iconst (v := 0) C dX9_forget_63 (by decide) ?_
      refine sv_istore_n (lv' := [(1, .int 0), (0, .ref h0)]) C dX9_forget_64 rfl (by rw [hN]; decide) rfl ?_
      refine sv_sub (lv' := [(0, .ref h0), (1, .int 0)]) [1, 0] rfl ?_
      exact w_X9_forget_65 C hZ hR hN sv_fu _ _ hf
    · replace hf := sv_if_f c46 hf
      refine sv_aload_n 0 C dX9_forget_49 rfl rfl ?_
      refine md_getr C fl_X9_35 (by decide) dX9_forget_50 ?_
      refine sv_iload_n 1 C dX9_forget_53 rfl rfl ?_
      refine sv_ldc C kw_562 dX9_forget_54 ?_
      obtain ⟨g56, hf⟩ := sv_g_some hf
      refine md_iast C 7 rfl g56 dX9_forget_56 ?_
      refine sv_iinc (v := x1 + 1) (lv' := [(1, .int (x1 + 1)), (0, .ref h0)]) 1 C dX9_forget_57 rfl rfl (by rw [hN]; decide) rfl ?_
      refine sv_goto (tgt := 43) C dX9_forget_60 (by decide) ?_
      refine sv_sub (lv' := [(0, .ref h0), (1, .int (x1 + 1))]) [1, 0] rfl ?_
      exact ih _ _ hf
set_option maxHeartbeats 4000000 in
set_option maxRecDepth 100000 in
theorem w_X9_forget_22 {E : sv_E} {X : sv_X} {sz : Nat} {q : md_B} {h0 : Nat} {ad : Nat → Nat} (C : sv_C E X cX9_forget RX9 []) (hZ : sv_Z E X none none (md_w E h0 ad q) sz 0 0) (hR : sv_R X = { frames := 0, cells := 0, slots := 0, locals := 0 }) (hN : sv_nL X = 2) : ∀ (n : Nat) (B : md_B) (x1 : Int32), f_X9_forget_22 n B x1 = some q → sv_J E X (md_w E h0 ad B) sz 0 0 22 [(0, .ref h0), (1, .int x1)] [] := by
  intro n
  induction n with
  | zero =>
    intro B x1 hf
    rw [f_X9_forget_22] at hf
    cases hf
  | succ n ih =>
    intro B x1 hf
    rw [f_X9_forget_22] at hf
    refine sv_iload_n 1 C dX9_forget_22 rfl rfl ?_
    refine sv_bipush (v := 9) C dX9_forget_23 (by decide) ?_
    refine sv_icmp_ge (tgt := 41) C dX9_forget_25 (by decide) (fun c25 => ?_) (fun c25 => ?_)
    · replace hf := sv_if_t c25 hf
      refine sv_iconst (v := 0) C dX9_forget_41 (by decide) ?_
      refine sv_istore_n (lv' := [(1, .int 0), (0, .ref h0)]) C dX9_forget_42 rfl (by rw [hN]; decide) rfl ?_
      refine sv_sub (lv' := [(0, .ref h0), (1, .int 0)]) [1, 0] rfl ?_
      exact w_X9_forget_43 C hZ hR hN sv_fu _ _ hf
    · replace hf := sv_if_f c25 hf
      refine sv_aload_n 0 C dX9_forget_28 rfl rfl ?_
      refine md_getr C fl_X9_23 (by decide) dX9_forget_29 ?_
      refine sv_iload_n 1 C dX9_forget_32 rfl rfl ?_
      refine sv_iconst (v := 0) C dX9_forget_33 (by decide) ?_
      obtain ⟨g34, hf⟩ := sv_g_some hf
      refine md_iast C 3 rfl g34 dX9_forget_34 ?_
      refine sv_iinc (v := x1 + 1) (lv' := [(1, .int (x1 + 1)), (0, .ref h0)]) 1 C dX9_forget_35 rfl rfl (by rw [hN]; decide) rfl ?_
      refine sv_goto (tgt := 22) C dX9_forget_38 (by decide) ?_
      refine sv_sub (lv' := [(0, .ref h0), (1, .int (x1 + 1))]) [1, 0] rfl ?_
      exact ih _ _ hf
set_option maxHeartbeats 4000000 in
set_option maxRecDepth 100000 in
theorem m_X9_forget (l : Launch) (E : sv_E) (h0 : Nat) (ad : Nat → Nat) (sz : Nat) (B : md_B) (q : md_B) (hf : f_X9_forget B = some q) : sv_Met l E yX9_forget cX9_forget 2 none 0 0 [] [.ref h0] (md_w E h0 ad B) sz none (md_w E h0 ad q) sz 0 0 := by
  refine sv_ofJ (by decide) (Nat.le_of_ble_eq_true rfl) ?_
  intro X hX hN hnm hR C hZ
  replace C : sv_C E X cX9_forget RX9 [] := C
  show sv_J E X (md_w E h0 ad B) sz 0 0 0 [(0, .ref h0)] []
  rw [f_X9_forget] at hf
  refine sv_aload_n 0 C dX9_forget_0 rfl rfl ?_
  refine sv_iconst (v := 0) C dX9_forget_1 (by decide) ?_
  refine md_puti C fl_X9_90 (by decide) rfl rfl dX9_forget_2 ?_
  refine sv_aload_n 0 C dX9_forget_5 rfl rfl ?_
  refine sv_iconst (v := 0) C dX9_forget_6 (by decide) ?_
  refine md_puti C fl_X9_93 (by decide) rfl rfl dX9_forget_7 ?_
  refine sv_aload_n 0 C dX9_forget_10 rfl rfl ?_
  refine sv_iconst (v := 0) C dX9_forget_11 (by decide) ?_
  refine md_puti C fl_X9_289 (by decide) rfl rfl dX9_forget_12 ?_
  refine sv_aload_n 0 C dX9_forget_15 rfl rfl ?_
  refine sv_iconst (v := 0) C dX9_forget_16 (by decide) ?_
  refine md_puti C fl_X9_280 (by decide) (by decide) (by decide) dX9_forget_17 ?_
  refine sv_iconst (v := 0) C dX9_forget_20 (by decide) ?_
  refine sv_istore_n (lv' := [(1, .int 0), (0, .ref h0)]) C dX9_forget_21 rfl (by rw [hN]; decide) rfl ?_
  refine sv_sub (lv' := [(0, .ref h0), (1, .int 0)]) [1, 0] rfl ?_
  exact w_X9_forget_22 C hZ hR hN sv_fu _ _ hf
def f_X9_clear (B : md_B) : Option (md_B) :=
  (f_X9_forget (md_pf B 0 0)).bind (fun q6 =>
    some (q6))
set_option maxHeartbeats 4000000 in
set_option maxRecDepth 100000 in
theorem m_X9_clear (l : Launch) (E : sv_E) (h0 : Nat) (ad : Nat → Nat) (sz : Nat) (B : md_B) (q : md_B) (hf : f_X9_clear B = some q) : sv_Met l E yX9_clear cX9_clear 1 none 1 21 [] [.ref h0] (md_w E h0 ad B) sz none (md_w E h0 ad q) sz 0 0 := by
  refine sv_ofJ (by decide) (Nat.le_of_ble_eq_true rfl) ?_
  intro X hX hN hnm hR C hZ
  replace C : sv_C E X cX9_clear RX9 [] := C
  show sv_J E X (md_w E h0 ad B) sz 0 0 0 [(0, .ref h0)] []
  rw [f_X9_clear] at hf
  refine sv_aload_n 0 C dX9_clear_0 rfl rfl ?_
  refine sv_iconst (v := 0) C dX9_clear_1 (by decide) ?_
  refine md_puti C fl_X9_1 (by decide) rfl rfl dX9_clear_2 ?_
  refine sv_aload_n 0 C dX9_clear_5 rfl rfl ?_
  obtain ⟨q6, hc6, hf⟩ := sv_bind_some hf
  refine sv_callV0 C mv_X9_67 (m_X9_forget (sv_l X) E h0 ad sz _ _ hc6) sv_sx0 0 rfl rfl rfl rfl (Nat.le_of_ble_eq_true rfl) ⟨by rw [hR]; decide, by rw [hR]; decide⟩ ⟨by rw [hR]; decide, by rw [hR]; decide⟩ dX9_clear_6 ?_
  exact sv_vret C (by cases hf; exact hZ) dX9_clear_9
