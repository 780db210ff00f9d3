def f_J0_coder_7d493 (t0 : List Int32) : Option (Int32) :=
  if (1 : Int32) = 0 then
    some 1
  else
    some 0
set_option maxHeartbeats 4000000 in
set_option maxRecDepth 100000 in
theorem m_J0_coder_7d493 (l : Launch) (E : sv_E) (wd : va_W) (sz : Nat) (k0 v0 : Nat) (t0 : List Int32) (q : Int32) (hf : f_J0_coder_7d493 t0 = some q) : sv_Met l E yJ0_coder_7d493 cJ0_coder_7d493 1 (some .byte) 0 0 [(k0, v0, t0)] [.ref k0] wd sz (some (.int q)) wd sz 0 0 := by
  refine sv_ofJ (by decide) (Nat.le_of_ble_eq_true rfl) ?_
  intro X hX hN hnm hR C hZ
  replace C : sv_C E X cJ0_coder_7d493 RJ0 [(k0, v0, t0)] := C
  show sv_J E X wd sz 0 0 0 [(0, .ref k0)] []
  rw [f_J0_coder_7d493] at hf
  refine ss_compact C kw_27 dJ0_coder_7d493_0 ?_
  refine sv_if_eq (tgt := 13) C dJ0_coder_7d493_3 (by decide) (fun c3 => ?_) (fun c3 => ?_)
  · replace hf := sv_if_t c3 hf
    refine sv_iconst (v := 1) C dJ0_coder_7d493_13 (by decide) ?_
    exact sv_zret (ty := .byte) C (by decide) (by cases hf; exact hZ) dJ0_coder_7d493_14
  · replace hf := sv_if_f c3 hf
    refine sv_aload_n 0 C dJ0_coder_7d493_6 rfl rfl ?_
    refine ss_coder (v := v0) (t := t0) C (List.mem_cons_self) kw_28 dJ0_coder_7d493_7 ?_
    refine sv_goto (tgt := 14) C dJ0_coder_7d493_10 (by decide) ?_
    exact sv_zret (ty := .byte) C (by decide) (by cases hf; exact hZ) dJ0_coder_7d493_14
def f_J0_isLatin1_aae02 (t0 : List Int32) : Option (Int32) :=
  if (1 : Int32) = 0 then
    some 0
  else
    if (0 : Int32) = 0 then
      some 1
    else
      some 0
set_option maxHeartbeats 4000000 in
set_option maxRecDepth 100000 in
theorem m_J0_isLatin1_aae02 (l : Launch) (E : sv_E) (wd : va_W) (sz : Nat) (k0 v0 : Nat) (t0 : List Int32) (q : Int32) (hf : f_J0_isLatin1_aae02 t0 = some q) : sv_Met l E yJ0_isLatin1_aae02 cJ0_isLatin1_aae02 1 (some .boolean) 0 0 [(k0, v0, t0)] [.ref k0] wd sz (some (.int q)) wd sz 0 0 := by
  refine sv_ofJ (by decide) (Nat.le_of_ble_eq_true rfl) ?_
  intro X hX hN hnm hR C hZ
  replace C : sv_C E X cJ0_isLatin1_aae02 RJ0 [(k0, v0, t0)] := C
  show sv_J E X wd sz 0 0 0 [(0, .ref k0)] []
  rw [f_J0_isLatin1_aae02] at hf
  refine ss_compact C kw_27 dJ0_isLatin1_aae02_0 ?_
  refine sv_if_eq (tgt := 17) C dJ0_isLatin1_aae02_3 (by decide) (fun c3 => ?_) (fun c3 => ?_)
  · replace hf := sv_if_t c3 hf
    refine sv_iconst (v := 0) C dJ0_isLatin1_aae02_17 (by decide) ?_
    exact sv_zret (ty := .boolean) C (by decide) (by cases hf; exact hZ) dJ0_isLatin1_aae02_18
  · replace hf := sv_if_f c3 hf
    refine sv_aload_n 0 C dJ0_isLatin1_aae02_6 rfl rfl ?_
    refine ss_coder (v := v0) (t := t0) C (List.mem_cons_self) kw_28 dJ0_isLatin1_aae02_7 ?_
    refine sv_if_ne (tgt := 17) C dJ0_isLatin1_aae02_10 (by decide) (fun c10 => ?_) (fun c10 => ?_)
    · replace hf := sv_if_f c10 hf
      refine sv_iconst (v := 0) C dJ0_isLatin1_aae02_17 (by decide) ?_
      exact sv_zret (ty := .boolean) C (by decide) (by cases hf; exact hZ) dJ0_isLatin1_aae02_18
    · replace hf := sv_if_t c10 hf
      refine sv_iconst (v := 1) C dJ0_isLatin1_aae02_13 (by decide) ?_
      refine sv_goto (tgt := 18) C dJ0_isLatin1_aae02_14 (by decide) ?_
      exact sv_zret (ty := .boolean) C (by decide) (by cases hf; exact hZ) dJ0_isLatin1_aae02_18
def f_J0_length_8abf5 (t0 : List Int32) : Option (Int32) :=
  (f_J0_coder_7d493 t0).bind (fun q6 =>
    some ((Int32.ofNat t0.length) >>> (q6 &&& 31)))
set_option maxHeartbeats 4000000 in
set_option maxRecDepth 100000 in
theorem m_J0_length_8abf5 (l : Launch) (E : sv_E) (wd : va_W) (sz : Nat) (k0 v0 : Nat) (t0 : List Int32) (q : Int32) (hf : f_J0_length_8abf5 t0 = some q) : sv_Met l E yJ0_length_8abf5 cJ0_length_8abf5 1 (some .int) 1 20 [(k0, v0, t0)] [.ref k0] wd sz (some (.int q)) wd sz 0 0 := by
  refine sv_ofJ (by decide) (Nat.le_of_ble_eq_true rfl) ?_
  intro X hX hN hnm hR C hZ
  replace C : sv_C E X cJ0_length_8abf5 RJ0 [(k0, v0, t0)] := C
  show sv_J E X wd sz 0 0 0 [(0, .ref k0)] []
  rw [f_J0_length_8abf5] at hf
  refine sv_aload_n 0 C dJ0_length_8abf5_0 rfl rfl ?_
  refine ss_value (v := v0) (t := t0) C (List.mem_cons_self) kw_52 dJ0_length_8abf5_1 ?_
  refine ss_alen (k := k0) (t := t0) C (List.mem_cons_self) dJ0_length_8abf5_4 ?_
  refine sv_aload_n 0 C dJ0_length_8abf5_5 rfl rfl ?_
  obtain ⟨q6, hc6, hf⟩ := sv_bind_some hf
  refine ss_callV (v := v0) (t := t0) C mv_J0_335 (m_J0_coder_7d493 (sv_l X) E _ sz k0 v0 _ _ hc6) sv_sx1 (List.mem_cons_self) rfl rfl rfl (Nat.le_of_ble_eq_true rfl) ⟨by rw [hR]; decide, by rw [hR]; decide⟩ ⟨by rw [hR]; decide, by rw [hR]; decide⟩ dJ0_length_8abf5_6 ?_
  refine sv_ishr C dJ0_length_8abf5_9 ?_
  exact sv_iret C (by cases hf; exact hZ) dJ0_length_8abf5_10
def f_J1_canEncode_9a6ad (x0 : Int32) : Option (Int32) :=
  if x0 < 0 then
    some 0
  else
    if 255 < x0 then
      some 0
    else
      some 1
set_option maxHeartbeats 4000000 in
set_option maxRecDepth 100000 in
theorem m_J1_canEncode_9a6ad (l : Launch) (E : sv_E) (wd : va_W) (sz : Nat) (x0 : Int32) (q : Int32) (hf : f_J1_canEncode_9a6ad x0 = some q) : sv_Met l E yJ1_canEncode_9a6ad cJ1_canEncode_9a6ad 1 (some .boolean) 0 0 [] [.int x0] wd sz (some (.int q)) wd sz 0 0 := by
  refine sv_ofJ (by decide) (Nat.le_of_ble_eq_true rfl) ?_
  intro X hX hN hnm hR C hZ
  replace C : sv_C E X cJ1_canEncode_9a6ad RJ1 [] := C
  show sv_J E X wd sz 0 0 0 [(0, .int x0)] []
  rw [f_J1_canEncode_9a6ad] at hf
  refine sv_iload_n 0 C dJ1_canEncode_9a6ad_0 rfl rfl ?_
  refine sv_if_lt (tgt := 15) C dJ1_canEncode_9a6ad_1 (by decide) (fun c1 => ?_) (fun c1 => ?_)
  · replace hf := sv_if_t c1 hf
    refine sv_iconst (v := 0) C dJ1_canEncode_9a6ad_15 (by decide) ?_
    exact sv_zret (ty := .boolean) C (by decide) (by cases hf; exact hZ) dJ1_canEncode_9a6ad_16
  · replace hf := sv_if_f c1 hf
    refine sv_iload_n 0 C dJ1_canEncode_9a6ad_4 rfl rfl ?_
    refine sv_sipush (v := 255) C dJ1_canEncode_9a6ad_5 (by decide) ?_
    refine sv_icmp_gt (tgt := 15) C dJ1_canEncode_9a6ad_8 (by decide) (fun c8 => ?_) (fun c8 => ?_)
    · replace hf := sv_if_t c8 hf
      refine sv_iconst (v := 0) C dJ1_canEncode_9a6ad_15 (by decide) ?_
      exact sv_zret (ty := .boolean) C (by decide) (by cases hf; exact hZ) dJ1_canEncode_9a6ad_16
    · replace hf := sv_if_f c8 hf
      refine sv_iconst (v := 1) C dJ1_canEncode_9a6ad_11 (by decide) ?_
      refine sv_goto (tgt := 16) C dJ1_canEncode_9a6ad_12 (by decide) ?_
      exact sv_zret (ty := .boolean) C (by decide) (by cases hf; exact hZ) dJ1_canEncode_9a6ad_16
def f_J1_indexOfChar_4cfef_7 (t0 : List Int32) : Nat → Int32 → Int32 → Int32 → Option (Int32)
  | 0, _, _, _ => none
  | n + 1, x3, x4, x5 =>
    if x3 ≤ x5 then
      some (-1)
    else
      sv_g (sv_inb x5 t0.length) (
        if (t0.getD x5.toNatClampNeg 0) = x4 then
          some x5
        else
          (f_J1_indexOfChar_4cfef_7 t0 n) x3 x4 (x5 + 1))
def f_J1_indexOfChar_4cfef (t0 : List Int32) (x1 : Int32) (x2 : Int32) (x3 : Int32) : Option (Int32) :=
  f_J1_indexOfChar_4cfef_7 t0 sv_fu x3 x1.toInt8.toInt32 x2
set_option maxHeartbeats 4000000 in
set_option maxRecDepth 100000 in
theorem w_J1_indexOfChar_4cfef_7 {E : sv_E} {X : sv_X} {sz : Nat} {q : Int32} {wd : va_W} {k0 v0 : Nat} {t0 : List Int32} (C : sv_C E X cJ1_indexOfChar_4cfef RJ1 [(k0, v0, t0)]) (hZ : sv_Z E X (some .int) (some (.int q)) wd sz 0 0) (hR : sv_R X = { frames := 0, cells := 0, slots := 0, locals := 0 }) (hN : sv_nL X = 6) : ∀ (n : Nat) (x3 : Int32) (x4 : Int32) (x5 : Int32), f_J1_indexOfChar_4cfef_7 t0 n x3 x4 x5 = some q → sv_J E X wd sz 0 0 7 [(0, .ref v0), (3, .int x3), (4, .int x4), (5, .int x5)] [] := by
  intro n
  induction n with
  | zero =>
    intro x3 x4 x5 hf
    rw [f_J1_indexOfChar_4cfef_7] at hf
    cases hf
  | succ n ih =>
    intro x3 x4 x5 hf
    rw [f_J1_indexOfChar_4cfef_7] at hf
    refine sv_iload 3 C dJ1_indexOfChar_4cfef_7 rfl ?_
    refine sv_iload_n 1 C dJ1_indexOfChar_4cfef_9 rfl rfl ?_
    refine sv_icmp_ge (tgt := 31) C dJ1_indexOfChar_4cfef_10 (by decide) (fun c10 => ?_) (fun c10 => ?_)
    · replace hf := sv_if_t c10 hf
      refine sv_iconst (v := (-1)) C dJ1_indexOfChar_4cfef_31 (by decide) ?_
      exact sv_iret C (by cases hf; exact hZ) dJ1_indexOfChar_4cfef_32
    · replace hf := sv_if_f c10 hf
      refine sv_aload_n 0 C dJ1_indexOfChar_4cfef_13 rfl rfl ?_
      refine sv_iload 3 C dJ1_indexOfChar_4cfef_14 rfl ?_
      obtain ⟨g16, hf⟩ := sv_g_some hf
      refine ss_bald (k := k0) (t := t0) C (List.mem_cons_self) g16 dJ1_indexOfChar_4cfef_16 ?_
      refine sv_iload 2 C dJ1_indexOfChar_4cfef_17 rfl ?_
      refine sv_icmp_ne (tgt := 25) C dJ1_indexOfChar_4cfef_19 (by decide) (fun c19 => ?_) (fun c19 => ?_)
      · replace hf := sv_if_f c19 hf
        refine sv_iinc (v := x5 + 1) (lv' := [(5, .int (x5 + 1)), (0, .ref v0), (3, .int x3), (4, .int x4)]) 3 C dJ1_indexOfChar_4cfef_25 rfl rfl (by rw [hN]; decide) rfl ?_
        refine sv_goto (tgt := 7) C dJ1_indexOfChar_4cfef_28 (by decide) ?_
        refine sv_sub (lv' := [(0, .ref v0), (3, .int x3), (4, .int x4), (5, .int (x5 + 1))]) [1, 2, 3, 0] rfl ?_
        exact ih _ _ _ hf
      · replace hf := sv_if_t c19 hf
        refine sv_iload 3 C dJ1_indexOfChar_4cfef_22 rfl ?_
        exact sv_iret C (by cases hf; exact hZ) dJ1_indexOfChar_4cfef_24
set_option maxHeartbeats 4000000 in
set_option maxRecDepth 100000 in
theorem m_J1_indexOfChar_4cfef (l : Launch) (E : sv_E) (wd : va_W) (sz : Nat) (k0 v0 : Nat) (t0 : List Int32) (x1 : Int32) (x2 : Int32) (x3 : Int32) (q : Int32) (hf : f_J1_indexOfChar_4cfef t0 x1 x2 x3 = some q) : sv_Met l E yJ1_indexOfChar_4cfef cJ1_indexOfChar_4cfef 6 (some .int) 0 0 [(k0, v0, t0)] [.ref v0, .int x1, .int x2, .int x3] wd sz (some (.int q)) wd sz 0 0 := by
  refine sv_ofJ (by decide) (Nat.le_of_ble_eq_true rfl) ?_
  intro X hX hN hnm hR C hZ
  replace C : sv_C E X cJ1_indexOfChar_4cfef RJ1 [(k0, v0, t0)] := C
  show sv_J E X wd sz 0 0 0 [(0, .ref v0), (1, .int x1), (2, .int x2), (3, .int x3)] []
  rw [f_J1_indexOfChar_4cfef] at hf
  refine sv_iload_n 1 C dJ1_indexOfChar_4cfef_0 rfl rfl ?_
  refine sv_i2b C dJ1_indexOfChar_4cfef_1 ?_
  refine sv_istore (lv' := [(4, .int x1.toInt8.toInt32), (0, .ref v0), (1, .int x1), (2, .int x2), (3, .int x3)]) C dJ1_indexOfChar_4cfef_2 (by rw [hN]; decide) rfl ?_
  refine sv_iload_n 3 C dJ1_indexOfChar_4cfef_4 rfl rfl ?_
  refine sv_istore (lv' := [(5, .int x2), (4, .int x1.toInt8.toInt32), (0, .ref v0), (1, .int x1), (2, .int x2), (3, .int x3)]) C dJ1_indexOfChar_4cfef_5 (by rw [hN]; decide) rfl ?_
  refine sv_sub (lv' := [(0, .ref v0), (3, .int x3), (4, .int x1.toInt8.toInt32), (5, .int x2)]) [2, 5, 1, 0] rfl ?_
  exact w_J1_indexOfChar_4cfef_7 C hZ hR hN sv_fu _ _ _ hf
def f_J7_fill_53178_5 (T : gh_T) (a0 : Nat) : Nat → gh_V → Int32 → Int32 → Int32 → Option (gh_V)
  | 0, _, _, _, _ => none
  | n + 1, V, x1, x2, x3 =>
    if x3 ≤ x2 then
      some (V)
    else
      sv_g (sv_inb x2 (T.2.2.2.1 a0)) (
        (f_J7_fill_53178_5 T a0 n) (gh_pa V a0 x2 x1) x1 (x2 + 1) x3)
def f_J7_fill_53178 (T : gh_T) (V : gh_V) (a0 : Nat) (x1 : Int32) : Option (gh_V) :=
  f_J7_fill_53178_5 T a0 sv_fu V x1 0 (Int32.ofNat (T.2.2.2.1 a0))
set_option maxHeartbeats 4000000 in
set_option maxRecDepth 100000 in
theorem w_J7_fill_53178_5 {E : sv_E} {X : sv_X} {sz : Nat} {q : gh_V} {T : gh_T} {a0 : Nat} (C : sv_C E X cJ7_fill_53178 RJ7 []) (hZ : sv_Z E X none none (gh_w E T q) sz 0 0) (hR : sv_R X = { frames := 0, cells := 0, slots := 0, locals := 0 }) (hN : sv_nL X = 4) (hT : gh_ok T) (o_a0 : gh_is T a0 10) : ∀ (n : Nat) (V : gh_V) (x1 : Int32) (x2 : Int32) (x3 : Int32), f_J7_fill_53178_5 T a0 n V x1 x2 x3 = some q → sv_J E X (gh_w E T V) sz 0 0 5 [(0, .ref a0), (1, .int x1), (2, .int x2), (3, .int x3)] [] := by
  intro n
  induction n with
  | zero =>
    intro V x1 x2 x3 hf
    rw [f_J7_fill_53178_5] at hf
    cases hf
  | succ n ih =>
    intro V x1 x2 x3 hf
    rw [f_J7_fill_53178_5] at hf
    refine sv_iload_n 2 C dJ7_fill_53178_5 rfl rfl ?_
    refine sv_iload_n 3 C dJ7_fill_53178_6 rfl rfl ?_
    refine sv_icmp_ge (tgt := 20) C dJ7_fill_53178_7 (by decide) (fun c7 => ?_) (fun c7 => ?_)
    · replace hf := sv_if_t c7 hf
      exact sv_vret C (by cases hf; exact hZ) dJ7_fill_53178_20
    · replace hf := sv_if_f c7 hf
      refine sv_aload_n 0 C dJ7_fill_53178_10 rfl rfl ?_
      refine sv_iload_n 2 C dJ7_fill_53178_11 rfl rfl ?_
      refine sv_iload_n 1 C dJ7_fill_53178_12 rfl rfl ?_
      obtain ⟨g13, hf⟩ := sv_g_some hf
      refine gh_iast C o_a0 g13 dJ7_fill_53178_13 ?_
      refine sv_iinc (v := x2 + 1) (lv' := [(2, .int (x2 + 1)), (0, .ref a0), (1, .int x1), (3, .int x3)]) 2 C dJ7_fill_53178_14 rfl rfl (by rw [hN]; decide) rfl ?_
      refine sv_goto (tgt := 5) C dJ7_fill_53178_17 (by decide) ?_
      refine sv_sub (lv' := [(0, .ref a0), (1, .int x1), (2, .int (x2 + 1)), (3, .int x3)]) [1, 2, 0, 3] rfl ?_
      exact ih _ _ _ _ hf
set_option maxHeartbeats 4000000 in
set_option maxRecDepth 100000 in
theorem m_J7_fill_53178 (l : Launch) (E : sv_E) (T : gh_T) (sz : Nat) (V : gh_V) (a0 : Nat) (x1 : Int32) (q : gh_V) (hf : f_J7_fill_53178 T V a0 x1 = some q) (hT : gh_ok T) (o_a0 : gh_is T a0 10) : sv_Met l E yJ7_fill_53178 cJ7_fill_53178 4 none 0 0 [] [.ref a0, .int x1] (gh_w E T V) sz none (gh_w E T q) sz 0 0 := by
  refine sv_ofJ (by decide) (Nat.le_of_ble_eq_true rfl) ?_
  intro X hX hN hnm hR C hZ
  replace C : sv_C E X cJ7_fill_53178 RJ7 [] := C
  show sv_J E X (gh_w E T V) sz 0 0 0 [(0, .ref a0), (1, .int x1)] []
  rw [f_J7_fill_53178] at hf
  refine sv_iconst (v := 0) C dJ7_fill_53178_0 (by decide) ?_
  refine sv_istore_n (lv' := [(2, .int 0), (0, .ref a0), (1, .int x1)]) C dJ7_fill_53178_1 rfl (by rw [hN]; decide) rfl ?_
  refine sv_aload_n 1 C dJ7_fill_53178_2 rfl rfl ?_
  refine gh_alen C o_a0 (by decide) dJ7_fill_53178_3 ?_
  refine sv_istore_n (lv' := [(3, .int (Int32.ofNat (T.2.2.2.1 a0))), (2, .int 0), (0, .ref a0), (1, .int x1)]) C dJ7_fill_53178_4 rfl (by rw [hN]; decide) rfl ?_
  refine sv_sub (lv' := [(0, .ref a0), (1, .int x1), (2, .int 0), (3, .int (Int32.ofNat (T.2.2.2.1 a0)))]) [2, 3, 1, 0] rfl ?_
  exact w_J7_fill_53178_5 C hZ hR hN hT o_a0 sv_fu _ _ _ _ hf
def f_J1_indexOf_4cfef (t0 : List Int32) (x1 : Int32) (x2 : Int32) (x3 : Int32) : Option (Int32) :=
  (f_J1_canEncode_9a6ad x1).bind (fun q1 =>
    if q1 = 0 then
      some (-1)
    else
      if (if x2 < 0 then 0 else x2) < (if (Int32.ofNat t0.length) < x3 then (Int32.ofNat t0.length) else x3) then
        (f_J1_indexOfChar_4cfef t0 x1 (if x2 < 0 then 0 else x2) (if (Int32.ofNat t0.length) < x3 then (Int32.ofNat t0.length) else x3)).bind (fun q33 =>
          some q33)
      else
        some (-1))
set_option maxHeartbeats 4000000 in
set_option maxRecDepth 100000 in
theorem m_J1_indexOf_4cfef (l : Launch) (E : sv_E) (wd : va_W) (sz : Nat) (k0 v0 : Nat) (t0 : List Int32) (x1 : Int32) (x2 : Int32) (x3 : Int32) (q : Int32) (hf : f_J1_indexOf_4cfef t0 x1 x2 x3 = some q) : sv_Met l E yJ1_indexOf_4cfef cJ1_indexOf_4cfef 4 (some .int) 1 25 [(k0, v0, t0)] [.ref v0, .int x1, .int x2, .int x3] wd sz (some (.int q)) wd sz 0 0 := by
  refine sv_ofJ (by decide) (Nat.le_of_ble_eq_true rfl) ?_
  intro X hX hN hnm hR C hZ
  replace C : sv_C E X cJ1_indexOf_4cfef RJ1 [(k0, v0, t0)] := C
  show sv_J E X wd sz 0 0 0 [(0, .ref v0), (1, .int x1), (2, .int x2), (3, .int x3)] []
  rw [f_J1_indexOf_4cfef] at hf
  refine sv_iload_n 1 C dJ1_indexOf_4cfef_0 rfl rfl ?_
  obtain ⟨q1, hc1, hf⟩ := sv_bind_some hf
  refine sv_callS0 C ms_J1_88 (m_J1_canEncode_9a6ad (sv_l X) E _ sz _ _ hc1) sv_sx0 rfl rfl (Nat.le_of_ble_eq_true rfl) ⟨by rw [hR]; decide, by rw [hR]; decide⟩ ⟨by rw [hR]; decide, by rw [hR]; decide⟩ dJ1_indexOf_4cfef_1 ?_
  refine sv_if_ne (tgt := 9) C dJ1_indexOf_4cfef_4 (by decide) (fun c4 => ?_) (fun c4 => ?_)
  · replace hf := sv_if_f c4 hf
    refine sv_iload_n 2 C dJ1_indexOf_4cfef_9 rfl rfl ?_
    refine sv_iconst (v := 0) C dJ1_indexOf_4cfef_10 (by decide) ?_
    refine sv_mmax C kw_94 kw_95 kw_96 kw_97 ⟨by rw [hR]; decide, by rw [hR]; exact Nat.le_of_ble_eq_true rfl⟩ ⟨by rw [hR]; decide, by rw [hR]; decide⟩ dJ1_indexOf_4cfef_11 ?_
    refine sv_istore_n (lv' := [(2, .int (if x2 < 0 then 0 else x2)), (0, .ref v0), (1, .int x1), (3, .int x3)]) C dJ1_indexOf_4cfef_14 rfl (by rw [hN]; decide) rfl ?_
    refine sv_iload_n 3 C dJ1_indexOf_4cfef_15 rfl rfl ?_
    refine sv_aload_n 1 C dJ1_indexOf_4cfef_16 rfl rfl ?_
    refine ss_alen (k := k0) (t := t0) C (List.mem_cons_self) dJ1_indexOf_4cfef_17 ?_
    refine sv_mmin C kw_98 kw_99 kw_96 kw_100 ⟨by rw [hR]; decide, by rw [hR]; exact Nat.le_of_ble_eq_true rfl⟩ ⟨by rw [hR]; decide, by rw [hR]; decide⟩ dJ1_indexOf_4cfef_18 ?_
    refine sv_istore_n (lv' := [(3, .int (if (Int32.ofNat t0.length) < x3 then (Int32.ofNat t0.length) else x3)), (2, .int (if x2 < 0 then 0 else x2)), (0, .ref v0), (1, .int x1)]) C dJ1_indexOf_4cfef_21 rfl (by rw [hN]; decide) rfl ?_
    refine sv_iload_n 1 C dJ1_indexOf_4cfef_22 rfl rfl ?_
    refine sv_iload_n 0 C dJ1_indexOf_4cfef_23 rfl rfl ?_
    refine sv_icmp_lt (tgt := 29) C dJ1_indexOf_4cfef_24 (by decide) (fun c24 => ?_) (fun c24 => ?_)
    · replace hf := sv_if_t c24 hf
      refine sv_aload_n 2 C dJ1_indexOf_4cfef_29 rfl rfl ?_
      refine sv_iload_n 3 C dJ1_indexOf_4cfef_30 rfl rfl ?_
      refine sv_iload_n 1 C dJ1_indexOf_4cfef_31 rfl rfl ?_
      refine sv_iload_n 0 C dJ1_indexOf_4cfef_32 rfl rfl ?_
      obtain ⟨q33, hc33, hf⟩ := sv_bind_some hf
      refine sv_callS0 C ms_J1_95 (m_J1_indexOfChar_4cfef (sv_l X) E _ sz k0 v0 _ _ _ _ _ hc33) sv_sx1 rfl rfl (Nat.le_of_ble_eq_true rfl) ⟨by rw [hR]; decide, by rw [hR]; decide⟩ ⟨by rw [hR]; decide, by rw [hR]; decide⟩ dJ1_indexOf_4cfef_33 ?_
      exact sv_iret C (by cases hf; exact hZ) dJ1_indexOf_4cfef_36
    · replace hf := sv_if_f c24 hf
      refine sv_iconst (v := (-1)) C dJ1_indexOf_4cfef_27 (by decide) ?_
      exact sv_iret C (by cases hf; exact hZ) dJ1_indexOf_4cfef_28
  · replace hf := sv_if_t c4 hf
    refine sv_iconst (v := (-1)) C dJ1_indexOf_4cfef_7 (by decide) ?_
    exact sv_iret C (by cases hf; exact hZ) dJ1_indexOf_4cfef_8
def f_J0_indexOf_7cf53 (t0 : List Int32) (x1 : Int32) (x2 : Int32) : Option (Int32) :=
  (f_J0_isLatin1_aae02 t0).bind (fun q1 =>
    if q1 = 0 then
      (f_J0_length_8abf5 t0).bind (fun q30 =>
        none)
    else
      (f_J0_length_8abf5 t0).bind (fun q14 =>
        (f_J1_indexOf_4cfef t0 x1 x2 q14).bind (fun q17 =>
          some q17)))
set_option maxHeartbeats 4000000 in
set_option maxRecDepth 100000 in
theorem m_J0_indexOf_7cf53 (l : Launch) (E : sv_E) (wd : va_W) (sz : Nat) (k0 v0 : Nat) (t0 : List Int32) (x1 : Int32) (x2 : Int32) (q : Int32) (hf : f_J0_indexOf_7cf53 t0 x1 x2 = some q) : sv_Met l E yJ0_indexOf_7cf53 cJ0_indexOf_7cf53 3 (some .int) 2 48 [(k0, v0, t0)] [.ref k0, .int x1, .int x2] wd sz (some (.int q)) wd sz 0 0 := by
  refine sv_ofJ (by decide) (Nat.le_of_ble_eq_true rfl) ?_
  intro X hX hN hnm hR C hZ
  replace C : sv_C E X cJ0_indexOf_7cf53 RJ0 [(k0, v0, t0)] := C
  show sv_J E X wd sz 0 0 0 [(0, .ref k0), (1, .int x1), (2, .int x2)] []
  rw [f_J0_indexOf_7cf53] at hf
  refine sv_aload_n 0 C dJ0_indexOf_7cf53_0 rfl rfl ?_
  obtain ⟨q1, hc1, hf⟩ := sv_bind_some hf
  refine ss_callV (v := v0) (t := t0) C mv_J0_492 (m_J0_isLatin1_aae02 (sv_l X) E _ sz k0 v0 _ _ hc1) sv_sx1 (List.mem_cons_self) rfl rfl rfl (Nat.le_of_ble_eq_true rfl) ⟨by rw [hR]; decide, by rw [hR]; decide⟩ ⟨by rw [hR]; decide, by rw [hR]; decide⟩ dJ0_indexOf_7cf53_1 ?_
  refine sv_if_eq (tgt := 23) C dJ0_indexOf_7cf53_4 (by decide) (fun c4 => ?_) (fun c4 => ?_)
  · replace hf := sv_if_t c4 hf
    refine sv_aload_n 0 C dJ0_indexOf_7cf53_23 rfl rfl ?_
    refine ss_value (v := v0) (t := t0) C (List.mem_cons_self) kw_52 dJ0_indexOf_7cf53_24 ?_
    refine sv_iload_n 1 C dJ0_indexOf_7cf53_27 rfl rfl ?_
    refine sv_iload_n 2 C dJ0_indexOf_7cf53_28 rfl rfl ?_
    refine sv_aload_n 0 C dJ0_indexOf_7cf53_29 rfl rfl ?_
    obtain ⟨q30, hc30, hf⟩ := sv_bind_some hf
    refine ss_callV (v := v0) (t := t0) C mv_J0_505 (m_J0_length_8abf5 (sv_l X) E _ sz k0 v0 _ _ hc30) sv_sx1 (List.mem_cons_self) rfl rfl rfl (Nat.le_of_ble_eq_true rfl) ⟨by rw [hR]; decide, by rw [hR]; decide⟩ ⟨by rw [hR]; decide, by rw [hR]; decide⟩ dJ0_indexOf_7cf53_30 ?_
    cases hf
  · replace hf := sv_if_f c4 hf
    refine sv_aload_n 0 C dJ0_indexOf_7cf53_7 rfl rfl ?_
    refine ss_value (v := v0) (t := t0) C (List.mem_cons_self) kw_52 dJ0_indexOf_7cf53_8 ?_
    refine sv_iload_n 1 C dJ0_indexOf_7cf53_11 rfl rfl ?_
    refine sv_iload_n 2 C dJ0_indexOf_7cf53_12 rfl rfl ?_
    refine sv_aload_n 0 C dJ0_indexOf_7cf53_13 rfl rfl ?_
    obtain ⟨q14, hc14, hf⟩ := sv_bind_some hf
    refine ss_callV (v := v0) (t := t0) C mv_J0_505 (m_J0_length_8abf5 (sv_l X) E _ sz k0 v0 _ _ hc14) sv_sx1 (List.mem_cons_self) rfl rfl rfl (Nat.le_of_ble_eq_true rfl) ⟨by rw [hR]; decide, by rw [hR]; decide⟩ ⟨by rw [hR]; decide, by rw [hR]; decide⟩ dJ0_indexOf_7cf53_14 ?_
    obtain ⟨q17, hc17, hf⟩ := sv_bind_some hf
    refine sv_callS0 C ms_J0_637 (m_J1_indexOf_4cfef (sv_l X) E _ sz k0 v0 _ _ _ _ _ hc17) sv_sx1 rfl rfl (Nat.le_of_ble_eq_true rfl) ⟨by rw [hR]; decide, by rw [hR]; decide⟩ ⟨by rw [hR]; decide, by rw [hR]; decide⟩ dJ0_indexOf_7cf53_17 ?_
    refine sv_goto (tgt := 36) C dJ0_indexOf_7cf53_20 (by decide) ?_
    exact sv_iret C (by cases hf; exact hZ) dJ0_indexOf_7cf53_36
def f_J0_indexOf_0f7a4 (t0 : List Int32) (x1 : Int32) : Option (Int32) :=
  (f_J0_indexOf_7cf53 t0 x1 0).bind (fun q3 =>
    some q3)
set_option maxHeartbeats 4000000 in
set_option maxRecDepth 100000 in
theorem m_J0_indexOf_0f7a4 (l : Launch) (E : sv_E) (wd : va_W) (sz : Nat) (k0 v0 : Nat) (t0 : List Int32) (x1 : Int32) (q : Int32) (hf : f_J0_indexOf_0f7a4 t0 x1 = some q) : sv_Met l E yJ0_indexOf_0f7a4 cJ0_indexOf_0f7a4 2 (some .int) 3 70 [(k0, v0, t0)] [.ref k0, .int x1] wd sz (some (.int q)) wd sz 0 0 := by
  refine sv_ofJ (by decide) (Nat.le_of_ble_eq_true rfl) ?_
  intro X hX hN hnm hR C hZ
  replace C : sv_C E X cJ0_indexOf_0f7a4 RJ0 [(k0, v0, t0)] := C
  show sv_J E X wd sz 0 0 0 [(0, .ref k0), (1, .int x1)] []
  rw [f_J0_indexOf_0f7a4] at hf
  refine sv_aload_n 0 C dJ0_indexOf_0f7a4_0 rfl rfl ?_
  refine sv_iload_n 1 C dJ0_indexOf_0f7a4_1 rfl rfl ?_
  refine sv_iconst (v := 0) C dJ0_indexOf_0f7a4_2 (by decide) ?_
  obtain ⟨q3, hc3, hf⟩ := sv_bind_some hf
  refine ss_callV (v := v0) (t := t0) C mv_J0_633 (m_J0_indexOf_7cf53 (sv_l X) E _ sz k0 v0 _ _ _ _ hc3) sv_sx1 (List.mem_cons_self) rfl rfl rfl (Nat.le_of_ble_eq_true rfl) ⟨by rw [hR]; decide, by rw [hR]; decide⟩ ⟨by rw [hR]; decide, by rw [hR]; decide⟩ dJ0_indexOf_0f7a4_3 ?_
  exact sv_iret C (by cases hf; exact hZ) dJ0_indexOf_0f7a4_6
