def f_X9_keep_2 : Nat → md_B → Int32 → Int32 → Option (md_B)
  | 0, _, _, _ => none
  | n + 1, B, x2, x3 =>
    if x2 < x3 then
      some (B)
    else
      sv_g (sv_inb x3 18) (
        sv_g (sv_inb x3 18) (
          (f_X9_keep_2 n) (md_pa B 16 x3 (B.2 15 x3.toNatClampNeg)) x2 (x3 + 1)))
def f_X9_keep (B : md_B) (x1 : Int32) (x2 : Int32) : Option (md_B) :=
  f_X9_keep_2 sv_fu B x2 x1
set_option maxHeartbeats 4000000 in
set_option maxRecDepth 100000 in
theorem w_X9_keep_2 {E : sv_E} {X : sv_X} {sz : Nat} {q : md_B} {h0 : Nat} {ad : Nat → Nat} (C : sv_C E X cX9_keep RX9 []) (hZ : sv_Z E X none none (md_w E h0 ad q) sz 0 0) (hR : sv_R X = { frames := 0, cells := 0, slots := 0, locals := 0 }) (hN : sv_nL X = 4) : ∀ (n : Nat) (B : md_B) (x2 : Int32) (x3 : Int32), f_X9_keep_2 n B x2 x3 = some q → sv_J E X (md_w E h0 ad B) sz 0 0 2 [(0, .ref h0), (2, .int x2), (3, .int x3)] [] := by
  intro n
  induction n with
  | zero =>
    intro B x2 x3 hf
    rw [f_X9_keep_2] at hf
    cases hf
  | succ n ih =>
    intro B x2 x3 hf
    rw [f_X9_keep_2] at hf
    refine sv_iload_n 2 C dX9_keep_2 rfl rfl ?_
    refine sv_iload_n 1 C dX9_keep_3 rfl rfl ?_
    refine sv_icmp_gt (tgt := 25) C dX9_keep_4 (by decide) (fun c4 => ?_) (fun c4 => ?_)
    · replace hf := sv_if_t c4 hf
      exact sv_vret C (by cases hf; exact hZ) dX9_keep_25
    · replace hf := sv_if_f c4 hf
      refine sv_aload_n 0 C dX9_keep_7 rfl rfl ?_
      refine md_getr C fl_X9_35 (by decide) dX9_keep_8 ?_
      refine sv_iload_n 2 C dX9_keep_11 rfl rfl ?_
      refine sv_aload_n 0 C dX9_keep_12 rfl rfl ?_
      refine md_getr C fl_X9_32 (by decide) dX9_keep_13 ?_
      refine sv_iload_n 2 C dX9_keep_16 rfl rfl ?_
      obtain ⟨g17, hf⟩ := sv_g_some hf
      refine md_iald C 6 rfl g17 dX9_keep_17 ?_
      obtain ⟨g18, hf⟩ := sv_g_some hf
      refine md_iast C 7 rfl g18 dX9_keep_18 ?_
      refine sv_iinc (v := x3 + 1) (lv' := [(3, .int (x3 + 1)), (0, .ref h0), (2, .int x2)]) 2 C dX9_keep_19 rfl rfl (by rw [hN]; decide) rfl ?_
      refine sv_goto (tgt := 2) C dX9_keep_22 (by decide) ?_
      refine sv_sub (lv' := [(0, .ref h0), (2, .int x2), (3, .int (x3 + 1))]) [1, 2, 0] rfl ?_
      exact ih _ _ _ hf
set_option maxHeartbeats 4000000 in
set_option maxRecDepth 100000 in
theorem m_X9_keep (l : Launch) (E : sv_E) (h0 : Nat) (ad : Nat → Nat) (sz : Nat) (B : md_B) (x1 : Int32) (x2 : Int32) (q : md_B) (hf : f_X9_keep B x1 x2 = some q) : sv_Met l E yX9_keep cX9_keep 4 none 0 0 [] [.ref h0, .int x1, .int x2] (md_w E h0 ad B) sz none (md_w E h0 ad q) sz 0 0 := by
  refine sv_ofJ (by decide) (Nat.le_of_ble_eq_true rfl) ?_
  intro X hX hN hnm hR C hZ
  replace C : sv_C E X cX9_keep RX9 [] := C
  show sv_J E X (md_w E h0 ad B) sz 0 0 0 [(0, .ref h0), (1, .int x1), (2, .int x2)] []
  rw [f_X9_keep] at hf
  refine sv_iload_n 1 C dX9_keep_0 rfl rfl ?_
  refine sv_istore_n (lv' := [(3, .int x1), (0, .ref h0), (1, .int x1), (2, .int x2)]) C dX9_keep_1 rfl (by rw [hN]; decide) rfl ?_
  refine sv_sub (lv' := [(0, .ref h0), (2, .int x2), (3, .int x1)]) [1, 3, 0] rfl ?_
  exact w_X9_keep_2 C hZ hR hN sv_fu _ _ _ hf
def f_X9_read_31 (k5 : md_B → Int32 → Int32 → Int32 → Int32 → Option (Int32 × md_B)) (B : md_B) (x1 : Int32) (x2 : Int32) (x4 : Int32) (s0 : Int32) (s1 : Int32) : Option (Int32 × md_B) :=
  k5 B x1 x2 (s1 ||| s0) (x4 + 1)
def f_X9_read_5 : Nat → md_B → Int32 → Int32 → Int32 → Int32 → Option (Int32 × md_B)
  | 0, _, _, _, _, _ => none
  | n + 1, B, x1, x2, x3, x4 =>
    if (x1 + x2) ≤ x4 then
      some (x3, B)
    else
      sv_g (sv_inb x4 3240) (
        if (B.2 25 x4.toNatClampNeg) = 0 then
          f_X9_read_31 (f_X9_read_5 n) B x1 x2 x4 0 (x3 <<< (1 &&& 31))
        else
          f_X9_read_31 (f_X9_read_5 n) B x1 x2 x4 1 (x3 <<< (1 &&& 31)))
def f_X9_read (B : md_B) (x1 : Int32) (x2 : Int32) : Option (Int32 × md_B) :=
  f_X9_read_5 sv_fu B x1 x2 0 x1
set_option maxHeartbeats 4000000 in
set_option maxRecDepth 100000 in
theorem w_X9_read_31 {E : sv_E} {X : sv_X} {sz : Nat} {q : Int32 × md_B} {h0 : Nat} {ad : Nat → Nat} (C : sv_C E X cX9_read RX9 []) (hZ : sv_Z E X (some .int) (some (.int q.1)) (md_w E h0 ad q.2) sz 0 0) (hR : sv_R X = { frames := 0, cells := 0, slots := 0, locals := 0 }) (hN : sv_nL X = 5) {k5 : md_B → Int32 → Int32 → Int32 → Int32 → Option (Int32 × md_B)} (hk5 : ∀ (B : md_B) (x1 : Int32) (x2 : Int32) (x3 : Int32) (x4 : Int32), k5 B x1 x2 x3 x4 = some q → sv_J E X (md_w E h0 ad B) sz 0 0 5 [(0, .ref h0), (1, .int x1), (2, .int x2), (3, .int x3), (4, .int x4)] []) (B : md_B) (x1 : Int32) (x2 : Int32) (x4 : Int32) (s0 : Int32) (s1 : Int32) (hf : f_X9_read_31 k5 B x1 x2 x4 s0 s1 = some q) : sv_J E X (md_w E h0 ad B) sz 0 0 31 [(0, .ref h0), (1, .int x1), (2, .int x2), (4, .int x4)] [.int s0, .int s1] := by
  rw [f_X9_read_31] at hf
  refine sv_ior C dX9_read_31 ?_
  refine sv_istore_n (lv' := [(3, .int (s1 ||| s0)), (0, .ref h0), (1, .int x1), (2, .int x2), (4, .int x4)]) C dX9_read_32 rfl (by rw [hN]; decide) rfl ?_
  refine sv_iinc (v := x4 + 1) (lv' := [(4, .int (x4 + 1)), (3, .int (s1 ||| s0)), (0, .ref h0), (1, .int x1), (2, .int x2)]) 4 C dX9_read_33 rfl rfl (by rw [hN]; decide) rfl ?_
  refine sv_goto (tgt := 5) C dX9_read_36 (by decide) ?_
  refine sv_sub (lv' := [(0, .ref h0), (1, .int x1), (2, .int x2), (3, .int (s1 ||| s0)), (4, .int (x4 + 1))]) [2, 3, 4, 1, 0] rfl ?_
  exact hk5 _ _ _ _ _ hf
set_option maxHeartbeats 4000000 in
set_option maxRecDepth 100000 in
theorem w_X9_read_5 {E : sv_E} {X : sv_X} {sz : Nat} {q : Int32 × md_B} {h0 : Nat} {ad : Nat → Nat} (C : sv_C E X cX9_read RX9 []) (hZ : sv_Z E X (some .int) (some (.int q.1)) (md_w E h0 ad q.2) sz 0 0) (hR : sv_R X = { frames := 0, cells := 0, slots := 0, locals := 0 }) (hN : sv_nL X = 5) : ∀ (n : Nat) (B : md_B) (x1 : Int32) (x2 : Int32) (x3 : Int32) (x4 : Int32), f_X9_read_5 n B x1 x2 x3 x4 = some q → sv_J E X (md_w E h0 ad B) sz 0 0 5 [(0, .ref h0), (1, .int x1), (2, .int x2), (3, .int x3), (4, .int x4)] [] := by
  intro n
  induction n with
  | zero =>
    intro B x1 x2 x3 x4 hf
    rw [f_X9_read_5] at hf
    cases hf
  | succ n ih =>
    intro B x1 x2 x3 x4 hf
    rw [f_X9_read_5] at hf
    refine sv_iload 4 C dX9_read_5 rfl ?_
    refine sv_iload_n 1 C dX9_read_7 rfl rfl ?_
    refine sv_iload_n 2 C dX9_read_8 rfl rfl ?_
    refine sv_iadd C dX9_read_9 ?_
    refine sv_icmp_ge (tgt := 39) C dX9_read_10 (by decide) (fun c10 => ?_) (fun c10 => ?_)
    · replace hf := sv_if_t c10 hf
      refine sv_iload_n 3 C dX9_read_39 rfl rfl ?_
      exact sv_iret C (by cases hf; exact hZ) dX9_read_40
    · replace hf := sv_if_f c10 hf
      refine sv_iload_n 3 C dX9_read_13 rfl rfl ?_
      refine sv_iconst (v := 1) C dX9_read_14 (by decide) ?_
      refine sv_ishl C dX9_read_15 ?_
      refine sv_aload_n 0 C dX9_read_16 rfl rfl ?_
      refine md_getr C fl_X9_52 (by decide) dX9_read_17 ?_
      refine sv_iload 4 C dX9_read_20 rfl ?_
      obtain ⟨g22, hf⟩ := sv_g_some hf
      refine md_zald C 12 rfl g22 dX9_read_22 ?_
      refine sv_if_eq (tgt := 30) C dX9_read_23 (by decide) (fun c23 => ?_) (fun c23 => ?_)
      · replace hf := sv_if_t c23 hf
        refine sv_iconst (v := 0) C dX9_read_30 (by decide) ?_
        refine sv_sub (lv' := [(0, .ref h0), (1, .int x1), (2, .int x2), (4, .int x4)]) [0, 1, 2, 4] rfl ?_
        exact w_X9_read_31 C hZ hR hN ih _ _ _ _ _ _ hf
      · replace hf := sv_if_f c23 hf
        refine sv_iconst (v := 1) C dX9_read_26 (by decide) ?_
        refine sv_goto (tgt := 31) C dX9_read_27 (by decide) ?_
        refine sv_sub (lv' := [(0, .ref h0), (1, .int x1), (2, .int x2), (4, .int x4)]) [0, 1, 2, 4] rfl ?_
        exact w_X9_read_31 C hZ hR hN ih _ _ _ _ _ _ hf
set_option maxHeartbeats 4000000 in
set_option maxRecDepth 100000 in
theorem m_X9_read (l : Launch) (E : sv_E) (h0 : Nat) (ad : Nat → Nat) (sz : Nat) (B : md_B) (x1 : Int32) (x2 : Int32) (q : Int32 × md_B) (hf : f_X9_read B x1 x2 = some q) : sv_Met l E yX9_read cX9_read 5 (some .int) 0 0 [] [.ref h0, .int x1, .int x2] (md_w E h0 ad B) sz (some (.int q.1)) (md_w E h0 ad q.2) sz 0 0 := by
  refine sv_ofJ (by decide) (Nat.le_of_ble_eq_true rfl) ?_
  intro X hX hN hnm hR C hZ
  replace C : sv_C E X cX9_read RX9 [] := C
  show sv_J E X (md_w E h0 ad B) sz 0 0 0 [(0, .ref h0), (1, .int x1), (2, .int x2)] []
  rw [f_X9_read] at hf
  refine sv_iconst (v := 0) C dX9_read_0 (by decide) ?_
  refine sv_istore_n (lv' := [(3, .int 0), (0, .ref h0), (1, .int x1), (2, .int x2)]) C dX9_read_1 rfl (by rw [hN]; decide) rfl ?_
  refine sv_iload_n 2 C dX9_read_2 rfl rfl ?_
  refine sv_istore (lv' := [(4, .int x1), (3, .int 0), (0, .ref h0), (1, .int x1), (2, .int x2)]) C dX9_read_3 (by rw [hN]; decide) rfl ?_
  refine sv_sub (lv' := [(0, .ref h0), (1, .int x1), (2, .int x2), (3, .int 0), (4, .int x1)]) [2, 3, 4, 1, 0] rfl ?_
  exact w_X9_read_5 C hZ hR hN sv_fu _ _ _ _ _ hf
def f_X9_found_2 : Nat → md_B → Int32 → Int32 → Option (Int32 × md_B)
  | 0, _, _, _ => none
  | n + 1, B, x1, x2 =>
    if (B.1 28) ≤ x2 then
      some ((-2147483648), B)
    else
      sv_g (sv_inb (24 * x2) 960) (
        if (B.2 29 (24 * x2).toNatClampNeg) = x1 then
          some (x2, B)
        else
          (f_X9_found_2 n) B x1 (x2 + 1))
def f_X9_found (B : md_B) (x1 : Int32) : Option (Int32 × md_B) :=
  f_X9_found_2 sv_fu B x1 0
set_option maxHeartbeats 4000000 in
set_option maxRecDepth 100000 in
theorem w_X9_found_2 {E : sv_E} {X : sv_X} {sz : Nat} {q : Int32 × md_B} {h0 : Nat} {ad : Nat → Nat} (C : sv_C E X cX9_found RX9 []) (hZ : sv_Z E X (some .int) (some (.int q.1)) (md_w E h0 ad q.2) sz 0 0) (hR : sv_R X = { frames := 0, cells := 0, slots := 0, locals := 0 }) (hN : sv_nL X = 3) : ∀ (n : Nat) (B : md_B) (x1 : Int32) (x2 : Int32), f_X9_found_2 n B x1 x2 = some q → sv_J E X (md_w E h0 ad B) sz 0 0 2 [(0, .ref h0), (1, .int x1), (2, .int x2)] [] := by
  intro n
  induction n with
  | zero =>
    intro B x1 x2 hf
    rw [f_X9_found_2] at hf
    cases hf
  | succ n ih =>
    intro B x1 x2 hf
    rw [f_X9_found_2] at hf
    refine sv_iload_n 2 C dX9_found_2 rfl rfl ?_
    refine sv_aload_n 0 C dX9_found_3 rfl rfl ?_
    refine md_geti C fl_X9_289 (by decide) dX9_found_4 ?_
    refine sv_icmp_ge (tgt := 31) C dX9_found_7 (by decide) (fun c7 => ?_) (fun c7 => ?_)
    · replace hf := sv_if_t c7 hf
      refine sv_ldc C kw_562 dX9_found_31 ?_
      exact sv_iret C (by cases hf; exact hZ) dX9_found_33
    · replace hf := sv_if_f c7 hf
      refine sv_aload_n 0 C dX9_found_10 rfl rfl ?_
      refine md_getr C fl_X9_55 (by decide) dX9_found_11 ?_
      refine sv_bipush (v := 24) C dX9_found_14 (by decide) ?_
      refine sv_iload_n 2 C dX9_found_16 rfl rfl ?_
      refine sv_imul C dX9_found_17 ?_
      obtain ⟨g18, hf⟩ := sv_g_some hf
      refine md_iald C 13 rfl g18 dX9_found_18 ?_
      refine sv_iload_n 1 C dX9_found_19 rfl rfl ?_
      refine sv_icmp_ne (tgt := 25) C dX9_found_20 (by decide) (fun c20 => ?_) (fun c20 => ?_)
      · replace hf := sv_if_f c20 hf
        refine sv_iinc (v := x2 + 1) (lv' := [(2, .int (x2 + 1)), (0, .ref h0), (1, .int x1)]) 2 C dX9_found_25 rfl rfl (by rw [hN]; decide) rfl ?_
        refine sv_goto (tgt := 2) C dX9_found_28 (by decide) ?_
        refine sv_sub (lv' := [(0, .ref h0), (1, .int x1), (2, .int (x2 + 1))]) [1, 2, 0] rfl ?_
        exact ih _ _ _ hf
      · replace hf := sv_if_t c20 hf
        refine sv_iload_n 2 C dX9_found_23 rfl rfl ?_
        exact sv_iret C (by cases hf; exact hZ) dX9_found_24
set_option maxHeartbeats 4000000 in
set_option maxRecDepth 100000 in
theorem m_X9_found (l : Launch) (E : sv_E) (h0 : Nat) (ad : Nat → Nat) (sz : Nat) (B : md_B) (x1 : Int32) (q : Int32 × md_B) (hf : f_X9_found B x1 = some q) : sv_Met l E yX9_found cX9_found 3 (some .int) 0 0 [] [.ref h0, .int x1] (md_w E h0 ad B) sz (some (.int q.1)) (md_w E h0 ad q.2) sz 0 0 := by
  refine sv_ofJ (by decide) (Nat.le_of_ble_eq_true rfl) ?_
  intro X hX hN hnm hR C hZ
  replace C : sv_C E X cX9_found RX9 [] := C
  show sv_J E X (md_w E h0 ad B) sz 0 0 0 [(0, .ref h0), (1, .int x1)] []
  rw [f_X9_found] at hf
  refine sv_iconst (v := 0) C dX9_found_0 (by decide) ?_
  refine sv_istore_n (lv' := [(2, .int 0), (0, .ref h0), (1, .int x1)]) C dX9_found_1 rfl (by rw [hN]; decide) rfl ?_
  refine sv_sub (lv' := [(0, .ref h0), (1, .int x1), (2, .int 0)]) [1, 2, 0] rfl ?_
  exact w_X9_found_2 C hZ hR hN sv_fu _ _ _ hf
def f_X9_signed (B : md_B) (x1 : Int32) (x2 : Int32) : Option (Int32 × md_B) :=
  (f_X9_read B x1 x2).bind (fun q3 =>
    some ((q3.1 <<< ((32 - x2) &&& 31)) >>> ((32 - x2) &&& 31), q3.2))
set_option maxHeartbeats 4000000 in
set_option maxRecDepth 100000 in
theorem m_X9_signed (l : Launch) (E : sv_E) (h0 : Nat) (ad : Nat → Nat) (sz : Nat) (B : md_B) (x1 : Int32) (x2 : Int32) (q : Int32 × md_B) (hf : f_X9_signed B x1 x2 = some q) : sv_Met l E yX9_signed cX9_signed 3 (some .int) 1 24 [] [.ref h0, .int x1, .int x2] (md_w E h0 ad B) sz (some (.int q.1)) (md_w E h0 ad q.2) sz 0 0 := by
  refine sv_ofJ (by decide) (Nat.le_of_ble_eq_true rfl) ?_
  intro X hX hN hnm hR C hZ
  replace C : sv_C E X cX9_signed RX9 [] := C
  show sv_J E X (md_w E h0 ad B) sz 0 0 0 [(0, .ref h0), (1, .int x1), (2, .int x2)] []
  rw [f_X9_signed] at hf
  refine sv_aload_n 0 C dX9_signed_0 rfl rfl ?_
  refine sv_iload_n 1 C dX9_signed_1 rfl rfl ?_
  refine sv_iload_n 2 C dX9_signed_2 rfl rfl ?_
  obtain ⟨q3, hc3, hf⟩ := sv_bind_some hf
  refine sv_callV0 C mv_X9_286 (m_X9_read (sv_l X) E h0 ad sz _ _ _ _ hc3) sv_sx0 0 rfl rfl rfl rfl (Nat.le_of_ble_eq_true rfl) ⟨by rw [hR]; decide, by rw [hR]; decide⟩ ⟨by rw [hR]; decide, by rw [hR]; decide⟩ dX9_signed_3 ?_
  refine sv_bipush (v := 32) C dX9_signed_6 (by decide) ?_
  refine sv_iload_n 2 C dX9_signed_8 rfl rfl ?_
  refine sv_isub C dX9_signed_9 ?_
  refine sv_ishl C dX9_signed_10 ?_
  refine sv_bipush (v := 32) C dX9_signed_11 (by decide) ?_
  refine sv_iload_n 2 C dX9_signed_13 rfl rfl ?_
  refine sv_isub C dX9_signed_14 ?_
  refine sv_ishr C dX9_signed_15 ?_
  exact sv_iret C (by cases hf; exact hZ) dX9_signed_16
def f_X9_put_30 (k4 : md_B → Int32 → Int32 → Option (md_B)) (B : md_B) (x1 : Int32) (x3 : Int32) (s0 : Int32) (s1 : Int32) : Option (md_B) :=
  sv_g (sv_inb s1 424) (
    k4 (md_pf (md_pa B 35 s1 (vp_nar .boolean s0)) 36 (((md_pa B 35 s1 (vp_nar .boolean s0)).1 36) + 1)) x1 (x3 + (-1)))
def f_X9_put_4 : Nat → md_B → Int32 → Int32 → Option (md_B)
  | 0, _, _, _ => none
  | n + 1, B, x1, x3 =>
    if x3 < 0 then
      some (B)
    else
      if ((x1 >>> (x3 &&& 31)) &&& 1) = 1 then
        f_X9_put_30 (f_X9_put_4 n) B x1 x3 1 (B.1 36)
      else
        f_X9_put_30 (f_X9_put_4 n) B x1 x3 0 (B.1 36)
def f_X9_put (B : md_B) (x1 : Int32) (x2 : Int32) : Option (md_B) :=
  f_X9_put_4 sv_fu B x1 (x2 - 1)
set_option maxHeartbeats 4000000 in
set_option maxRecDepth 100000 in
theorem w_X9_put_30 {E : sv_E} {X : sv_X} {sz : Nat} {q : md_B} {h0 : Nat} {ad : Nat → Nat} (C : sv_C E X cX9_put RX9 []) (hZ : sv_Z E X none none (md_w E h0 ad q) sz 0 0) (hR : sv_R X = { frames := 0, cells := 0, slots := 0, locals := 0 }) (hN : sv_nL X = 4) {k4 : md_B → Int32 → Int32 → Option (md_B)} (hk4 : ∀ (B : md_B) (x1 : Int32) (x3 : Int32), k4 B x1 x3 = some q → sv_J E X (md_w E h0 ad B) sz 0 0 4 [(0, .ref h0), (1, .int x1), (3, .int x3)] []) (B : md_B) (x1 : Int32) (x3 : Int32) (s0 : Int32) (s1 : Int32) (hf : f_X9_put_30 k4 B x1 x3 s0 s1 = some q) : sv_J E X (md_w E h0 ad B) sz 0 0 30 [(0, .ref h0), (1, .int x1), (3, .int x3)] [.int s0, .int s1, .ref (ad 35)] := by
  rw [f_X9_put_30] at hf
  obtain ⟨g30, hf⟩ := sv_g_some hf
  refine md_zast C 16 rfl g30 dX9_put_30 ?_
  refine sv_aload_n 0 C dX9_put_31 rfl rfl ?_
  refine sv_dup C dX9_put_32 rfl ?_
  refine md_geti C fl_X9_352 (by decide) dX9_put_33 ?_
  refine sv_iconst (v := 1) C dX9_put_36 (by decide) ?_
  refine sv_iadd C dX9_put_37 ?_
  refine md_puti C fl_X9_352 (by decide) rfl rfl dX9_put_38 ?_
  refine sv_iinc (v := x3 + (-1)) (lv' := [(3, .int (x3 + (-1))), (0, .ref h0), (1, .int x1)]) 2 C dX9_put_41 rfl rfl (by rw [hN]; decide) rfl ?_
  refine sv_goto (tgt := 4) C dX9_put_44 (by decide) ?_
  refine sv_sub (lv' := [(0, .ref h0), (1, .int x1), (3, .int (x3 + (-1)))]) [1, 2, 0] rfl ?_
  exact hk4 _ _ _ hf
set_option maxHeartbeats 4000000 in
set_option maxRecDepth 100000 in
theorem w_X9_put_4 {E : sv_E} {X : sv_X} {sz : Nat} {q : md_B} {h0 : Nat} {ad : Nat → Nat} (C : sv_C E X cX9_put RX9 []) (hZ : sv_Z E X none none (md_w E h0 ad q) sz 0 0) (hR : sv_R X = { frames := 0, cells := 0, slots := 0, locals := 0 }) (hN : sv_nL X = 4) : ∀ (n : Nat) (B : md_B) (x1 : Int32) (x3 : Int32), f_X9_put_4 n B x1 x3 = some q → sv_J E X (md_w E h0 ad B) sz 0 0 4 [(0, .ref h0), (1, .int x1), (3, .int x3)] [] := by
  intro n
  induction n with
  | zero =>
    intro B x1 x3 hf
    rw [f_X9_put_4] at hf
    cases hf
  | succ n ih =>
    intro B x1 x3 hf
    rw [f_X9_put_4] at hf
    refine sv_iload_n 2 C dX9_put_4 rfl rfl ?_
    refine sv_if_lt (tgt := 47) C dX9_put_5 (by decide) (fun c5 => ?_) (fun c5 => ?_)
    · replace hf := sv_if_t c5 hf
      exact sv_vret C (by cases hf; exact hZ) dX9_put_47
    · replace hf := sv_if_f c5 hf
      refine sv_aload_n 0 C dX9_put_8 rfl rfl ?_
      refine md_getr C fl_X9_64 (by decide) dX9_put_9 ?_
      refine sv_aload_n 0 C dX9_put_12 rfl rfl ?_
      refine md_geti C fl_X9_352 (by decide) dX9_put_13 ?_
      refine sv_iload_n 1 C dX9_put_16 rfl rfl ?_
      refine sv_iload_n 2 C dX9_put_17 rfl rfl ?_
      refine sv_ishr C dX9_put_18 ?_
      refine sv_iconst (v := 1) C dX9_put_19 (by decide) ?_
      refine sv_iand C dX9_put_20 ?_
      refine sv_iconst (v := 1) C dX9_put_21 (by decide) ?_
      refine sv_icmp_ne (tgt := 29) C dX9_put_22 (by decide) (fun c22 => ?_) (fun c22 => ?_)
      · replace hf := sv_if_f c22 hf
        refine sv_iconst (v := 0) C dX9_put_29 (by decide) ?_
        refine sv_sub (lv' := [(0, .ref h0), (1, .int x1), (3, .int x3)]) [0, 1, 2] rfl ?_
        exact w_X9_put_30 C hZ hR hN ih _ _ _ _ _ hf
      · replace hf := sv_if_t c22 hf
        refine sv_iconst (v := 1) C dX9_put_25 (by decide) ?_
        refine sv_goto (tgt := 30) C dX9_put_26 (by decide) ?_
        refine sv_sub (lv' := [(0, .ref h0), (1, .int x1), (3, .int x3)]) [0, 1, 2] rfl ?_
        exact w_X9_put_30 C hZ hR hN ih _ _ _ _ _ hf
set_option maxHeartbeats 4000000 in
set_option maxRecDepth 100000 in
theorem m_X9_put (l : Launch) (E : sv_E) (h0 : Nat) (ad : Nat → Nat) (sz : Nat) (B : md_B) (x1 : Int32) (x2 : Int32) (q : md_B) (hf : f_X9_put B x1 x2 = some q) : sv_Met l E yX9_put cX9_put 4 none 0 0 [] [.ref h0, .int x1, .int x2] (md_w E h0 ad B) sz none (md_w E h0 ad q) sz 0 0 := by
  refine sv_ofJ (by decide) (Nat.le_of_ble_eq_true rfl) ?_
  intro X hX hN hnm hR C hZ
  replace C : sv_C E X cX9_put RX9 [] := C
  show sv_J E X (md_w E h0 ad B) sz 0 0 0 [(0, .ref h0), (1, .int x1), (2, .int x2)] []
  rw [f_X9_put] at hf
  refine sv_iload_n 2 C dX9_put_0 rfl rfl ?_
  refine sv_iconst (v := 1) C dX9_put_1 (by decide) ?_
  refine sv_isub C dX9_put_2 ?_
  refine sv_istore_n (lv' := [(3, .int (x2 - 1)), (0, .ref h0), (1, .int x1), (2, .int x2)]) C dX9_put_3 rfl (by rw [hN]; decide) rfl ?_
  refine sv_sub (lv' := [(0, .ref h0), (1, .int x1), (3, .int (x2 - 1))]) [1, 2, 0] rfl ?_
  exact w_X9_put_4 C hZ hR hN sv_fu _ _ _ hf
def f_X9_go_81 (B : md_B) (x2 : Int32) : Option (md_B) :=
  some (md_pf B 32 ((B.1 32) + x2))
def f_X9_go_49 (B : md_B) (x2 : Int32) (s0 : Int32) (s1 : Int32) : Option (md_B) :=
  sv_g (sv_inb s1 960) (
    f_X9_go_81 (md_pa B 29 s1 s0) x2)
def f_X9_go_77 (B : md_B) (x2 : Int32) (s0 : Int32) : Option (md_B) :=
  (f_X9_put B s0 x2).bind (fun q78 =>
    f_X9_go_81 q78 x2)
def f_X9_go (B : md_B) (x1 : Int32) (x2 : Int32) (x3 : Int32) : Option (md_B) :=
  if (B.1 33) = 0 then
    if x3 = 0 then
      (f_X9_read B (B.1 32) x2).bind (fun q46 =>
        f_X9_go_49 q46.2 x2 q46.1 ((24 * (B.1 34)) + x1))
    else
      (f_X9_signed B (B.1 32) x2).bind (fun q34 =>
        f_X9_go_49 q34.2 x2 q34.1 ((24 * (B.1 34)) + x1))
  else
    sv_g (sv_inb ((24 * (B.1 34)) + x1) 960) (
      if (B.2 29 ((24 * (B.1 34)) + x1).toNatClampNeg) = (-2147483648) then
        f_X9_go_77 B x2 0
      else
        sv_g (sv_inb ((24 * (B.1 34)) + x1) 960) (
          f_X9_go_77 B x2 (B.2 29 ((24 * (B.1 34)) + x1).toNatClampNeg)))
set_option maxHeartbeats 4000000 in
set_option maxRecDepth 100000 in
theorem w_X9_go_81 {E : sv_E} {X : sv_X} {sz : Nat} {q : md_B} {h0 : Nat} {ad : Nat → Nat} (C : sv_C E X cX9_go RX9 []) (hZ : sv_Z E X none none (md_w E h0 ad q) sz 0 0) (hR : sv_R X = { frames := 2, cells := 0, slots := 0, locals := 46 }) (hN : sv_nL X = 5) (B : md_B) (x2 : Int32) (hf : f_X9_go_81 B x2 = some q) : sv_J E X (md_w E h0 ad B) sz 0 0 81 [(0, .ref h0), (2, .int x2)] [] := by
  rw [f_X9_go_81] at hf
  refine sv_aload_n 0 C dX9_go_81 rfl rfl ?_
  refine sv_dup C dX9_go_82 rfl ?_
  refine md_geti C fl_X9_306 (by decide) dX9_go_83 ?_
  refine sv_iload_n 1 C dX9_go_86 rfl rfl ?_
  refine sv_iadd C dX9_go_87 ?_
  refine md_puti C fl_X9_306 (by decide) rfl rfl dX9_go_88 ?_
  exact sv_vret C (by cases hf; exact hZ) dX9_go_91
set_option maxHeartbeats 4000000 in
set_option maxRecDepth 100000 in
theorem w_X9_go_49 {E : sv_E} {X : sv_X} {sz : Nat} {q : md_B} {h0 : Nat} {ad : Nat → Nat} (C : sv_C E X cX9_go RX9 []) (hZ : sv_Z E X none none (md_w E h0 ad q) sz 0 0) (hR : sv_R X = { frames := 2, cells := 0, slots := 0, locals := 46 }) (hN : sv_nL X = 5) (B : md_B) (x2 : Int32) (s0 : Int32) (s1 : Int32) (hf : f_X9_go_49 B x2 s0 s1 = some q) : sv_J E X (md_w E h0 ad B) sz 0 0 49 [(0, .ref h0), (2, .int x2)] [.int s0, .int s1, .ref (ad 29)] := by
  rw [f_X9_go_49] at hf
  obtain ⟨g49, hf⟩ := sv_g_some hf
  refine md_iast C 13 rfl g49 dX9_go_49 ?_
  refine sv_goto (tgt := 81) C dX9_go_50 (by decide) ?_
  refine sv_sub (lv' := [(0, .ref h0), (2, .int x2)]) [0, 1] rfl ?_
  exact w_X9_go_81 C hZ hR hN _ _ hf
set_option maxHeartbeats 4000000 in
set_option maxRecDepth 100000 in
theorem w_X9_go_77 {E : sv_E} {X : sv_X} {sz : Nat} {q : md_B} {h0 : Nat} {ad : Nat → Nat} (C : sv_C E X cX9_go RX9 []) (hZ : sv_Z E X none none (md_w E h0 ad q) sz 0 0) (hR : sv_R X = { frames := 2, cells := 0, slots := 0, locals := 46 }) (hN : sv_nL X = 5) (B : md_B) (x2 : Int32) (s0 : Int32) (hf : f_X9_go_77 B x2 s0 = some q) : sv_J E X (md_w E h0 ad B) sz 0 0 77 [(0, .ref h0), (2, .int x2)] [.int s0, .ref h0] := by
  rw [f_X9_go_77] at hf
  refine sv_iload_n 1 C dX9_go_77 rfl rfl ?_
  obtain ⟨q78, hc78, hf⟩ := sv_bind_some hf
  refine sv_callV0 C mv_X9_311 (m_X9_put (sv_l X) E h0 ad sz _ _ _ _ hc78) sv_sx0 0 rfl rfl rfl rfl (Nat.le_of_ble_eq_true rfl) ⟨by rw [hR]; decide, by rw [hR]; decide⟩ ⟨by rw [hR]; decide, by rw [hR]; decide⟩ dX9_go_78 ?_
  refine sv_sub (lv' := [(0, .ref h0), (2, .int x2)]) [0, 1] rfl ?_
  exact w_X9_go_81 C hZ hR hN _ _ hf
set_option maxHeartbeats 4000000 in
set_option maxRecDepth 100000 in
theorem m_X9_go (l : Launch) (E : sv_E) (h0 : Nat) (ad : Nat → Nat) (sz : Nat) (B : md_B) (x1 : Int32) (x2 : Int32) (x3 : Int32) (q : md_B) (hf : f_X9_go B x1 x2 x3 = some q) : sv_Met l E yX9_go cX9_go 5 none 2 46 [] [.ref h0, .int x1, .int x2, .int x3] (md_w E h0 ad B) sz none (md_w E h0 ad q) sz 0 0 := by
  refine sv_ofJ (by decide) (Nat.le_of_ble_eq_true rfl) ?_
  intro X hX hN hnm hR C hZ
  replace C : sv_C E X cX9_go RX9 [] := C
  show sv_J E X (md_w E h0 ad B) sz 0 0 0 [(0, .ref h0), (1, .int x1), (2, .int x2), (3, .int x3)] []
  rw [f_X9_go] at hf
  refine sv_bipush (v := 24) C dX9_go_0 (by decide) ?_
  refine sv_aload_n 0 C dX9_go_2 rfl rfl ?_
  refine md_geti C fl_X9_300 (by decide) dX9_go_3 ?_
  refine sv_imul C dX9_go_6 ?_
  refine sv_iload_n 1 C dX9_go_7 rfl rfl ?_
  refine sv_iadd C dX9_go_8 ?_
  refine sv_istore (lv' := [(4, .int ((24 * (B.1 34)) + x1)), (0, .ref h0), (1, .int x1), (2, .int x2), (3, .int x3)]) C dX9_go_9 (by rw [hN]; decide) rfl ?_
  refine sv_aload_n 1 C dX9_go_11 rfl rfl ?_
  refine md_geti C fl_X9_303 (by decide) dX9_go_12 ?_
  refine sv_if_ne (tgt := 53) C dX9_go_15 (by decide) (fun c15 => ?_) (fun c15 => ?_)
  · replace hf := sv_if_f c15 hf
    refine sv_aload_n 1 C dX9_go_53 rfl rfl ?_
    refine sv_aload_n 1 C dX9_go_54 rfl rfl ?_
    refine md_getr C fl_X9_55 (by decide) dX9_go_55 ?_
    refine sv_iload 0 C dX9_go_58 rfl ?_
    obtain ⟨g60, hf⟩ := sv_g_some hf
    refine md_iald C 13 rfl g60 dX9_go_60 ?_
    refine sv_ldc C kw_562 dX9_go_61 ?_
    refine sv_icmp_ne (tgt := 70) C dX9_go_63 (by decide) (fun c63 => ?_) (fun c63 => ?_)
    · replace hf := sv_if_f c63 hf
      refine sv_aload_n 1 C dX9_go_70 rfl rfl ?_
      refine md_getr C fl_X9_55 (by decide) dX9_go_71 ?_
      refine sv_iload 0 C dX9_go_74 rfl ?_
      obtain ⟨g76, hf⟩ := sv_g_some hf
      refine md_iald C 13 rfl g76 dX9_go_76 ?_
      refine sv_sub (lv' := [(0, .ref h0), (2, .int x2)]) [1, 3] rfl ?_
      exact w_X9_go_77 C hZ hR hN _ _ _ hf
    · replace hf := sv_if_t c63 hf
      refine sv_iconst (v := 0) C dX9_go_66 (by decide) ?_
      refine sv_goto (tgt := 77) C dX9_go_67 (by decide) ?_
      refine sv_sub (lv' := [(0, .ref h0), (2, .int x2)]) [1, 3] rfl ?_
      exact w_X9_go_77 C hZ hR hN _ _ _ hf
  · replace hf := sv_if_t c15 hf
    refine sv_aload_n 1 C dX9_go_18 rfl rfl ?_
    refine md_getr C fl_X9_55 (by decide) dX9_go_19 ?_
    refine sv_iload 0 C dX9_go_22 rfl ?_
    refine sv_iload_n 4 C dX9_go_24 rfl rfl ?_
    refine sv_if_eq (tgt := 40) C dX9_go_25 (by decide) (fun c25 => ?_) (fun c25 => ?_)
    · replace hf := sv_if_t c25 hf
      refine sv_aload_n 1 C dX9_go_40 rfl rfl ?_
      refine sv_aload_n 1 C dX9_go_41 rfl rfl ?_
      refine md_geti C fl_X9_306 (by decide) dX9_go_42 ?_
      refine sv_iload_n 3 C dX9_go_45 rfl rfl ?_
      obtain ⟨q46, hc46, hf⟩ := sv_bind_some hf
      refine sv_callV0 C mv_X9_286 (m_X9_read (sv_l X) E h0 ad sz _ _ _ _ hc46) sv_sx0 0 rfl rfl rfl rfl (Nat.le_of_ble_eq_true rfl) ⟨by rw [hR]; decide, by rw [hR]; decide⟩ ⟨by rw [hR]; decide, by rw [hR]; decide⟩ dX9_go_46 ?_
      refine sv_sub (lv' := [(0, .ref h0), (2, .int x2)]) [1, 3] rfl ?_
      exact w_X9_go_49 C hZ hR hN _ _ _ _ hf
    · replace hf := sv_if_f c25 hf
      refine sv_aload_n 1 C dX9_go_28 rfl rfl ?_
      refine sv_aload_n 1 C dX9_go_29 rfl rfl ?_
      refine md_geti C fl_X9_306 (by decide) dX9_go_30 ?_
      refine sv_iload_n 3 C dX9_go_33 rfl rfl ?_
      obtain ⟨q34, hc34, hf⟩ := sv_bind_some hf
      refine sv_callV0 C mv_X9_308 (m_X9_signed (sv_l X) E h0 ad sz _ _ _ _ hc34) sv_sx0 0 rfl rfl rfl rfl (Nat.le_of_ble_eq_true rfl) ⟨by rw [hR]; decide, by rw [hR]; decide⟩ ⟨by rw [hR]; decide, by rw [hR]; decide⟩ dX9_go_34 ?_
      refine sv_goto (tgt := 49) C dX9_go_37 (by decide) ?_
      refine sv_sub (lv' := [(0, .ref h0), (2, .int x2)]) [1, 3] rfl ?_
      exact w_X9_go_49 C hZ hR hN _ _ _ _ hf
def f_X9_where (B : md_B) : Option (md_B) :=
  (f_X9_go B 5 1 0).bind (fun q4 =>
    (f_X9_go q4 6 28 1).bind (fun q13 =>
      (f_X9_go q13 7 27 1).bind (fun q22 =>
        some (q22))))
set_option maxHeartbeats 4000000 in
set_option maxRecDepth 100000 in
theorem m_X9_where (l : Launch) (E : sv_E) (h0 : Nat) (ad : Nat → Nat) (sz : Nat) (B : md_B) (q : md_B) (hf : f_X9_where B = some q) : sv_Met l E yX9_where cX9_where 1 none 3 70 [] [.ref h0] (md_w E h0 ad B) sz none (md_w E h0 ad q) sz 0 0 := by
  refine sv_ofJ (by decide) (Nat.le_of_ble_eq_true rfl) ?_
  intro X hX hN hnm hR C hZ
  replace C : sv_C E X cX9_where RX9 [] := C
  show sv_J E X (md_w E h0 ad B) sz 0 0 0 [(0, .ref h0)] []
  rw [f_X9_where] at hf
  refine sv_aload_n 0 C dX9_where_0 rfl rfl ?_
  refine sv_iconst (v := 5) C dX9_where_1 (by decide) ?_
  refine sv_iconst (v := 1) C dX9_where_2 (by decide) ?_
  refine sv_iconst (v := 0) C dX9_where_3 (by decide) ?_
  obtain ⟨q4, hc4, hf⟩ := sv_bind_some hf
  refine sv_callV0 C mv_X9_317 (m_X9_go (sv_l X) E h0 ad sz _ _ _ _ _ hc4) sv_sx0 0 rfl rfl rfl rfl (Nat.le_of_ble_eq_true rfl) ⟨by rw [hR]; decide, by rw [hR]; decide⟩ ⟨by rw [hR]; decide, by rw [hR]; decide⟩ dX9_where_4 ?_
  refine sv_aload_n 0 C dX9_where_7 rfl rfl ?_
  refine sv_bipush (v := 6) C dX9_where_8 (by decide) ?_
  refine sv_bipush (v := 28) C dX9_where_10 (by decide) ?_
  refine sv_iconst (v := 1) C dX9_where_12 (by decide) ?_
  obtain ⟨q13, hc13, hf⟩ := sv_bind_some hf
  refine sv_callV0 C mv_X9_317 (m_X9_go (sv_l X) E h0 ad sz _ _ _ _ _ hc13) sv_sx0 0 rfl rfl rfl rfl (Nat.le_of_ble_eq_true rfl) ⟨by rw [hR]; decide, by rw [hR]; decide⟩ ⟨by rw [hR]; decide, by rw [hR]; decide⟩ dX9_where_13 ?_
  refine sv_aload_n 0 C dX9_where_16 rfl rfl ?_
  refine sv_bipush (v := 7) C dX9_where_17 (by decide) ?_
  refine sv_bipush (v := 27) C dX9_where_19 (by decide) ?_
  refine sv_iconst (v := 1) C dX9_where_21 (by decide) ?_
  obtain ⟨q22, hc22, hf⟩ := sv_bind_some hf
  refine sv_callV0 C mv_X9_317 (m_X9_go (sv_l X) E h0 ad sz _ _ _ _ _ hc22) sv_sx0 0 rfl rfl rfl rfl (Nat.le_of_ble_eq_true rfl) ⟨by rw [hR]; decide, by rw [hR]; decide⟩ ⟨by rw [hR]; decide, by rw [hR]; decide⟩ dX9_where_22 ?_
  exact sv_vret C (by cases hf; exact hZ) dX9_where_25
def f_X9_way (B : md_B) : Option (md_B) :=
  (f_X9_go B 8 12 0).bind (fun q6 =>
    (f_X9_go q6 9 9 0).bind (fun q15 =>
      (f_X9_go q15 10 6 0).bind (fun q24 =>
        some (q24))))
set_option maxHeartbeats 4000000 in
set_option maxRecDepth 100000 in
theorem m_X9_way (l : Launch) (E : sv_E) (h0 : Nat) (ad : Nat → Nat) (sz : Nat) (B : md_B) (q : md_B) (hf : f_X9_way B = some q) : sv_Met l E yX9_way cX9_way 1 none 3 70 [] [.ref h0] (md_w E h0 ad B) sz none (md_w E h0 ad q) sz 0 0 := by
  refine sv_ofJ (by decide) (Nat.le_of_ble_eq_true rfl) ?_
  intro X hX hN hnm hR C hZ
  replace C : sv_C E X cX9_way RX9 [] := C
  show sv_J E X (md_w E h0 ad B) sz 0 0 0 [(0, .ref h0)] []
  rw [f_X9_way] at hf
  refine sv_aload_n 0 C dX9_way_0 rfl rfl ?_
  refine sv_bipush (v := 8) C dX9_way_1 (by decide) ?_
  refine sv_bipush (v := 12) C dX9_way_3 (by decide) ?_
  refine sv_iconst (v := 0) C dX9_way_5 (by decide) ?_
  obtain ⟨q6, hc6, hf⟩ := sv_bind_some hf
  refine sv_callV0 C mv_X9_317 (m_X9_go (sv_l X) E h0 ad sz _ _ _ _ _ hc6) sv_sx0 0 rfl rfl rfl rfl (Nat.le_of_ble_eq_true rfl) ⟨by rw [hR]; decide, by rw [hR]; decide⟩ ⟨by rw [hR]; decide, by rw [hR]; decide⟩ dX9_way_6 ?_
  refine sv_aload_n 0 C dX9_way_9 rfl rfl ?_
  refine sv_bipush (v := 9) C dX9_way_10 (by decide) ?_
  refine sv_bipush (v := 9) C dX9_way_12 (by decide) ?_
  refine sv_iconst (v := 0) C dX9_way_14 (by decide) ?_
  obtain ⟨q15, hc15, hf⟩ := sv_bind_some hf
  refine sv_callV0 C mv_X9_317 (m_X9_go (sv_l X) E h0 ad sz _ _ _ _ _ hc15) sv_sx0 0 rfl rfl rfl rfl (Nat.le_of_ble_eq_true rfl) ⟨by rw [hR]; decide, by rw [hR]; decide⟩ ⟨by rw [hR]; decide, by rw [hR]; decide⟩ dX9_way_15 ?_
  refine sv_aload_n 0 C dX9_way_18 rfl rfl ?_
  refine sv_bipush (v := 10) C dX9_way_19 (by decide) ?_
  refine sv_bipush (v := 6) C dX9_way_21 (by decide) ?_
  refine sv_iconst (v := 0) C dX9_way_23 (by decide) ?_
  obtain ⟨q24, hc24, hf⟩ := sv_bind_some hf
  refine sv_callV0 C mv_X9_317 (m_X9_go (sv_l X) E h0 ad sz _ _ _ _ _ hc24) sv_sx0 0 rfl rfl rfl rfl (Nat.le_of_ble_eq_true rfl) ⟨by rw [hR]; decide, by rw [hR]; decide⟩ ⟨by rw [hR]; decide, by rw [hR]; decide⟩ dX9_way_24 ?_
  exact sv_vret C (by cases hf; exact hZ) dX9_way_27
def f_X9_skip_13 (B : md_B) (x1 : Int32) : Option (md_B) :=
  some (md_pf B 32 ((B.1 32) + x1))
def f_X9_skip (B : md_B) (x1 : Int32) : Option (md_B) :=
  if (B.1 33) = 0 then
    f_X9_skip_13 B x1
  else
    (f_X9_put B 0 x1).bind (fun q10 =>
      f_X9_skip_13 q10 x1)
set_option maxHeartbeats 4000000 in
set_option maxRecDepth 100000 in
theorem w_X9_skip_13 {E : sv_E} {X : sv_X} {sz : Nat} {q : md_B} {h0 : Nat} {ad : Nat → Nat} (C : sv_C E X cX9_skip RX9 []) (hZ : sv_Z E X none none (md_w E h0 ad q) sz 0 0) (hR : sv_R X = { frames := 1, cells := 0, slots := 0, locals := 23 }) (hN : sv_nL X = 2) (B : md_B) (x1 : Int32) (hf : f_X9_skip_13 B x1 = some q) : sv_J E X (md_w E h0 ad B) sz 0 0 13 [(0, .ref h0), (1, .int x1)] [] := by
  rw [f_X9_skip_13] at hf
  refine sv_aload_n 0 C dX9_skip_13 rfl rfl ?_
  refine sv_dup C dX9_skip_14 rfl ?_
  refine md_geti C fl_X9_306 (by decide) dX9_skip_15 ?_
  refine sv_iload_n 1 C dX9_skip_18 rfl rfl ?_
  refine sv_iadd C dX9_skip_19 ?_
  refine md_puti C fl_X9_306 (by decide) rfl rfl dX9_skip_20 ?_
  exact sv_vret C (by cases hf; exact hZ) dX9_skip_23
set_option maxHeartbeats 4000000 in
set_option maxRecDepth 100000 in
theorem m_X9_skip (l : Launch) (E : sv_E) (h0 : Nat) (ad : Nat → Nat) (sz : Nat) (B : md_B) (x1 : Int32) (q : md_B) (hf : f_X9_skip B x1 = some q) : sv_Met l E yX9_skip cX9_skip 2 none 1 23 [] [.ref h0, .int x1] (md_w E h0 ad B) sz none (md_w E h0 ad q) sz 0 0 := by
  refine sv_ofJ (by decide) (Nat.le_of_ble_eq_true rfl) ?_
  intro X hX hN hnm hR C hZ
  replace C : sv_C E X cX9_skip RX9 [] := C
  show sv_J E X (md_w E h0 ad B) sz 0 0 0 [(0, .ref h0), (1, .int x1)] []
  rw [f_X9_skip] at hf
  refine sv_aload_n 0 C dX9_skip_0 rfl rfl ?_
  refine md_geti C fl_X9_303 (by decide) dX9_skip_1 ?_
  refine sv_if_eq (tgt := 13) C dX9_skip_4 (by decide) (fun c4 => ?_) (fun c4 => ?_)
  · replace hf := sv_if_t c4 hf
    refine sv_sub (lv' := [(0, .ref h0), (1, .int x1)]) [0, 1] rfl ?_
    exact w_X9_skip_13 C hZ hR hN _ _ hf
  · replace hf := sv_if_f c4 hf
    refine sv_aload_n 0 C dX9_skip_7 rfl rfl ?_
    refine sv_iconst (v := 0) C dX9_skip_8 (by decide) ?_
    refine sv_iload_n 1 C dX9_skip_9 rfl rfl ?_
    obtain ⟨q10, hc10, hf⟩ := sv_bind_some hf
    refine sv_callV0 C mv_X9_311 (m_X9_put (sv_l X) E h0 ad sz _ _ _ _ hc10) sv_sx0 0 rfl rfl rfl rfl (Nat.le_of_ble_eq_true rfl) ⟨by rw [hR]; decide, by rw [hR]; decide⟩ ⟨by rw [hR]; decide, by rw [hR]; decide⟩ dX9_skip_10 ?_
    refine sv_sub (lv' := [(0, .ref h0), (1, .int x1)]) [0, 1] rfl ?_
    exact w_X9_skip_13 C hZ hR hN _ _ hf
def f_X9_room (B : md_B) (x0 : Int32) : Option (Int32 × md_B) :=
  if x0 = 0 then
    some (7, B)
  else
    some (20, B)
set_option maxHeartbeats 4000000 in
set_option maxRecDepth 100000 in
theorem m_X9_room (l : Launch) (E : sv_E) (h0 : Nat) (ad : Nat → Nat) (sz : Nat) (B : md_B) (x0 : Int32) (q : Int32 × md_B) (hf : f_X9_room B x0 = some q) : sv_Met l E yX9_room cX9_room 1 (some .int) 0 0 [] [.int x0] (md_w E h0 ad B) sz (some (.int q.1)) (md_w E h0 ad q.2) sz 0 0 := by
  refine sv_ofJ (by decide) (Nat.le_of_ble_eq_true rfl) ?_
  intro X hX hN hnm hR C hZ
  replace C : sv_C E X cX9_room RX9 [] := C
  show sv_J E X (md_w E h0 ad B) sz 0 0 0 [(0, .int x0)] []
  rw [f_X9_room] at hf
  refine sv_iload_n 0 C dX9_room_0 rfl rfl ?_
  refine sv_if_ne (tgt := 9) C dX9_room_1 (by decide) (fun c1 => ?_) (fun c1 => ?_)
  · replace hf := sv_if_f c1 hf
    refine sv_bipush (v := 20) C dX9_room_9 (by decide) ?_
    exact sv_iret C (by cases hf; exact hZ) dX9_room_11
  · replace hf := sv_if_t c1 hf
    refine sv_bipush (v := 7) C dX9_room_4 (by decide) ?_
    refine sv_goto (tgt := 11) C dX9_room_6 (by decide) ?_
    exact sv_iret C (by cases hf; exact hZ) dX9_room_11
def f_X9_words_65 (k28 : md_B → Int32 → Int32 → Int32 → Int32 → Option (md_B)) (B : md_B) (x1 : Int32) (x2 : Int32) (x3 : Int32) (x4 : Int32) (s0 : Int32) : Option (md_B) :=
  (f_X9_put B (s0 &&& 63) 6).bind (fun q75 =>
    k28 q75 x1 x2 x3 (x4 + 1))
def f_X9_words_28 : Nat → md_B → Int32 → Int32 → Int32 → Int32 → Option (md_B)
  | 0, _, _, _, _, _ => none
  | n + 1, B, x1, x2, x3, x4 =>
    if x3 ≤ x4 then
      some (md_pf B 32 ((B.1 32) + (6 * x3)))
    else
      sv_g (sv_inb ((3 * (B.1 34)) + x1) 120) (
        if (B.2 31 ((3 * (B.1 34)) + x1).toNatClampNeg) ≤ x4 then
          f_X9_words_65 (f_X9_words_28 n) B x1 x2 x3 x4 0
        else
          sv_g (sv_inb (x2 + x4) 2400) (
            f_X9_words_65 (f_X9_words_28 n) B x1 x2 x3 x4 (B.2 30 (x2 + x4).toNatClampNeg)))
def f_X9_words_190 (k104 : md_B → Int32 → Int32 → Int32 → Int32 → Int32 → Option (md_B)) (B : md_B) (x1 : Int32) (x2 : Int32) (x3 : Int32) (x5 : Int32) (s0 : Int32) : Option (md_B) :=
  k104 B x1 x2 x3 s0 x5
def f_X9_words_172 (k104 : md_B → Int32 → Int32 → Int32 → Int32 → Int32 → Option (md_B)) (B : md_B) (x1 : Int32) (x2 : Int32) (x3 : Int32) (x4 : Int32) (x5 : Int32) (x6 : Int32) (s0 : Int32) (s1 : Int32) : Option (md_B) :=
  sv_g (sv_inb s1 2400) (
    if x6 = 32 then
      f_X9_words_190 k104 (md_pa B 30 s1 s0) x1 x2 x3 (x5 + 1) x4
    else
      f_X9_words_190 k104 (md_pa B 30 s1 s0) x1 x2 x3 (x5 + 1) (x5 + 1))
def f_X9_words_195 (B : md_B) (x1 : Int32) (x3 : Int32) (x4 : Int32) : Option (md_B) :=
  sv_g (sv_inb ((3 * (B.1 34)) + x1) 120) (
    some (md_pf (md_pa B 31 ((3 * (B.1 34)) + x1) x4) 32 (((md_pa B 31 ((3 * (B.1 34)) + x1) x4).1 32) + (6 * x3))))
def f_X9_words_104 : Nat → md_B → Int32 → Int32 → Int32 → Int32 → Int32 → Option (md_B)
  | 0, _, _, _, _, _, _ => none
  | n + 1, B, x1, x2, x3, x4, x5 =>
    if x3 ≤ x5 then
      f_X9_words_195 B x1 x3 x4
    else
      (f_X9_read B ((B.1 32) + (6 * x5)) 6).bind (fun q123 =>
        if q123.1 = 0 then
          f_X9_words_195 q123.2 x1 x3 x4
        else
          (f_X9_read q123.2 ((q123.2.1 32) + (6 * x5)) 6).bind (fun q142 =>
            if 32 ≤ q142.1 then
              f_X9_words_172 (f_X9_words_104 n) q142.2 x1 x2 x3 x4 x5 q142.1 q142.1 (x2 + x5)
            else
              f_X9_words_172 (f_X9_words_104 n) q142.2 x1 x2 x3 x4 x5 q142.1 (q142.1 + 64) (x2 + x5)))
def f_X9_words (B : md_B) (x1 : Int32) : Option (md_B) :=
  (f_X9_room B x1).bind (fun q14 =>
    if (q14.2.1 33) = 0 then
      f_X9_words_104 sv_fu q14.2 x1 ((60 * (B.1 34)) + (20 * x1)) q14.1 0 0
    else
      f_X9_words_28 sv_fu q14.2 x1 ((60 * (B.1 34)) + (20 * x1)) q14.1 0)
set_option maxHeartbeats 4000000 in
set_option maxRecDepth 100000 in
theorem w_X9_words_65 {E : sv_E} {X : sv_X} {sz : Nat} {q : md_B} {h0 : Nat} {ad : Nat → Nat} (C : sv_C E X cX9_words RX9 []) (hZ : sv_Z E X none none (md_w E h0 ad q) sz 0 0) (hR : sv_R X = { frames := 1, cells := 0, slots := 0, locals := 24 }) (hN : sv_nL X = 7) {k28 : md_B → Int32 → Int32 → Int32 → Int32 → Option (md_B)} (hk28 : ∀ (B : md_B) (x1 : Int32) (x2 : Int32) (x3 : Int32) (x4 : Int32), k28 B x1 x2 x3 x4 = some q → sv_J E X (md_w E h0 ad B) sz 0 0 28 [(0, .ref h0), (1, .int x1), (2, .int x2), (3, .int x3), (4, .int x4)] []) (B : md_B) (x1 : Int32) (x2 : Int32) (x3 : Int32) (x4 : Int32) (s0 : Int32) (hf : f_X9_words_65 k28 B x1 x2 x3 x4 s0 = some q) : sv_J E X (md_w E h0 ad B) sz 0 0 65 [(0, .ref h0), (1, .int x1), (2, .int x2), (3, .int x3), (4, .int x4)] [.int s0] := by
  rw [f_X9_words_65] at hf
  refine sv_istore (lv' := [(5, .int s0), (0, .ref h0), (1, .int x1), (2, .int x2), (3, .int x3), (4, .int x4)]) C dX9_words_65 (by rw [hN]; decide) rfl ?_
  refine sv_aload_n 1 C dX9_words_67 rfl rfl ?_
  refine sv_iload 0 C dX9_words_68 rfl ?_
  refine sv_bipush (v := 63) C dX9_words_70 (by decide) ?_
  refine sv_iand C dX9_words_72 ?_
  refine sv_bipush (v := 6) C dX9_words_73 (by decide) ?_
  obtain ⟨q75, hc75, hf⟩ := sv_bind_some hf
  refine sv_callV0 C mv_X9_311 (m_X9_put (sv_l X) E h0 ad sz _ _ _ _ hc75) sv_sx0 0 rfl rfl rfl rfl (Nat.le_of_ble_eq_true rfl) ⟨by rw [hR]; decide, by rw [hR]; decide⟩ ⟨by rw [hR]; decide, by rw [hR]; decide⟩ dX9_words_75 ?_
  refine sv_iinc (v := x4 + 1) (lv' := [(4, .int (x4 + 1)), (5, .int s0), (0, .ref h0), (1, .int x1), (2, .int x2), (3, .int x3)]) 5 C dX9_words_78 rfl rfl (by rw [hN]; decide) rfl ?_
  refine sv_goto (tgt := 28) C dX9_words_81 (by decide) ?_
  refine sv_sub (lv' := [(0, .ref h0), (1, .int x1), (2, .int x2), (3, .int x3), (4, .int (x4 + 1))]) [2, 3, 4, 5, 0] rfl ?_
  exact hk28 _ _ _ _ _ hf
set_option maxHeartbeats 4000000 in
set_option maxRecDepth 100000 in
theorem w_X9_words_28 {E : sv_E} {X : sv_X} {sz : Nat} {q : md_B} {h0 : Nat} {ad : Nat → Nat} (C : sv_C E X cX9_words RX9 []) (hZ : sv_Z E X none none (md_w E h0 ad q) sz 0 0) (hR : sv_R X = { frames := 1, cells := 0, slots := 0, locals := 24 }) (hN : sv_nL X = 7) : ∀ (n : Nat) (B : md_B) (x1 : Int32) (x2 : Int32) (x3 : Int32) (x4 : Int32), f_X9_words_28 n B x1 x2 x3 x4 = some q → sv_J E X (md_w E h0 ad B) sz 0 0 28 [(0, .ref h0), (1, .int x1), (2, .int x2), (3, .int x3), (4, .int x4)] [] := by
  intro n
  induction n with
  | zero =>
    intro B x1 x2 x3 x4 hf
    rw [f_X9_words_28] at hf
    cases hf
  | succ n ih =>
    intro B x1 x2 x3 x4 hf
    rw [f_X9_words_28] at hf
    refine sv_iload 4 C dX9_words_28 rfl ?_
    refine sv_iload_n 3 C dX9_words_30 rfl rfl ?_
    refine sv_icmp_ge (tgt := 84) C dX9_words_31 (by decide) (fun c31 => ?_) (fun c31 => ?_)
    · replace hf := sv_if_t c31 hf
      refine sv_aload_n 0 C dX9_words_84 rfl rfl ?_
      refine sv_dup C dX9_words_85 rfl ?_
      refine md_geti C fl_X9_306 (by decide) dX9_words_86 ?_
      refine sv_bipush (v := 6) C dX9_words_89 (by decide) ?_
      refine sv_iload_n 3 C dX9_words_91 rfl rfl ?_
      refine sv_imul C dX9_words_92 ?_
      refine sv_iadd C dX9_words_93 ?_
      refine md_puti C fl_X9_306 (by decide) rfl rfl dX9_words_94 ?_
      exact sv_vret C (by cases hf; exact hZ) dX9_words_97
    · replace hf := sv_if_f c31 hf
      refine sv_iload 4 C dX9_words_34 rfl ?_
      refine sv_aload_n 0 C dX9_words_36 rfl rfl ?_
      refine md_getr C fl_X9_61 (by decide) dX9_words_37 ?_
      refine sv_iconst (v := 3) C dX9_words_40 (by decide) ?_
      refine sv_aload_n 0 C dX9_words_41 rfl rfl ?_
      refine md_geti C fl_X9_300 (by decide) dX9_words_42 ?_
      refine sv_imul C dX9_words_45 ?_
      refine sv_iload_n 1 C dX9_words_46 rfl rfl ?_
      refine sv_iadd C dX9_words_47 ?_
      obtain ⟨g48, hf⟩ := sv_g_some hf
      refine md_iald C 15 rfl g48 dX9_words_48 ?_
      refine sv_icmp_ge (tgt := 64) C dX9_words_49 (by decide) (fun c49 => ?_) (fun c49 => ?_)
      · replace hf := sv_if_t c49 hf
        refine sv_iconst (v := 0) C dX9_words_64 (by decide) ?_
        refine sv_sub (lv' := [(0, .ref h0), (1, .int x1), (2, .int x2), (3, .int x3), (4, .int x4)]) [0, 1, 2, 3, 4] rfl ?_
        exact w_X9_words_65 C hZ hR hN ih _ _ _ _ _ _ hf
      · replace hf := sv_if_f c49 hf
        refine sv_aload_n 0 C dX9_words_52 rfl rfl ?_
        refine md_getr C fl_X9_58 (by decide) dX9_words_53 ?_
        refine sv_iload_n 2 C dX9_words_56 rfl rfl ?_
        refine sv_iload 4 C dX9_words_57 rfl ?_
        refine sv_iadd C dX9_words_59 ?_
        obtain ⟨g60, hf⟩ := sv_g_some hf
        refine md_iald C 14 rfl g60 dX9_words_60 ?_
        refine sv_goto (tgt := 65) C dX9_words_61 (by decide) ?_
        refine sv_sub (lv' := [(0, .ref h0), (1, .int x1), (2, .int x2), (3, .int x3), (4, .int x4)]) [0, 1, 2, 3, 4] rfl ?_
        exact w_X9_words_65 C hZ hR hN ih _ _ _ _ _ _ hf
set_option maxHeartbeats 4000000 in
set_option maxRecDepth 100000 in
theorem w_X9_words_190 {E : sv_E} {X : sv_X} {sz : Nat} {q : md_B} {h0 : Nat} {ad : Nat → Nat} (C : sv_C E X cX9_words RX9 []) (hZ : sv_Z E X none none (md_w E h0 ad q) sz 0 0) (hR : sv_R X = { frames := 1, cells := 0, slots := 0, locals := 24 }) (hN : sv_nL X = 7) {k104 : md_B → Int32 → Int32 → Int32 → Int32 → Int32 → Option (md_B)} (hk104 : ∀ (B : md_B) (x1 : Int32) (x2 : Int32) (x3 : Int32) (x4 : Int32) (x5 : Int32), k104 B x1 x2 x3 x4 x5 = some q → sv_J E X (md_w E h0 ad B) sz 0 0 104 [(0, .ref h0), (1, .int x1), (2, .int x2), (3, .int x3), (4, .int x4), (5, .int x5)] []) (B : md_B) (x1 : Int32) (x2 : Int32) (x3 : Int32) (x5 : Int32) (s0 : Int32) (hf : f_X9_words_190 k104 B x1 x2 x3 x5 s0 = some q) : sv_J E X (md_w E h0 ad B) sz 0 0 190 [(0, .ref h0), (1, .int x1), (2, .int x2), (3, .int x3), (5, .int x5)] [.int s0] := by
  rw [f_X9_words_190] at hf
  refine sv_istore (lv' := [(4, .int s0), (0, .ref h0), (1, .int x1), (2, .int x2), (3, .int x3), (5, .int x5)]) C dX9_words_190 (by rw [hN]; decide) rfl ?_
  refine sv_goto (tgt := 104) C dX9_words_192 (by decide) ?_
  refine sv_sub (lv' := [(0, .ref h0), (1, .int x1), (2, .int x2), (3, .int x3), (4, .int s0), (5, .int x5)]) [1, 2, 3, 4, 0, 5] rfl ?_
  exact hk104 _ _ _ _ _ _ hf
set_option maxHeartbeats 4000000 in
set_option maxRecDepth 100000 in
theorem w_X9_words_172 {E : sv_E} {X : sv_X} {sz : Nat} {q : md_B} {h0 : Nat} {ad : Nat → Nat} (C : sv_C E X cX9_words RX9 []) (hZ : sv_Z E X none none (md_w E h0 ad q) sz 0 0) (hR : sv_R X = { frames := 1, cells := 0, slots := 0, locals := 24 }) (hN : sv_nL X = 7) {k104 : md_B → Int32 → Int32 → Int32 → Int32 → Int32 → Option (md_B)} (hk104 : ∀ (B : md_B) (x1 : Int32) (x2 : Int32) (x3 : Int32) (x4 : Int32) (x5 : Int32), k104 B x1 x2 x3 x4 x5 = some q → sv_J E X (md_w E h0 ad B) sz 0 0 104 [(0, .ref h0), (1, .int x1), (2, .int x2), (3, .int x3), (4, .int x4), (5, .int x5)] []) (B : md_B) (x1 : Int32) (x2 : Int32) (x3 : Int32) (x4 : Int32) (x5 : Int32) (x6 : Int32) (s0 : Int32) (s1 : Int32) (hf : f_X9_words_172 k104 B x1 x2 x3 x4 x5 x6 s0 s1 = some q) : sv_J E X (md_w E h0 ad B) sz 0 0 172 [(0, .ref h0), (1, .int x1), (2, .int x2), (3, .int x3), (4, .int x4), (5, .int x5), (6, .int x6)] [.int s0, .int s1, .ref (ad 30)] := by
  rw [f_X9_words_172] at hf
  obtain ⟨g172, hf⟩ := sv_g_some hf
  refine md_iast C 14 rfl g172 dX9_words_172 ?_
  refine sv_iinc (v := x5 + 1) (lv' := [(5, .int (x5 + 1)), (0, .ref h0), (1, .int x1), (2, .int x2), (3, .int x3), (4, .int x4), (6, .int x6)]) 5 C dX9_words_173 rfl rfl (by rw [hN]; decide) rfl ?_
  refine sv_iload 6 C dX9_words_176 rfl ?_
  refine sv_bipush (v := 32) C dX9_words_178 (by decide) ?_
  refine sv_icmp_ne (tgt := 188) C dX9_words_180 (by decide) (fun c180 => ?_) (fun c180 => ?_)
  · replace hf := sv_if_f c180 hf
    refine sv_iload 0 C dX9_words_188 rfl ?_
    refine sv_sub (lv' := [(0, .ref h0), (1, .int x1), (2, .int x2), (3, .int x3), (5, .int (x5 + 1))]) [1, 2, 3, 4, 0] rfl ?_
    exact w_X9_words_190 C hZ hR hN hk104 _ _ _ _ _ _ hf
  · replace hf := sv_if_t c180 hf
    refine sv_iload 5 C dX9_words_183 rfl ?_
    refine sv_goto (tgt := 190) C dX9_words_185 (by decide) ?_
    refine sv_sub (lv' := [(0, .ref h0), (1, .int x1), (2, .int x2), (3, .int x3), (5, .int (x5 + 1))]) [1, 2, 3, 4, 0] rfl ?_
    exact w_X9_words_190 C hZ hR hN hk104 _ _ _ _ _ _ hf
set_option maxHeartbeats 4000000 in
set_option maxRecDepth 100000 in
theorem w_X9_words_195 {E : sv_E} {X : sv_X} {sz : Nat} {q : md_B} {h0 : Nat} {ad : Nat → Nat} (C : sv_C E X cX9_words RX9 []) (hZ : sv_Z E X none none (md_w E h0 ad q) sz 0 0) (hR : sv_R X = { frames := 1, cells := 0, slots := 0, locals := 24 }) (hN : sv_nL X = 7) (B : md_B) (x1 : Int32) (x3 : Int32) (x4 : Int32) (hf : f_X9_words_195 B x1 x3 x4 = some q) : sv_J E X (md_w E h0 ad B) sz 0 0 195 [(0, .ref h0), (1, .int x1), (3, .int x3), (4, .int x4)] [] := by
  rw [f_X9_words_195] at hf
  refine sv_aload_n 0 C dX9_words_195 rfl rfl ?_
  refine md_getr C fl_X9_61 (by decide) dX9_words_196 ?_
  refine sv_iconst (v := 3) C dX9_words_199 (by decide) ?_
  refine sv_aload_n 0 C dX9_words_200 rfl rfl ?_
  refine md_geti C fl_X9_300 (by decide) dX9_words_201 ?_
  refine sv_imul C dX9_words_204 ?_
  refine sv_iload_n 1 C dX9_words_205 rfl rfl ?_
  refine sv_iadd C dX9_words_206 ?_
  refine sv_iload 3 C dX9_words_207 rfl ?_
  obtain ⟨g209, hf⟩ := sv_g_some hf
  refine md_iast C 15 rfl g209 dX9_words_209 ?_
  refine sv_aload_n 0 C dX9_words_210 rfl rfl ?_
  refine sv_dup C dX9_words_211 rfl ?_
  refine md_geti C fl_X9_306 (by decide) dX9_words_212 ?_
  refine sv_bipush (v := 6) C dX9_words_215 (by decide) ?_
  refine sv_iload_n 2 C dX9_words_217 rfl rfl ?_
  refine sv_imul C dX9_words_218 ?_
  refine sv_iadd C dX9_words_219 ?_
  refine md_puti C fl_X9_306 (by decide) rfl rfl dX9_words_220 ?_
  exact sv_vret C (by cases hf; exact hZ) dX9_words_223
set_option maxHeartbeats 4000000 in
set_option maxRecDepth 100000 in
theorem w_X9_words_104 {E : sv_E} {X : sv_X} {sz : Nat} {q : md_B} {h0 : Nat} {ad : Nat → Nat} (C : sv_C E X cX9_words RX9 []) (hZ : sv_Z E X none none (md_w E h0 ad q) sz 0 0) (hR : sv_R X = { frames := 1, cells := 0, slots := 0, locals := 24 }) (hN : sv_nL X = 7) : ∀ (n : Nat) (B : md_B) (x1 : Int32) (x2 : Int32) (x3 : Int32) (x4 : Int32) (x5 : Int32), f_X9_words_104 n B x1 x2 x3 x4 x5 = some q → sv_J E X (md_w E h0 ad B) sz 0 0 104 [(0, .ref h0), (1, .int x1), (2, .int x2), (3, .int x3), (4, .int x4), (5, .int x5)] [] := by
  intro n
  induction n with
  | zero =>
    intro B x1 x2 x3 x4 x5 hf
    rw [f_X9_words_104] at hf
    cases hf
  | succ n ih =>
    intro B x1 x2 x3 x4 x5 hf
    rw [f_X9_words_104] at hf
    refine sv_iload 5 C dX9_words_104 rfl ?_
    refine sv_iload_n 3 C dX9_words_106 rfl rfl ?_
    refine sv_icmp_ge (tgt := 195) C dX9_words_107 (by decide) (fun c107 => ?_) (fun c107 => ?_)
    · replace hf := sv_if_t c107 hf
      refine sv_sub (lv' := [(0, .ref h0), (1, .int x1), (3, .int x3), (4, .int x4)]) [0, 1, 3, 4] rfl ?_
      exact w_X9_words_195 C hZ hR hN _ _ _ _ hf
    · replace hf := sv_if_f c107 hf
      refine sv_aload_n 0 C dX9_words_110 rfl rfl ?_
      refine sv_aload_n 0 C dX9_words_111 rfl rfl ?_
      refine md_geti C fl_X9_306 (by decide) dX9_words_112 ?_
      refine sv_bipush (v := 6) C dX9_words_115 (by decide) ?_
      refine sv_iload 5 C dX9_words_117 rfl ?_
      refine sv_imul C dX9_words_119 ?_
      refine sv_iadd C dX9_words_120 ?_
      refine sv_bipush (v := 6) C dX9_words_121 (by decide) ?_
      obtain ⟨q123, hc123, hf⟩ := sv_bind_some hf
      refine sv_callV0 C mv_X9_286 (m_X9_read (sv_l X) E h0 ad sz _ _ _ _ hc123) sv_sx0 0 rfl rfl rfl rfl (Nat.le_of_ble_eq_true rfl) ⟨by rw [hR]; decide, by rw [hR]; decide⟩ ⟨by rw [hR]; decide, by rw [hR]; decide⟩ dX9_words_123 ?_
      refine sv_if_eq (tgt := 195) C dX9_words_126 (by decide) (fun c126 => ?_) (fun c126 => ?_)
      · replace hf := sv_if_t c126 hf
        refine sv_sub (lv' := [(0, .ref h0), (1, .int x1), (3, .int x3), (4, .int x4)]) [0, 1, 3, 4] rfl ?_
        exact w_X9_words_195 C hZ hR hN _ _ _ _ hf
      · replace hf := sv_if_f c126 hf
        refine sv_aload_n 0 C dX9_words_129 rfl rfl ?_
        refine sv_aload_n 0 C dX9_words_130 rfl rfl ?_
        refine md_geti C fl_X9_306 (by decide) dX9_words_131 ?_
        refine sv_bipush (v := 6) C dX9_words_134 (by decide) ?_
        refine sv_iload 5 C dX9_words_136 rfl ?_
        refine sv_imul C dX9_words_138 ?_
        refine sv_iadd C dX9_words_139 ?_
        refine sv_bipush (v := 6) C dX9_words_140 (by decide) ?_
        obtain ⟨q142, hc142, hf⟩ := sv_bind_some hf
        refine sv_callV0 C mv_X9_286 (m_X9_read (sv_l X) E h0 ad sz _ _ _ _ hc142) sv_sx0 0 rfl rfl rfl rfl (Nat.le_of_ble_eq_true rfl) ⟨by rw [hR]; decide, by rw [hR]; decide⟩ ⟨by rw [hR]; decide, by rw [hR]; decide⟩ dX9_words_142 ?_
        refine sv_istore (lv' := [(6, .int q142.1), (0, .ref h0), (1, .int x1), (2, .int x2), (3, .int x3), (4, .int x4), (5, .int x5)]) C dX9_words_145 (by rw [hN]; decide) rfl ?_
        refine sv_aload_n 1 C dX9_words_147 rfl rfl ?_
        refine md_getr C fl_X9_58 (by decide) dX9_words_148 ?_
        refine sv_iload_n 3 C dX9_words_151 rfl rfl ?_
        refine sv_iload 6 C dX9_words_152 rfl ?_
        refine sv_iadd C dX9_words_154 ?_
        refine sv_iload 0 C dX9_words_155 rfl ?_
        refine sv_bipush (v := 32) C dX9_words_157 (by decide) ?_
        refine sv_icmp_ge (tgt := 170) C dX9_words_159 (by decide) (fun c159 => ?_) (fun c159 => ?_)
        · replace hf := sv_if_t c159 hf
          refine sv_iload 0 C dX9_words_170 rfl ?_
          refine sv_sub (lv' := [(0, .ref h0), (1, .int x1), (2, .int x2), (3, .int x3), (4, .int x4), (5, .int x5), (6, .int q142.1)]) [1, 2, 3, 4, 5, 6, 0] rfl ?_
          exact w_X9_words_172 C hZ hR hN ih _ _ _ _ _ _ _ _ _ hf
        · replace hf := sv_if_f c159 hf
          refine sv_iload 0 C dX9_words_162 rfl ?_
          refine sv_bipush (v := 64) C dX9_words_164 (by decide) ?_
          refine sv_iadd C dX9_words_166 ?_
          refine sv_goto (tgt := 172) C dX9_words_167 (by decide) ?_
          refine sv_sub (lv' := [(0, .ref h0), (1, .int x1), (2, .int x2), (3, .int x3), (4, .int x4), (5, .int x5), (6, .int q142.1)]) [1, 2, 3, 4, 5, 6, 0] rfl ?_
          exact w_X9_words_172 C hZ hR hN ih _ _ _ _ _ _ _ _ _ hf
set_option maxHeartbeats 4000000 in
set_option maxRecDepth 100000 in
theorem m_X9_words (l : Launch) (E : sv_E) (h0 : Nat) (ad : Nat → Nat) (sz : Nat) (B : md_B) (x1 : Int32) (q : md_B) (hf : f_X9_words B x1 = some q) : sv_Met l E yX9_words cX9_words 7 none 1 24 [] [.ref h0, .int x1] (md_w E h0 ad B) sz none (md_w E h0 ad q) sz 0 0 := by
  refine sv_ofJ (by decide) (Nat.le_of_ble_eq_true rfl) ?_
  intro X hX hN hnm hR C hZ
  replace C : sv_C E X cX9_words RX9 [] := C
  show sv_J E X (md_w E h0 ad B) sz 0 0 0 [(0, .ref h0), (1, .int x1)] []
  rw [f_X9_words] at hf
  refine sv_bipush (v := 60) C dX9_words_0 (by decide) ?_
  refine sv_aload_n 0 C dX9_words_2 rfl rfl ?_
  refine md_geti C fl_X9_300 (by decide) dX9_words_3 ?_
  refine sv_imul C dX9_words_6 ?_
  refine sv_bipush (v := 20) C dX9_words_7 (by decide) ?_
  refine sv_iload_n 1 C dX9_words_9 rfl rfl ?_
  refine sv_imul C dX9_words_10 ?_
  refine sv_iadd C dX9_words_11 ?_
  refine sv_istore_n (lv' := [(2, .int ((60 * (B.1 34)) + (20 * x1))), (0, .ref h0), (1, .int x1)]) C dX9_words_12 rfl (by rw [hN]; decide) rfl ?_
  refine sv_iload_n 2 C dX9_words_13 rfl rfl ?_
  obtain ⟨q14, hc14, hf⟩ := sv_bind_some hf
  refine sv_callS0 C ms_X9_314 (m_X9_room (sv_l X) E h0 ad sz _ _ _ hc14) sv_sx0 rfl rfl (Nat.le_of_ble_eq_true rfl) ⟨by rw [hR]; decide, by rw [hR]; decide⟩ ⟨by rw [hR]; decide, by rw [hR]; decide⟩ dX9_words_14 ?_
  refine sv_istore_n (lv' := [(3, .int q14.1), (2, .int ((60 * (B.1 34)) + (20 * x1))), (0, .ref h0), (1, .int x1)]) C dX9_words_17 rfl (by rw [hN]; decide) rfl ?_
  refine sv_aload_n 2 C dX9_words_18 rfl rfl ?_
  refine md_geti C fl_X9_303 (by decide) dX9_words_19 ?_
  refine sv_if_eq (tgt := 98) C dX9_words_22 (by decide) (fun c22 => ?_) (fun c22 => ?_)
  · replace hf := sv_if_t c22 hf
    refine sv_iconst (v := 0) C dX9_words_98 (by decide) ?_
    refine sv_istore (lv' := [(4, .int 0), (3, .int q14.1), (2, .int ((60 * (B.1 34)) + (20 * x1))), (0, .ref h0), (1, .int x1)]) C dX9_words_99 (by rw [hN]; decide) rfl ?_
    refine sv_iconst (v := 0) C dX9_words_101 (by decide) ?_
    refine sv_istore (lv' := [(5, .int 0), (4, .int 0), (3, .int q14.1), (2, .int ((60 * (B.1 34)) + (20 * x1))), (0, .ref h0), (1, .int x1)]) C dX9_words_102 (by rw [hN]; decide) rfl ?_
    refine sv_sub (lv' := [(0, .ref h0), (1, .int x1), (2, .int ((60 * (B.1 34)) + (20 * x1))), (3, .int q14.1), (4, .int 0), (5, .int 0)]) [4, 5, 3, 2, 1, 0] rfl ?_
    exact w_X9_words_104 C hZ hR hN sv_fu _ _ _ _ _ _ hf
  · replace hf := sv_if_f c22 hf
    refine sv_iconst (v := 0) C dX9_words_25 (by decide) ?_
    refine sv_istore (lv' := [(4, .int 0), (3, .int q14.1), (2, .int ((60 * (B.1 34)) + (20 * x1))), (0, .ref h0), (1, .int x1)]) C dX9_words_26 (by rw [hN]; decide) rfl ?_
    refine sv_sub (lv' := [(0, .ref h0), (1, .int x1), (2, .int ((60 * (B.1 34)) + (20 * x1))), (3, .int q14.1), (4, .int 0)]) [3, 4, 2, 1, 0] rfl ?_
    exact w_X9_words_28 C hZ hR hN sv_fu _ _ _ _ _ hf
def f_X9_still (B : md_B) : Option (md_B) :=
  (f_X9_skip B 2).bind (fun q2 =>
    (f_X9_go q2 16 30 0).bind (fun q11 =>
      (f_X9_words q11 0).bind (fun q16 =>
        (f_X9_words q16 1).bind (fun q21 =>
          (f_X9_go q21 17 8 0).bind (fun q30 =>
            (f_X9_go q30 18 9 0).bind (fun q39 =>
              (f_X9_go q39 19 9 0).bind (fun q48 =>
                (f_X9_go q48 20 6 0).bind (fun q57 =>
                  (f_X9_go q57 21 6 0).bind (fun q66 =>
                    (f_X9_skip q66 4).bind (fun q71 =>
                      (f_X9_go q71 12 4 0).bind (fun q79 =>
                        (f_X9_go q79 13 5 0).bind (fun q87 =>
                          (f_X9_go q87 14 5 0).bind (fun q95 =>
                            (f_X9_go q95 15 6 0).bind (fun q104 =>
                              (f_X9_go q104 22 8 0).bind (fun q113 =>
                                (f_X9_words q113 2).bind (fun q118 =>
                                  (f_X9_skip q118 2).bind (fun q123 =>
                                    some (q123))))))))))))))))))
set_option maxHeartbeats 4000000 in
set_option maxRecDepth 100000 in
theorem m_X9_still (l : Launch) (E : sv_E) (h0 : Nat) (ad : Nat → Nat) (sz : Nat) (B : md_B) (q : md_B) (hf : f_X9_still B = some q) : sv_Met l E yX9_still cX9_still 1 none 3 70 [] [.ref h0] (md_w E h0 ad B) sz none (md_w E h0 ad q) sz 0 0 := by
  refine sv_ofJ (by decide) (Nat.le_of_ble_eq_true rfl) ?_
  intro X hX hN hnm hR C hZ
  replace C : sv_C E X cX9_still RX9 [] := C
  show sv_J E X (md_w E h0 ad B) sz 0 0 0 [(0, .ref h0)] []
  rw [f_X9_still] at hf
  refine sv_aload_n 0 C dX9_still_0 rfl rfl ?_
  refine sv_iconst (v := 2) C dX9_still_1 (by decide) ?_
  obtain ⟨q2, hc2, hf⟩ := sv_bind_some hf
  refine sv_callV0 C mv_X9_327 (m_X9_skip (sv_l X) E h0 ad sz _ _ _ hc2) sv_sx0 0 rfl rfl rfl rfl (Nat.le_of_ble_eq_true rfl) ⟨by rw [hR]; decide, by rw [hR]; decide⟩ ⟨by rw [hR]; decide, by rw [hR]; decide⟩ dX9_still_2 ?_
  refine sv_aload_n 0 C dX9_still_5 rfl rfl ?_
  refine sv_bipush (v := 16) C dX9_still_6 (by decide) ?_
  refine sv_bipush (v := 30) C dX9_still_8 (by decide) ?_
  refine sv_iconst (v := 0) C dX9_still_10 (by decide) ?_
  obtain ⟨q11, hc11, hf⟩ := sv_bind_some hf
  refine sv_callV0 C mv_X9_317 (m_X9_go (sv_l X) E h0 ad sz _ _ _ _ _ hc11) sv_sx0 0 rfl rfl rfl rfl (Nat.le_of_ble_eq_true rfl) ⟨by rw [hR]; decide, by rw [hR]; decide⟩ ⟨by rw [hR]; decide, by rw [hR]; decide⟩ dX9_still_11 ?_
  refine sv_aload_n 0 C dX9_still_14 rfl rfl ?_
  refine sv_iconst (v := 0) C dX9_still_15 (by decide) ?_
  obtain ⟨q16, hc16, hf⟩ := sv_bind_some hf
  refine sv_callV0 C mv_X9_333 (m_X9_words (sv_l X) E h0 ad sz _ _ _ hc16) sv_sx0 0 rfl rfl rfl rfl (Nat.le_of_ble_eq_true rfl) ⟨by rw [hR]; decide, by rw [hR]; decide⟩ ⟨by rw [hR]; decide, by rw [hR]; decide⟩ dX9_still_16 ?_
  refine sv_aload_n 0 C dX9_still_19 rfl rfl ?_
  refine sv_iconst (v := 1) C dX9_still_20 (by decide) ?_
  obtain ⟨q21, hc21, hf⟩ := sv_bind_some hf
  refine sv_callV0 C mv_X9_333 (m_X9_words (sv_l X) E h0 ad sz _ _ _ hc21) sv_sx0 0 rfl rfl rfl rfl (Nat.le_of_ble_eq_true rfl) ⟨by rw [hR]; decide, by rw [hR]; decide⟩ ⟨by rw [hR]; decide, by rw [hR]; decide⟩ dX9_still_21 ?_
  refine sv_aload_n 0 C dX9_still_24 rfl rfl ?_
  refine sv_bipush (v := 17) C dX9_still_25 (by decide) ?_
  refine sv_bipush (v := 8) C dX9_still_27 (by decide) ?_
  refine sv_iconst (v := 0) C dX9_still_29 (by decide) ?_
  obtain ⟨q30, hc30, hf⟩ := sv_bind_some hf
  refine sv_callV0 C mv_X9_317 (m_X9_go (sv_l X) E h0 ad sz _ _ _ _ _ hc30) sv_sx0 0 rfl rfl rfl rfl (Nat.le_of_ble_eq_true rfl) ⟨by rw [hR]; decide, by rw [hR]; decide⟩ ⟨by rw [hR]; decide, by rw [hR]; decide⟩ dX9_still_30 ?_
  refine sv_aload_n 0 C dX9_still_33 rfl rfl ?_
  refine sv_bipush (v := 18) C dX9_still_34 (by decide) ?_
  refine sv_bipush (v := 9) C dX9_still_36 (by decide) ?_
  refine sv_iconst (v := 0) C dX9_still_38 (by decide) ?_
  obtain ⟨q39, hc39, hf⟩ := sv_bind_some hf
  refine sv_callV0 C mv_X9_317 (m_X9_go (sv_l X) E h0 ad sz _ _ _ _ _ hc39) sv_sx0 0 rfl rfl rfl rfl (Nat.le_of_ble_eq_true rfl) ⟨by rw [hR]; decide, by rw [hR]; decide⟩ ⟨by rw [hR]; decide, by rw [hR]; decide⟩ dX9_still_39 ?_
  refine sv_aload_n 0 C dX9_still_42 rfl rfl ?_
  refine sv_bipush (v := 19) C dX9_still_43 (by decide) ?_
  refine sv_bipush (v := 9) C dX9_still_45 (by decide) ?_
  refine sv_iconst (v := 0) C dX9_still_47 (by decide) ?_
  obtain ⟨q48, hc48, hf⟩ := sv_bind_some hf
  refine sv_callV0 C mv_X9_317 (m_X9_go (sv_l X) E h0 ad sz _ _ _ _ _ hc48) sv_sx0 0 rfl rfl rfl rfl (Nat.le_of_ble_eq_true rfl) ⟨by rw [hR]; decide, by rw [hR]; decide⟩ ⟨by rw [hR]; decide, by rw [hR]; decide⟩ dX9_still_48 ?_
  refine sv_aload_n 0 C dX9_still_51 rfl rfl ?_
  refine sv_bipush (v := 20) C dX9_still_52 (by decide) ?_
  refine sv_bipush (v := 6) C dX9_still_54 (by decide) ?_
  refine sv_iconst (v := 0) C dX9_still_56 (by decide) ?_
  obtain ⟨q57, hc57, hf⟩ := sv_bind_some hf
  refine sv_callV0 C mv_X9_317 (m_X9_go (sv_l X) E h0 ad sz _ _ _ _ _ hc57) sv_sx0 0 rfl rfl rfl rfl (Nat.le_of_ble_eq_true rfl) ⟨by rw [hR]; decide, by rw [hR]; decide⟩ ⟨by rw [hR]; decide, by rw [hR]; decide⟩ dX9_still_57 ?_
  refine sv_aload_n 0 C dX9_still_60 rfl rfl ?_
  refine sv_bipush (v := 21) C dX9_still_61 (by decide) ?_
  refine sv_bipush (v := 6) C dX9_still_63 (by decide) ?_
  refine sv_iconst (v := 0) C dX9_still_65 (by decide) ?_
  obtain ⟨q66, hc66, hf⟩ := sv_bind_some hf
  refine sv_callV0 C mv_X9_317 (m_X9_go (sv_l X) E h0 ad sz _ _ _ _ _ hc66) sv_sx0 0 rfl rfl rfl rfl (Nat.le_of_ble_eq_true rfl) ⟨by rw [hR]; decide, by rw [hR]; decide⟩ ⟨by rw [hR]; decide, by rw [hR]; decide⟩ dX9_still_66 ?_
  refine sv_aload_n 0 C dX9_still_69 rfl rfl ?_
  refine sv_iconst (v := 4) C dX9_still_70 (by decide) ?_
  obtain ⟨q71, hc71, hf⟩ := sv_bind_some hf
  refine sv_callV0 C mv_X9_327 (m_X9_skip (sv_l X) E h0 ad sz _ _ _ hc71) sv_sx0 0 rfl rfl rfl rfl (Nat.le_of_ble_eq_true rfl) ⟨by rw [hR]; decide, by rw [hR]; decide⟩ ⟨by rw [hR]; decide, by rw [hR]; decide⟩ dX9_still_71 ?_
  refine sv_aload_n 0 C dX9_still_74 rfl rfl ?_
  refine sv_bipush (v := 12) C dX9_still_75 (by decide) ?_
  refine sv_iconst (v := 4) C dX9_still_77 (by decide) ?_
  refine sv_iconst (v := 0) C dX9_still_78 (by decide) ?_
  obtain ⟨q79, hc79, hf⟩ := sv_bind_some hf
  refine sv_callV0 C mv_X9_317 (m_X9_go (sv_l X) E h0 ad sz _ _ _ _ _ hc79) sv_sx0 0 rfl rfl rfl rfl (Nat.le_of_ble_eq_true rfl) ⟨by rw [hR]; decide, by rw [hR]; decide⟩ ⟨by rw [hR]; decide, by rw [hR]; decide⟩ dX9_still_79 ?_
  refine sv_aload_n 0 C dX9_still_82 rfl rfl ?_
  refine sv_bipush (v := 13) C dX9_still_83 (by decide) ?_
  refine sv_iconst (v := 5) C dX9_still_85 (by decide) ?_
  refine sv_iconst (v := 0) C dX9_still_86 (by decide) ?_
  obtain ⟨q87, hc87, hf⟩ := sv_bind_some hf
  refine sv_callV0 C mv_X9_317 (m_X9_go (sv_l X) E h0 ad sz _ _ _ _ _ hc87) sv_sx0 0 rfl rfl rfl rfl (Nat.le_of_ble_eq_true rfl) ⟨by rw [hR]; decide, by rw [hR]; decide⟩ ⟨by rw [hR]; decide, by rw [hR]; decide⟩ dX9_still_87 ?_
  refine sv_aload_n 0 C dX9_still_90 rfl rfl ?_
  refine sv_bipush (v := 14) C dX9_still_91 (by decide) ?_
  refine sv_iconst (v := 5) C dX9_still_93 (by decide) ?_
  refine sv_iconst (v := 0) C dX9_still_94 (by decide) ?_
  obtain ⟨q95, hc95, hf⟩ := sv_bind_some hf
  refine sv_callV0 C mv_X9_317 (m_X9_go (sv_l X) E h0 ad sz _ _ _ _ _ hc95) sv_sx0 0 rfl rfl rfl rfl (Nat.le_of_ble_eq_true rfl) ⟨by rw [hR]; decide, by rw [hR]; decide⟩ ⟨by rw [hR]; decide, by rw [hR]; decide⟩ dX9_still_95 ?_
  refine sv_aload_n 0 C dX9_still_98 rfl rfl ?_
  refine sv_bipush (v := 15) C dX9_still_99 (by decide) ?_
  refine sv_bipush (v := 6) C dX9_still_101 (by decide) ?_
  refine sv_iconst (v := 0) C dX9_still_103 (by decide) ?_
  obtain ⟨q104, hc104, hf⟩ := sv_bind_some hf
  refine sv_callV0 C mv_X9_317 (m_X9_go (sv_l X) E h0 ad sz _ _ _ _ _ hc104) sv_sx0 0 rfl rfl rfl rfl (Nat.le_of_ble_eq_true rfl) ⟨by rw [hR]; decide, by rw [hR]; decide⟩ ⟨by rw [hR]; decide, by rw [hR]; decide⟩ dX9_still_104 ?_
  refine sv_aload_n 0 C dX9_still_107 rfl rfl ?_
  refine sv_bipush (v := 22) C dX9_still_108 (by decide) ?_
  refine sv_bipush (v := 8) C dX9_still_110 (by decide) ?_
  refine sv_iconst (v := 0) C dX9_still_112 (by decide) ?_
  obtain ⟨q113, hc113, hf⟩ := sv_bind_some hf
  refine sv_callV0 C mv_X9_317 (m_X9_go (sv_l X) E h0 ad sz _ _ _ _ _ hc113) sv_sx0 0 rfl rfl rfl rfl (Nat.le_of_ble_eq_true rfl) ⟨by rw [hR]; decide, by rw [hR]; decide⟩ ⟨by rw [hR]; decide, by rw [hR]; decide⟩ dX9_still_113 ?_
  refine sv_aload_n 0 C dX9_still_116 rfl rfl ?_
  refine sv_iconst (v := 2) C dX9_still_117 (by decide) ?_
  obtain ⟨q118, hc118, hf⟩ := sv_bind_some hf
  refine sv_callV0 C mv_X9_333 (m_X9_words (sv_l X) E h0 ad sz _ _ _ hc118) sv_sx0 0 rfl rfl rfl rfl (Nat.le_of_ble_eq_true rfl) ⟨by rw [hR]; decide, by rw [hR]; decide⟩ ⟨by rw [hR]; decide, by rw [hR]; decide⟩ dX9_still_118 ?_
  refine sv_aload_n 0 C dX9_still_121 rfl rfl ?_
  refine sv_iconst (v := 2) C dX9_still_122 (by decide) ?_
  obtain ⟨q123, hc123, hf⟩ := sv_bind_some hf
  refine sv_callV0 C mv_X9_327 (m_X9_skip (sv_l X) E h0 ad sz _ _ _ hc123) sv_sx0 0 rfl rfl rfl rfl (Nat.le_of_ble_eq_true rfl) ⟨by rw [hR]; decide, by rw [hR]; decide⟩ ⟨by rw [hR]; decide, by rw [hR]; decide⟩ dX9_still_123 ?_
  exact sv_vret C (by cases hf; exact hZ) dX9_still_126
