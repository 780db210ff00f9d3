def f_X2_at_27 (T : gh_T) (a0 : Nat) (V : gh_V) : Option (Option Nat × gh_V) :=
  some (none, V)
def f_X2_at (T : gh_T) (V : gh_V) (a0 : Nat) (x1 : Int32) : Option (Option Nat × gh_V) :=
  if x1 < 0 then
    f_X2_at_27 T a0 V
  else
    if (V.1 1 a0) ≤ x1 then
      f_X2_at_27 T a0 V
    else
      if 40 ≤ x1 then
        f_X2_at_27 T a0 V
      else
        (T.2.2.1 0 a0).bind (fun b19 =>
          sv_g (sv_inb x1 (T.2.2.2.1 b19)) (
            (T.2.2.2.2 b19 x1.toNatClampNeg).bind (fun b23 =>
              some (some b23, V))))
set_option maxHeartbeats 4000000 in
set_option maxRecDepth 100000 in
theorem w_X2_at_27 {E : sv_E} {X : sv_X} {sz : Nat} {q : Option Nat × gh_V} {T : gh_T} {a0 : Nat} (C : sv_C E X cX2_at RX2 []) (hZ : sv_Z E X (some (.object "SeaReceiver$Vessel")) (some (va_rf q.1)) (gh_w E T q.2) sz 0 0) (hR : sv_R X = { frames := 0, cells := 0, slots := 0, locals := 0 }) (hN : sv_nL X = 2) (hT : gh_ok T) (o_a0 : gh_is T a0 2) (V : gh_V) (hf : f_X2_at_27 T a0 V = some q) : sv_J E X (gh_w E T V) sz 0 0 27 [] [] := by
  rw [f_X2_at_27] at hf
  refine sv_null C dX2_at_27 ?_
  exact sv_aret C (Or.inl ⟨_, rfl⟩) (Or.inl rfl) (by cases hf; exact hZ) dX2_at_28
set_option maxHeartbeats 4000000 in
set_option maxRecDepth 100000 in
theorem m_X2_at (l : Launch) (E : sv_E) (T : gh_T) (sz : Nat) (V : gh_V) (a0 : Nat) (x1 : Int32) (q : Option Nat × gh_V) (hf : f_X2_at T V a0 x1 = some q) (hT : gh_ok T) (o_a0 : gh_is T a0 2) : sv_Met l E yX2_at cX2_at 2 (some (.object "SeaReceiver$Vessel")) 0 0 [] [.ref a0, .int x1] (gh_w E T V) sz (some (va_rf q.1)) (gh_w E T q.2) sz 0 0 := by
  refine sv_ofJ (by decide) (Nat.le_of_ble_eq_true rfl) ?_
  intro X hX hN hnm hR C hZ
  replace C : sv_C E X cX2_at RX2 [] := C
  show sv_J E X (gh_w E T V) sz 0 0 0 [(0, .ref a0), (1, .int x1)] []
  rw [f_X2_at] at hf
  refine sv_iload_n 1 C dX2_at_0 rfl rfl ?_
  refine sv_if_lt (tgt := 27) C dX2_at_1 (by decide) (fun c1 => ?_) (fun c1 => ?_)
  · replace hf := sv_if_t c1 hf
    refine sv_sub (lv' := []) [] rfl ?_
    exact w_X2_at_27 C hZ hR hN hT o_a0 _ hf
  · replace hf := sv_if_f c1 hf
    refine sv_iload_n 1 C dX2_at_4 rfl rfl ?_
    refine sv_aload_n 0 C dX2_at_5 rfl rfl ?_
    refine gh_geti C fl_X2_17 o_a0 (by decide) (by decide) dX2_at_6 ?_
    refine sv_icmp_ge (tgt := 27) C dX2_at_9 (by decide) (fun c9 => ?_) (fun c9 => ?_)
    · replace hf := sv_if_t c9 hf
      refine sv_sub (lv' := []) [] rfl ?_
      exact w_X2_at_27 C hZ hR hN hT o_a0 _ hf
    · replace hf := sv_if_f c9 hf
      refine sv_iload_n 1 C dX2_at_12 rfl rfl ?_
      refine sv_bipush (v := 40) C dX2_at_13 (by decide) ?_
      refine sv_icmp_ge (tgt := 27) C dX2_at_15 (by decide) (fun c15 => ?_) (fun c15 => ?_)
      · replace hf := sv_if_t c15 hf
        refine sv_sub (lv' := []) [] rfl ?_
        exact w_X2_at_27 C hZ hR hN hT o_a0 _ hf
      · replace hf := sv_if_f c15 hf
        refine sv_aload_n 0 C dX2_at_18 rfl rfl ?_
        obtain ⟨b19, hb19, hf⟩ := sv_bind_some hf
        have o_b19 : gh_is T b19 13 := gh_okr hT o_a0 rfl hb19
        refine gh_getr (d := 13) C fl_X2_13 o_a0 (by decide) (by decide) hb19 dX2_at_19 ?_
        refine sv_iload_n 1 C dX2_at_22 rfl rfl ?_
        obtain ⟨g23, hf⟩ := sv_g_some hf
        obtain ⟨b23, hb23, hf⟩ := sv_bind_some hf
        have o_b23 : gh_is T b23 7 := hT.2.2 _ _ _ o_b19 hb23
        refine gh_aald (t0 := 5) C o_b19 (by decide) rfl g23 dX2_at_23 ?_
        rw [hb23]
        show sv_J E X (gh_w E T V) sz 0 0 24 [(0, .ref a0), (1, .int x1)] [.ref b23]
        refine sv_goto (tgt := 28) C dX2_at_24 (by decide) ?_
        exact sv_aret C (Or.inl ⟨_, rfl⟩) (Or.inr ⟨_, rfl⟩) (by cases hf; exact hZ) dX2_at_28
def f_X2_numberOf_42 (T : gh_T) (a0 : Nat) (k2 : gh_V → Int32 → Int32 → Option (Int32 × gh_V)) (V : gh_V) (x1 : Int32) (x2 : Int32) : Option (Int32 × gh_V) :=
  k2 V x1 (x2 + 1)
def f_X2_numberOf_2 (T : gh_T) (a0 : Nat) : Nat → gh_V → Int32 → Int32 → Option (Int32 × gh_V)
  | 0, _, _, _ => none
  | n + 1, V, x1, x2 =>
    if (V.1 1 a0) ≤ x2 then
      some ((-2147483648), V)
    else
      if 40 ≤ x2 then
        some ((-2147483648), V)
      else
        (T.2.2.1 0 a0).bind (fun b17 =>
          sv_g (sv_inb x2 (T.2.2.2.1 b17)) (
            match T.2.2.2.2 b17 x2.toNatClampNeg with
            | none =>
                f_X2_numberOf_42 T a0 (f_X2_numberOf_2 T a0 n) V x1 x2
            | some b21 =>
                (T.2.2.1 0 a0).bind (fun b26 =>
                  sv_g (sv_inb x2 (T.2.2.2.1 b26)) (
                    (T.2.2.2.2 b26 x2.toNatClampNeg).bind (fun b30 =>
                      (T.2.2.1 0 b30).bind (fun b31 =>
                        sv_g (sv_inb (0 : Int32) (T.2.2.2.1 b31)) (
                          if (V.2 b31 (0 : Int32).toNatClampNeg) = x1 then
                            some (x2, V)
                          else
                            f_X2_numberOf_42 T a0 (f_X2_numberOf_2 T a0 n) V x1 x2)))))))
def f_X2_numberOf (T : gh_T) (V : gh_V) (a0 : Nat) (x1 : Int32) : Option (Int32 × gh_V) :=
  f_X2_numberOf_2 T a0 sv_fu V x1 0
set_option maxHeartbeats 4000000 in
set_option maxRecDepth 100000 in
theorem w_X2_numberOf_42 {E : sv_E} {X : sv_X} {sz : Nat} {q : Int32 × gh_V} {T : gh_T} {a0 : Nat} (C : sv_C E X cX2_numberOf RX2 []) (hZ : sv_Z E X (some .int) (some (.int q.1)) (gh_w E T q.2) sz 0 0) (hR : sv_R X = { frames := 0, cells := 0, slots := 0, locals := 0 }) (hN : sv_nL X = 3) (hT : gh_ok T) (o_a0 : gh_is T a0 2) {k2 : gh_V → Int32 → Int32 → Option (Int32 × gh_V)} (hk2 : ∀ (V : gh_V) (x1 : Int32) (x2 : Int32), k2 V x1 x2 = some q → sv_J E X (gh_w E T V) sz 0 0 2 [(0, .ref a0), (1, .int x1), (2, .int x2)] []) (V : gh_V) (x1 : Int32) (x2 : Int32) (hf : f_X2_numberOf_42 T a0 k2 V x1 x2 = some q) : sv_J E X (gh_w E T V) sz 0 0 42 [(0, .ref a0), (1, .int x1), (2, .int x2)] [] := by
  rw [f_X2_numberOf_42] at hf
  refine sv_iinc (v := x2 + 1) (lv' := [(2, .int (x2 + 1)), (0, .ref a0), (1, .int x1)]) 2 C dX2_numberOf_42 rfl rfl (by rw [hN]; decide) rfl ?_
  refine sv_goto (tgt := 2) C dX2_numberOf_45 (by decide) ?_
  refine sv_sub (lv' := [(0, .ref a0), (1, .int x1), (2, .int (x2 + 1))]) [1, 2, 0] rfl ?_
  exact hk2 _ _ _ hf
set_option maxHeartbeats 4000000 in
set_option maxRecDepth 100000 in
theorem w_X2_numberOf_2 {E : sv_E} {X : sv_X} {sz : Nat} {q : Int32 × gh_V} {T : gh_T} {a0 : Nat} (C : sv_C E X cX2_numberOf RX2 []) (hZ : sv_Z E X (some .int) (some (.int q.1)) (gh_w E T q.2) sz 0 0) (hR : sv_R X = { frames := 0, cells := 0, slots := 0, locals := 0 }) (hN : sv_nL X = 3) (hT : gh_ok T) (o_a0 : gh_is T a0 2) : ∀ (n : Nat) (V : gh_V) (x1 : Int32) (x2 : Int32), f_X2_numberOf_2 T a0 n V x1 x2 = some q → sv_J E X (gh_w E T V) sz 0 0 2 [(0, .ref a0), (1, .int x1), (2, .int x2)] [] := by
  intro n
  induction n with
  | zero =>
    intro V x1 x2 hf
    rw [f_X2_numberOf_2] at hf
    cases hf
  | succ n ih =>
    intro V x1 x2 hf
    rw [f_X2_numberOf_2] at hf
    refine sv_iload_n 2 C dX2_numberOf_2 rfl rfl ?_
    refine sv_aload_n 0 C dX2_numberOf_3 rfl rfl ?_
    refine gh_geti C fl_X2_17 o_a0 (by decide) (by decide) dX2_numberOf_4 ?_
    refine sv_icmp_ge (tgt := 48) C dX2_numberOf_7 (by decide) (fun c7 => ?_) (fun c7 => ?_)
    · replace hf := sv_if_t c7 hf
      refine sv_ldc C kw_205 dX2_numberOf_48 ?_
      exact sv_iret C (by cases hf; exact hZ) dX2_numberOf_50
    · replace hf := sv_if_f c7 hf
      refine sv_iload_n 2 C dX2_numberOf_10 rfl rfl ?_
      refine sv_bipush (v := 40) C dX2_numberOf_11 (by decide) ?_
      refine sv_icmp_ge (tgt := 48) C dX2_numberOf_13 (by decide) (fun c13 => ?_) (fun c13 => ?_)
      · replace hf := sv_if_t c13 hf
        refine sv_ldc C kw_205 dX2_numberOf_48 ?_
        exact sv_iret C (by cases hf; exact hZ) dX2_numberOf_50
      · replace hf := sv_if_f c13 hf
        refine sv_aload_n 0 C dX2_numberOf_16 rfl rfl ?_
        obtain ⟨b17, hb17, hf⟩ := sv_bind_some hf
        have o_b17 : gh_is T b17 13 := gh_okr hT o_a0 rfl hb17
        refine gh_getr (d := 13) C fl_X2_13 o_a0 (by decide) (by decide) hb17 dX2_numberOf_17 ?_
        refine sv_iload_n 2 C dX2_numberOf_20 rfl rfl ?_
        obtain ⟨g21, hf⟩ := sv_g_some hf
        refine gh_aald (t0 := 5) C o_b17 (by decide) rfl g21 dX2_numberOf_21 ?_
        cases hb21 : T.2.2.2.2 b17 x2.toNatClampNeg with
        | none =>
          rw [hb21] at hf
          refine sv_ifnullN (tgt := 42) C dX2_numberOf_22 (by decide) ?_
          refine sv_sub (lv' := [(0, .ref a0), (1, .int x1), (2, .int x2)]) [0, 1, 2] rfl ?_
          exact w_X2_numberOf_42 C hZ hR hN hT o_a0 ih _ _ _ hf
        | some b21 =>
          rw [hb21] at hf
          have o_b21 : gh_is T b21 7 := hT.2.2 _ _ _ o_b17 hb21
          refine sv_ifnull C dX2_numberOf_22 ?_
          refine sv_aload_n 0 C dX2_numberOf_25 rfl rfl ?_
          obtain ⟨b26, hb26, hf⟩ := sv_bind_some hf
          have o_b26 : gh_is T b26 13 := gh_okr hT o_a0 rfl hb26
          refine gh_getr (d := 13) C fl_X2_13 o_a0 (by decide) (by decide) hb26 dX2_numberOf_26 ?_
          refine sv_iload_n 2 C dX2_numberOf_29 rfl rfl ?_
          obtain ⟨g30, hf⟩ := sv_g_some hf
          obtain ⟨b30, hb30, hf⟩ := sv_bind_some hf
          have o_b30 : gh_is T b30 7 := hT.2.2 _ _ _ o_b26 hb30
          refine gh_aald (t0 := 5) C o_b26 (by decide) rfl g30 dX2_numberOf_30 ?_
          rw [hb30]
          show sv_J E X (gh_w E T V) sz 0 0 31 [(0, .ref a0), (1, .int x1), (2, .int x2)] [.ref b30]
          obtain ⟨b31, hb31, hf⟩ := sv_bind_some hf
          have o_b31 : gh_is T b31 10 := gh_okr hT o_b30 rfl hb31
          refine gh_getr (d := 10) C fl_X2_21 o_b30 (by decide) (by decide) hb31 dX2_numberOf_31 ?_
          refine sv_iconst (v := 0) C dX2_numberOf_34 (by decide) ?_
          obtain ⟨g35, hf⟩ := sv_g_some hf
          refine gh_iald C o_b31 g35 dX2_numberOf_35 ?_
          refine sv_iload_n 1 C dX2_numberOf_36 rfl rfl ?_
          refine sv_icmp_ne (tgt := 42) C dX2_numberOf_37 (by decide) (fun c37 => ?_) (fun c37 => ?_)
          · replace hf := sv_if_f c37 hf
            refine sv_sub (lv' := [(0, .ref a0), (1, .int x1), (2, .int x2)]) [0, 1, 2] rfl ?_
            exact w_X2_numberOf_42 C hZ hR hN hT o_a0 ih _ _ _ hf
          · replace hf := sv_if_t c37 hf
            refine sv_iload_n 2 C dX2_numberOf_40 rfl rfl ?_
            exact sv_iret C (by cases hf; exact hZ) dX2_numberOf_41
set_option maxHeartbeats 4000000 in
set_option maxRecDepth 100000 in
theorem m_X2_numberOf (l : Launch) (E : sv_E) (T : gh_T) (sz : Nat) (V : gh_V) (a0 : Nat) (x1 : Int32) (q : Int32 × gh_V) (hf : f_X2_numberOf T V a0 x1 = some q) (hT : gh_ok T) (o_a0 : gh_is T a0 2) : sv_Met l E yX2_numberOf cX2_numberOf 3 (some .int) 0 0 [] [.ref a0, .int x1] (gh_w E T V) sz (some (.int q.1)) (gh_w E T q.2) sz 0 0 := by
  refine sv_ofJ (by decide) (Nat.le_of_ble_eq_true rfl) ?_
  intro X hX hN hnm hR C hZ
  replace C : sv_C E X cX2_numberOf RX2 [] := C
  show sv_J E X (gh_w E T V) sz 0 0 0 [(0, .ref a0), (1, .int x1)] []
  rw [f_X2_numberOf] at hf
  refine sv_iconst (v := 0) C dX2_numberOf_0 (by decide) ?_
  refine sv_istore_n (lv' := [(2, .int 0), (0, .ref a0), (1, .int x1)]) C dX2_numberOf_1 rfl (by rw [hN]; decide) rfl ?_
  refine sv_sub (lv' := [(0, .ref a0), (1, .int x1), (2, .int 0)]) [1, 2, 0] rfl ?_
  exact w_X2_numberOf_2 C hZ hR hN hT o_a0 sv_fu _ _ _ hf
def f_X3_forget (T : gh_T) (V : gh_V) (a0 : Nat) : Option (gh_V) :=
  (T.2.2.1 2 a0).bind (fun b1 =>
    (f_J7_fill_53178 T V b1 0).bind (fun q5 =>
      some (q5)))
set_option maxHeartbeats 4000000 in
set_option maxRecDepth 100000 in
theorem m_X3_forget (l : Launch) (E : sv_E) (T : gh_T) (sz : Nat) (V : gh_V) (a0 : Nat) (q : gh_V) (hf : f_X3_forget T V a0 = some q) (hT : gh_ok T) (o_a0 : gh_is T a0 3) : sv_Met l E yX3_forget cX3_forget 1 none 1 23 [] [.ref a0] (gh_w E T V) sz none (gh_w E T q) sz 0 0 := by
  refine sv_ofJ (by decide) (Nat.le_of_ble_eq_true rfl) ?_
  intro X hX hN hnm hR C hZ
  replace C : sv_C E X cX3_forget RX3 [] := C
  show sv_J E X (gh_w E T V) sz 0 0 0 [(0, .ref a0)] []
  rw [f_X3_forget] at hf
  refine sv_aload_n 0 C dX3_forget_0 rfl rfl ?_
  obtain ⟨b1, hb1, hf⟩ := sv_bind_some hf
  have o_b1 : gh_is T b1 10 := gh_okr hT o_a0 rfl hb1
  refine gh_getr (d := 10) C fl_X3_21 o_a0 (by decide) (by decide) hb1 dX3_forget_1 ?_
  refine sv_iconst (v := 0) C dX3_forget_4 (by decide) ?_
  obtain ⟨q5, hc5, hf⟩ := sv_bind_some hf
  refine sv_callS0 C ms_X3_24 (m_J7_fill_53178 (sv_l X) E T sz _ _ _ _ hc5 hT o_b1) sv_sx0 rfl rfl (Nat.le_of_ble_eq_true rfl) ⟨by rw [hR]; decide, by rw [hR]; decide⟩ ⟨by rw [hR]; decide, by rw [hR]; decide⟩ dX3_forget_5 ?_
  exact sv_vret C (by cases hf; exact hZ) dX3_forget_8
def f_X3_keptInAll_4 (T : gh_T) (a0 : Nat) : Nat → gh_V → Int32 → Int32 → Option (Int32 × gh_V)
  | 0, _, _, _ => none
  | n + 1, V, x1, x2 =>
    if 11 ≤ x2 then
      some (x1, V)
    else
      (T.2.2.1 2 a0).bind (fun b12 =>
        sv_g (sv_inb x2 (T.2.2.2.1 b12)) (
          (f_X3_keptInAll_4 T a0 n) V (x1 + (V.2 b12 x2.toNatClampNeg)) (x2 + 1)))
def f_X3_keptInAll (T : gh_T) (V : gh_V) (a0 : Nat) : Option (Int32 × gh_V) :=
  f_X3_keptInAll_4 T a0 sv_fu V 0 0
set_option maxHeartbeats 4000000 in
set_option maxRecDepth 100000 in
theorem w_X3_keptInAll_4 {E : sv_E} {X : sv_X} {sz : Nat} {q : Int32 × gh_V} {T : gh_T} {a0 : Nat} (C : sv_C E X cX3_keptInAll RX3 []) (hZ : sv_Z E X (some .int) (some (.int q.1)) (gh_w E T q.2) sz 0 0) (hR : sv_R X = { frames := 0, cells := 0, slots := 0, locals := 0 }) (hN : sv_nL X = 3) (hT : gh_ok T) (o_a0 : gh_is T a0 3) : ∀ (n : Nat) (V : gh_V) (x1 : Int32) (x2 : Int32), f_X3_keptInAll_4 T a0 n V x1 x2 = some q → sv_J E X (gh_w E T V) sz 0 0 4 [(0, .ref a0), (1, .int x1), (2, .int x2)] [] := by
  intro n
  induction n with
  | zero =>
    intro V x1 x2 hf
    rw [f_X3_keptInAll_4] at hf
    cases hf
  | succ n ih =>
    intro V x1 x2 hf
    rw [f_X3_keptInAll_4] at hf
    refine sv_iload_n 2 C dX3_keptInAll_4 rfl rfl ?_
    refine sv_bipush (v := 11) C dX3_keptInAll_5 (by decide) ?_
    refine sv_icmp_ge (tgt := 25) C dX3_keptInAll_7 (by decide) (fun c7 => ?_) (fun c7 => ?_)
    · replace hf := sv_if_t c7 hf
      refine sv_iload_n 1 C dX3_keptInAll_25 rfl rfl ?_
      exact sv_iret C (by cases hf; exact hZ) dX3_keptInAll_26
    · replace hf := sv_if_f c7 hf
      refine sv_iload_n 1 C dX3_keptInAll_10 rfl rfl ?_
      refine sv_aload_n 0 C dX3_keptInAll_11 rfl rfl ?_
      obtain ⟨b12, hb12, hf⟩ := sv_bind_some hf
      have o_b12 : gh_is T b12 10 := gh_okr hT o_a0 rfl hb12
      refine gh_getr (d := 10) C fl_X3_21 o_a0 (by decide) (by decide) hb12 dX3_keptInAll_12 ?_
      refine sv_iload_n 2 C dX3_keptInAll_15 rfl rfl ?_
      obtain ⟨g16, hf⟩ := sv_g_some hf
      refine gh_iald C o_b12 g16 dX3_keptInAll_16 ?_
      refine sv_iadd C dX3_keptInAll_17 ?_
      refine sv_istore_n (lv' := [(1, .int (x1 + (V.2 b12 x2.toNatClampNeg))), (0, .ref a0), (2, .int x2)]) C dX3_keptInAll_18 rfl (by rw [hN]; decide) rfl ?_
      refine sv_iinc (v := x2 + 1) (lv' := [(2, .int (x2 + 1)), (1, .int (x1 + (V.2 b12 x2.toNatClampNeg))), (0, .ref a0)]) 2 C dX3_keptInAll_19 rfl rfl (by rw [hN]; decide) rfl ?_
      refine sv_goto (tgt := 4) C dX3_keptInAll_22 (by decide) ?_
      refine sv_sub (lv' := [(0, .ref a0), (1, .int (x1 + (V.2 b12 x2.toNatClampNeg))), (2, .int (x2 + 1))]) [2, 1, 0] rfl ?_
      exact ih _ _ _ hf
set_option maxHeartbeats 4000000 in
set_option maxRecDepth 100000 in
theorem m_X3_keptInAll (l : Launch) (E : sv_E) (T : gh_T) (sz : Nat) (V : gh_V) (a0 : Nat) (q : Int32 × gh_V) (hf : f_X3_keptInAll T V a0 = some q) (hT : gh_ok T) (o_a0 : gh_is T a0 3) : sv_Met l E yX3_keptInAll cX3_keptInAll 3 (some .int) 0 0 [] [.ref a0] (gh_w E T V) sz (some (.int q.1)) (gh_w E T q.2) sz 0 0 := by
  refine sv_ofJ (by decide) (Nat.le_of_ble_eq_true rfl) ?_
  intro X hX hN hnm hR C hZ
  replace C : sv_C E X cX3_keptInAll RX3 [] := C
  show sv_J E X (gh_w E T V) sz 0 0 0 [(0, .ref a0)] []
  rw [f_X3_keptInAll] at hf
  refine sv_iconst (v := 0) C dX3_keptInAll_0 (by decide) ?_
  refine sv_istore_n (lv' := [(1, .int 0), (0, .ref a0)]) C dX3_keptInAll_1 rfl (by rw [hN]; decide) rfl ?_
  refine sv_iconst (v := 0) C dX3_keptInAll_2 (by decide) ?_
  refine sv_istore_n (lv' := [(2, .int 0), (1, .int 0), (0, .ref a0)]) C dX3_keptInAll_3 rfl (by rw [hN]; decide) rfl ?_
  refine sv_sub (lv' := [(0, .ref a0), (1, .int 0), (2, .int 0)]) [2, 1, 0] rfl ?_
  exact w_X3_keptInAll_4 C hZ hR hN hT o_a0 sv_fu _ _ _ hf
def f_X3_drop (T : gh_T) (V : gh_V) (a0 : Nat) (x1 : Int32) : Option (Int32 × gh_V) :=
  if x1 < 0 then
    some (0, V)
  else
    if 11 ≤ x1 then
      some (0, V)
    else
      (T.2.2.1 2 a0).bind (fun b11 =>
        sv_g (sv_inb x1 (T.2.2.2.1 b11)) (
          if (V.2 b11 x1.toNatClampNeg) = 0 then
            some (0, V)
          else
            (T.2.2.1 2 a0).bind (fun b22 =>
              sv_g (sv_inb x1 (T.2.2.2.1 b22)) (
                some (1, gh_pa V b22 x1 0)))))
set_option maxHeartbeats 4000000 in
set_option maxRecDepth 100000 in
theorem m_X3_drop (l : Launch) (E : sv_E) (T : gh_T) (sz : Nat) (V : gh_V) (a0 : Nat) (x1 : Int32) (q : Int32 × gh_V) (hf : f_X3_drop T V a0 x1 = some q) (hT : gh_ok T) (o_a0 : gh_is T a0 3) : sv_Met l E yX3_drop cX3_drop 2 (some .boolean) 0 0 [] [.ref a0, .int x1] (gh_w E T V) sz (some (.int q.1)) (gh_w E T q.2) sz 0 0 := by
  refine sv_ofJ (by decide) (Nat.le_of_ble_eq_true rfl) ?_
  intro X hX hN hnm hR C hZ
  replace C : sv_C E X cX3_drop RX3 [] := C
  show sv_J E X (gh_w E T V) sz 0 0 0 [(0, .ref a0), (1, .int x1)] []
  rw [f_X3_drop] at hf
  refine sv_iload_n 1 C dX3_drop_0 rfl rfl ?_
  refine sv_if_lt (tgt := 19) C dX3_drop_1 (by decide) (fun c1 => ?_) (fun c1 => ?_)
  · replace hf := sv_if_t c1 hf
    refine sv_iconst (v := 0) C dX3_drop_19 (by decide) ?_
    exact sv_zret (ty := .boolean) C (by decide) (by cases hf; exact hZ) dX3_drop_20
  · replace hf := sv_if_f c1 hf
    refine sv_iload_n 1 C dX3_drop_4 rfl rfl ?_
    refine sv_bipush (v := 11) C dX3_drop_5 (by decide) ?_
    refine sv_icmp_ge (tgt := 19) C dX3_drop_7 (by decide) (fun c7 => ?_) (fun c7 => ?_)
    · replace hf := sv_if_t c7 hf
      refine sv_iconst (v := 0) C dX3_drop_19 (by decide) ?_
      exact sv_zret (ty := .boolean) C (by decide) (by cases hf; exact hZ) dX3_drop_20
    · replace hf := sv_if_f c7 hf
      refine sv_aload_n 0 C dX3_drop_10 rfl rfl ?_
      obtain ⟨b11, hb11, hf⟩ := sv_bind_some hf
      have o_b11 : gh_is T b11 10 := gh_okr hT o_a0 rfl hb11
      refine gh_getr (d := 10) C fl_X3_21 o_a0 (by decide) (by decide) hb11 dX3_drop_11 ?_
      refine sv_iload_n 1 C dX3_drop_14 rfl rfl ?_
      obtain ⟨g15, hf⟩ := sv_g_some hf
      refine gh_iald C o_b11 g15 dX3_drop_15 ?_
      refine sv_if_ne (tgt := 21) C dX3_drop_16 (by decide) (fun c16 => ?_) (fun c16 => ?_)
      · replace hf := sv_if_f c16 hf
        refine sv_aload_n 0 C dX3_drop_21 rfl rfl ?_
        obtain ⟨b22, hb22, hf⟩ := sv_bind_some hf
        have o_b22 : gh_is T b22 10 := gh_okr hT o_a0 rfl hb22
        refine gh_getr (d := 10) C fl_X3_21 o_a0 (by decide) (by decide) hb22 dX3_drop_22 ?_
        refine sv_iload_n 1 C dX3_drop_25 rfl rfl ?_
        refine sv_iconst (v := 0) C dX3_drop_26 (by decide) ?_
        obtain ⟨g27, hf⟩ := sv_g_some hf
        refine gh_iast C o_b22 g27 dX3_drop_27 ?_
        refine sv_iconst (v := 1) C dX3_drop_28 (by decide) ?_
        exact sv_zret (ty := .boolean) C (by decide) (by cases hf; exact hZ) dX3_drop_29
      · replace hf := sv_if_t c16 hf
        refine sv_iconst (v := 0) C dX3_drop_19 (by decide) ?_
        exact sv_zret (ty := .boolean) C (by decide) (by cases hf; exact hZ) dX3_drop_20
def f_X3_awaits (T : gh_T) (V : gh_V) (a0 : Nat) (x1 : Int32) (x2 : Int32) (x3 : Int32) : Option (Int32 × gh_V) :=
  if x1 < 0 then
    some (0, V)
  else
    if 11 ≤ x1 then
      some (0, V)
    else
      (T.2.2.1 2 a0).bind (fun b11 =>
        sv_g (sv_inb x1 (T.2.2.2.1 b11)) (
          if (V.2 b11 x1.toNatClampNeg) ≤ 0 then
            some (0, V)
          else
            (T.2.2.1 1 a0).bind (fun b20 =>
              sv_g (sv_inb x1 (T.2.2.2.1 b20)) (
                if (V.2 b20 x1.toNatClampNeg) = x2 then
                  (T.2.2.1 2 a0).bind (fun b30 =>
                    sv_g (sv_inb x1 (T.2.2.2.1 b30)) (
                      if (V.2 b30 x1.toNatClampNeg) = (x3 - 1) then
                        some (1, V)
                      else
                        some (0, V)))
                else
                  some (0, V)))))
set_option maxHeartbeats 4000000 in
set_option maxRecDepth 100000 in
theorem m_X3_awaits (l : Launch) (E : sv_E) (T : gh_T) (sz : Nat) (V : gh_V) (a0 : Nat) (x1 : Int32) (x2 : Int32) (x3 : Int32) (q : Int32 × gh_V) (hf : f_X3_awaits T V a0 x1 x2 x3 = some q) (hT : gh_ok T) (o_a0 : gh_is T a0 3) : sv_Met l E yX3_awaits cX3_awaits 4 (some .boolean) 0 0 [] [.ref a0, .int x1, .int x2, .int x3] (gh_w E T V) sz (some (.int q.1)) (gh_w E T q.2) sz 0 0 := by
  refine sv_ofJ (by decide) (Nat.le_of_ble_eq_true rfl) ?_
  intro X hX hN hnm hR C hZ
  replace C : sv_C E X cX3_awaits RX3 [] := C
  show sv_J E X (gh_w E T V) sz 0 0 0 [(0, .ref a0), (1, .int x1), (2, .int x2), (3, .int x3)] []
  rw [f_X3_awaits] at hf
  refine sv_iload_n 1 C dX3_awaits_0 rfl rfl ?_
  refine sv_if_lt (tgt := 45) C dX3_awaits_1 (by decide) (fun c1 => ?_) (fun c1 => ?_)
  · replace hf := sv_if_t c1 hf
    refine sv_iconst (v := 0) C dX3_awaits_45 (by decide) ?_
    exact sv_zret (ty := .boolean) C (by decide) (by cases hf; exact hZ) dX3_awaits_46
  · replace hf := sv_if_f c1 hf
    refine sv_iload_n 1 C dX3_awaits_4 rfl rfl ?_
    refine sv_bipush (v := 11) C dX3_awaits_5 (by decide) ?_
    refine sv_icmp_ge (tgt := 45) C dX3_awaits_7 (by decide) (fun c7 => ?_) (fun c7 => ?_)
    · replace hf := sv_if_t c7 hf
      refine sv_iconst (v := 0) C dX3_awaits_45 (by decide) ?_
      exact sv_zret (ty := .boolean) C (by decide) (by cases hf; exact hZ) dX3_awaits_46
    · replace hf := sv_if_f c7 hf
      refine sv_aload_n 0 C dX3_awaits_10 rfl rfl ?_
      obtain ⟨b11, hb11, hf⟩ := sv_bind_some hf
      have o_b11 : gh_is T b11 10 := gh_okr hT o_a0 rfl hb11
      refine gh_getr (d := 10) C fl_X3_21 o_a0 (by decide) (by decide) hb11 dX3_awaits_11 ?_
      refine sv_iload_n 1 C dX3_awaits_14 rfl rfl ?_
      obtain ⟨g15, hf⟩ := sv_g_some hf
      refine gh_iald C o_b11 g15 dX3_awaits_15 ?_
      refine sv_if_le (tgt := 45) C dX3_awaits_16 (by decide) (fun c16 => ?_) (fun c16 => ?_)
      · replace hf := sv_if_t c16 hf
        refine sv_iconst (v := 0) C dX3_awaits_45 (by decide) ?_
        exact sv_zret (ty := .boolean) C (by decide) (by cases hf; exact hZ) dX3_awaits_46
      · replace hf := sv_if_f c16 hf
        refine sv_aload_n 0 C dX3_awaits_19 rfl rfl ?_
        obtain ⟨b20, hb20, hf⟩ := sv_bind_some hf
        have o_b20 : gh_is T b20 10 := gh_okr hT o_a0 rfl hb20
        refine gh_getr (d := 10) C fl_X3_17 o_a0 (by decide) (by decide) hb20 dX3_awaits_20 ?_
        refine sv_iload_n 1 C dX3_awaits_23 rfl rfl ?_
        obtain ⟨g24, hf⟩ := sv_g_some hf
        refine gh_iald C o_b20 g24 dX3_awaits_24 ?_
        refine sv_iload_n 2 C dX3_awaits_25 rfl rfl ?_
        refine sv_icmp_ne (tgt := 45) C dX3_awaits_26 (by decide) (fun c26 => ?_) (fun c26 => ?_)
        · replace hf := sv_if_f c26 hf
          refine sv_iconst (v := 0) C dX3_awaits_45 (by decide) ?_
          exact sv_zret (ty := .boolean) C (by decide) (by cases hf; exact hZ) dX3_awaits_46
        · replace hf := sv_if_t c26 hf
          refine sv_aload_n 0 C dX3_awaits_29 rfl rfl ?_
          obtain ⟨b30, hb30, hf⟩ := sv_bind_some hf
          have o_b30 : gh_is T b30 10 := gh_okr hT o_a0 rfl hb30
          refine gh_getr (d := 10) C fl_X3_21 o_a0 (by decide) (by decide) hb30 dX3_awaits_30 ?_
          refine sv_iload_n 1 C dX3_awaits_33 rfl rfl ?_
          obtain ⟨g34, hf⟩ := sv_g_some hf
          refine gh_iald C o_b30 g34 dX3_awaits_34 ?_
          refine sv_iload_n 3 C dX3_awaits_35 rfl rfl ?_
          refine sv_iconst (v := 1) C dX3_awaits_36 (by decide) ?_
          refine sv_isub C dX3_awaits_37 ?_
          refine sv_icmp_ne (tgt := 45) C dX3_awaits_38 (by decide) (fun c38 => ?_) (fun c38 => ?_)
          · replace hf := sv_if_f c38 hf
            refine sv_iconst (v := 0) C dX3_awaits_45 (by decide) ?_
            exact sv_zret (ty := .boolean) C (by decide) (by cases hf; exact hZ) dX3_awaits_46
          · replace hf := sv_if_t c38 hf
            refine sv_iconst (v := 1) C dX3_awaits_41 (by decide) ?_
            refine sv_goto (tgt := 46) C dX3_awaits_42 (by decide) ?_
            exact sv_zret (ty := .boolean) C (by decide) (by cases hf; exact hZ) dX3_awaits_46
def f_X4_forget (T : gh_T) (V : gh_V) (a0 : Nat) : Option (gh_V) :=
  (T.2.2.1 0 a0).bind (fun b1 =>
    (f_J7_fill_53178 T V b1 (-2147483648)).bind (fun q6 =>
      some (q6)))
set_option maxHeartbeats 4000000 in
set_option maxRecDepth 100000 in
theorem m_X4_forget (l : Launch) (E : sv_E) (T : gh_T) (sz : Nat) (V : gh_V) (a0 : Nat) (q : gh_V) (hf : f_X4_forget T V a0 = some q) (hT : gh_ok T) (o_a0 : gh_is T a0 4) : sv_Met l E yX4_forget cX4_forget 1 none 1 23 [] [.ref a0] (gh_w E T V) sz none (gh_w E T q) sz 0 0 := by
  refine sv_ofJ (by decide) (Nat.le_of_ble_eq_true rfl) ?_
  intro X hX hN hnm hR C hZ
  replace C : sv_C E X cX4_forget RX4 [] := C
  show sv_J E X (gh_w E T V) sz 0 0 0 [(0, .ref a0)] []
  rw [f_X4_forget] at hf
  refine sv_aload_n 0 C dX4_forget_0 rfl rfl ?_
  obtain ⟨b1, hb1, hf⟩ := sv_bind_some hf
  have o_b1 : gh_is T b1 10 := gh_okr hT o_a0 rfl hb1
  refine gh_getr (d := 10) C fl_X4_11 o_a0 (by decide) (by decide) hb1 dX4_forget_1 ?_
  refine sv_ldc C kw_242 dX4_forget_4 ?_
  obtain ⟨q6, hc6, hf⟩ := sv_bind_some hf
  refine sv_callS0 C ms_X4_19 (m_J7_fill_53178 (sv_l X) E T sz _ _ _ _ hc6 hT o_b1) sv_sx0 rfl rfl (Nat.le_of_ble_eq_true rfl) ⟨by rw [hR]; decide, by rw [hR]; decide⟩ ⟨by rw [hR]; decide, by rw [hR]; decide⟩ dX4_forget_6 ?_
  exact sv_vret C (by cases hf; exact hZ) dX4_forget_9
def f_X4_settle_2 (T : gh_T) (a0 : Nat) (j2 : Nat) : Nat → gh_V → Int32 → Int32 → Option (Int32 × gh_V)
  | 0, _, _, _ => none
  | n + 1, V, x1, x3 =>
    if x1 = 0 then
      sv_g (decide (vp_nar .boolean x1 = x1)) (
        some (x1, V))
    else
      (sv_sta[j2]?).bind (fun w8 =>
        if (Int32.ofNat w8.2.2.length) ≤ x3 then
          sv_g (decide (vp_nar .boolean x1 = x1)) (
            some (x1, V))
        else
          (T.2.2.1 0 a0).bind (fun b13 =>
            (sv_sta[j2]?).bind (fun w18 =>
              sv_g (sv_inb x3 w18.2.2.length) (
                (T.2.2.1 1 a0).bind (fun b20 =>
                  (sv_sta[j2]?).bind (fun w25 =>
                    sv_g (sv_inb x3 w25.2.2.length) (
                      sv_g (sv_inb (w25.2.2.getD x3.toNatClampNeg 0) (T.2.2.2.1 b20)) (
                        sv_g (sv_inb (w18.2.2.getD x3.toNatClampNeg 0) (T.2.2.2.1 b13)) (
                          (f_X4_settle_2 T a0 j2 n) (gh_pa V b13 (w18.2.2.getD x3.toNatClampNeg 0) (V.2 b20 (w25.2.2.getD x3.toNatClampNeg 0).toNatClampNeg)) x1 (x3 + 1))))))))))
def f_X4_settle (T : gh_T) (V : gh_V) (a0 : Nat) (x1 : Int32) (j2 : Nat) : Option (Int32 × gh_V) :=
  f_X4_settle_2 T a0 j2 sv_fu V x1 0
set_option maxHeartbeats 4000000 in
set_option maxRecDepth 100000 in
theorem w_X4_settle_2 {E : sv_E} {X : sv_X} {sz : Nat} {q : Int32 × gh_V} {T : gh_T} {a0 : Nat} {j2 : Nat} (C : sv_C E X cX4_settle RX4 []) (hZ : sv_Z E X (some .boolean) (some (.int q.1)) (gh_w E T q.2) sz 0 0) (hR : sv_R X = { frames := 0, cells := 0, slots := 0, locals := 0 }) (hN : sv_nL X = 4) (hT : gh_ok T) (o_a0 : gh_is T a0 4) : ∀ (n : Nat) (V : gh_V) (x1 : Int32) (x3 : Int32), f_X4_settle_2 T a0 j2 n V x1 x3 = some q → sv_J E X (gh_w E T V) sz 0 0 2 [(0, .ref a0), (1, .int x1), (2, .ref (E.2.2.2.2 j2)), (3, .int x3)] [] := by
  intro n
  induction n with
  | zero =>
    intro V x1 x3 hf
    rw [f_X4_settle_2] at hf
    cases hf
  | succ n ih =>
    intro V x1 x3 hf
    rw [f_X4_settle_2] at hf
    refine sv_iload_n 1 C dX4_settle_2 rfl rfl ?_
    refine sv_if_eq (tgt := 34) C dX4_settle_3 (by decide) (fun c3 => ?_) (fun c3 => ?_)
    · replace hf := sv_if_t c3 hf
      refine sv_iload_n 1 C dX4_settle_34 rfl rfl ?_
      obtain ⟨g35, hf⟩ := sv_g_some hf
      exact sv_zret (ty := .boolean) C (sv_nz (of_decide_eq_true g35)) (by cases hf; exact hZ) dX4_settle_35
    · replace hf := sv_if_f c3 hf
      refine sv_iload_n 3 C dX4_settle_6 rfl rfl ?_
      refine sv_aload_n 2 C dX4_settle_7 rfl rfl ?_
      obtain ⟨w8, hw8, hf⟩ := sv_bind_some hf
      refine gs_alen C hw8 dX4_settle_8 ?_
      refine sv_icmp_ge (tgt := 34) C dX4_settle_9 (by decide) (fun c9 => ?_) (fun c9 => ?_)
      · replace hf := sv_if_t c9 hf
        refine sv_iload_n 1 C dX4_settle_34 rfl rfl ?_
        obtain ⟨g35, hf⟩ := sv_g_some hf
        exact sv_zret (ty := .boolean) C (sv_nz (of_decide_eq_true g35)) (by cases hf; exact hZ) dX4_settle_35
      · replace hf := sv_if_f c9 hf
        refine sv_aload_n 0 C dX4_settle_12 rfl rfl ?_
        obtain ⟨b13, hb13, hf⟩ := sv_bind_some hf
        have o_b13 : gh_is T b13 10 := gh_okr hT o_a0 rfl hb13
        refine gh_getr (d := 10) C fl_X4_11 o_a0 (by decide) (by decide) hb13 dX4_settle_13 ?_
        refine sv_aload_n 2 C dX4_settle_16 rfl rfl ?_
        refine sv_iload_n 3 C dX4_settle_17 rfl rfl ?_
        obtain ⟨w18, hw18, hf⟩ := sv_bind_some hf
        obtain ⟨g18, hf⟩ := sv_g_some hf
        refine gs_iald C hw18 g18 dX4_settle_18 ?_
        refine sv_aload_n 0 C dX4_settle_19 rfl rfl ?_
        obtain ⟨b20, hb20, hf⟩ := sv_bind_some hf
        have o_b20 : gh_is T b20 10 := gh_okr hT o_a0 rfl hb20
        refine gh_getr (d := 10) C fl_X4_15 o_a0 (by decide) (by decide) hb20 dX4_settle_20 ?_
        refine sv_aload_n 2 C dX4_settle_23 rfl rfl ?_
        refine sv_iload_n 3 C dX4_settle_24 rfl rfl ?_
        obtain ⟨w25, hw25, hf⟩ := sv_bind_some hf
        obtain ⟨g25, hf⟩ := sv_g_some hf
        refine gs_iald C hw25 g25 dX4_settle_25 ?_
        obtain ⟨g26, hf⟩ := sv_g_some hf
        refine gh_iald C o_b20 g26 dX4_settle_26 ?_
        obtain ⟨g27, hf⟩ := sv_g_some hf
        refine gh_iast C o_b13 g27 dX4_settle_27 ?_
        refine sv_iinc (v := x3 + 1) (lv' := [(3, .int (x3 + 1)), (0, .ref a0), (1, .int x1), (2, .ref (E.2.2.2.2 j2))]) 3 C dX4_settle_28 rfl rfl (by rw [hN]; decide) rfl ?_
        refine sv_goto (tgt := 2) C dX4_settle_31 (by decide) ?_
        refine sv_sub (lv' := [(0, .ref a0), (1, .int x1), (2, .ref (E.2.2.2.2 j2)), (3, .int (x3 + 1))]) [1, 2, 3, 0] rfl ?_
        exact ih _ _ _ hf
set_option maxHeartbeats 4000000 in
set_option maxRecDepth 100000 in
theorem m_X4_settle (l : Launch) (E : sv_E) (T : gh_T) (sz : Nat) (V : gh_V) (a0 : Nat) (x1 : Int32) (j2 : Nat) (q : Int32 × gh_V) (hf : f_X4_settle T V a0 x1 j2 = some q) (hT : gh_ok T) (o_a0 : gh_is T a0 4) : sv_Met l E yX4_settle cX4_settle 4 (some .boolean) 0 0 [] [.ref a0, .int x1, .ref (E.2.2.2.2 j2)] (gh_w E T V) sz (some (.int q.1)) (gh_w E T q.2) sz 0 0 := by
  refine sv_ofJ (by decide) (Nat.le_of_ble_eq_true rfl) ?_
  intro X hX hN hnm hR C hZ
  replace C : sv_C E X cX4_settle RX4 [] := C
  show sv_J E X (gh_w E T V) sz 0 0 0 [(0, .ref a0), (1, .int x1), (2, .ref (E.2.2.2.2 j2))] []
  rw [f_X4_settle] at hf
  refine sv_iconst (v := 0) C dX4_settle_0 (by decide) ?_
  refine sv_istore_n (lv' := [(3, .int 0), (0, .ref a0), (1, .int x1), (2, .ref (E.2.2.2.2 j2))]) C dX4_settle_1 rfl (by rw [hN]; decide) rfl ?_
  refine sv_sub (lv' := [(0, .ref a0), (1, .int x1), (2, .ref (E.2.2.2.2 j2)), (3, .int 0)]) [1, 2, 3, 0] rfl ?_
  exact w_X4_settle_2 C hZ hR hN hT o_a0 sv_fu _ _ _ hf
def f_X4_takeGga (T : gh_T) (V : gh_V) (a0 : Nat) (a1 : Nat) : Option (Int32 × gh_V) :=
  if (V.1 2 a1) = 15 then
    (T.2.2.1 1 a0).bind (fun b12 =>
      (f_X1_time T V a1 1).bind (fun q18 =>
        sv_g (sv_inb (0 : Int32) (T.2.2.2.1 b12)) (
          (T.2.2.1 1 a0).bind (fun b23 =>
            (f_X1_latitude T (gh_pa q18.2 b12 0 q18.1) a1 2).bind (fun q29 =>
              sv_g (sv_inb (1 : Int32) (T.2.2.2.1 b23)) (
                (T.2.2.1 1 a0).bind (fun b34 =>
                  (f_X1_longitude T (gh_pa q29.2 b23 1 q29.1) a1 4).bind (fun q40 =>
                    sv_g (sv_inb (2 : Int32) (T.2.2.2.1 b34)) (
                      (T.2.2.1 1 a0).bind (fun b45 =>
                        (f_X1_digit T (gh_pa q40.2 b34 2 q40.1) a1 6 0 8).bind (fun q55 =>
                          sv_g (sv_inb (3 : Int32) (T.2.2.2.1 b45)) (
                            (T.2.2.1 1 a0).bind (fun b60 =>
                              (f_X1_whole T (gh_pa q55.2 b45 3 q55.1) a1 7 1 2).bind (fun q69 =>
                                sv_g (sv_inb (4 : Int32) (T.2.2.2.1 b60)) (
                                  (T.2.2.1 1 a0).bind (fun b74 =>
                                    (f_X1_decimal T (gh_pa q69.2 b60 4 q69.1) a1 8 2 2).bind (fun q83 =>
                                      sv_g (sv_inb (5 : Int32) (T.2.2.2.1 b74)) (
                                        (T.2.2.1 1 a0).bind (fun b88 =>
                                          (f_X1_signed T (gh_pa q83.2 b74 5 q83.1) a1 9 1 5).bind (fun q98 =>
                                            sv_g (sv_inb (6 : Int32) (T.2.2.2.1 b88)) (
                                              (f_X1_checkUnit T (gh_pa q98.2 b88 6 q98.1) a1 10 77).bind (fun q107 =>
                                                (T.2.2.1 1 a0).bind (fun b111 =>
                                                  (f_X1_signed T q107 a1 11 1 4).bind (fun q121 =>
                                                    sv_g (sv_inb (7 : Int32) (T.2.2.2.1 b111)) (
                                                      (f_X1_checkUnit T (gh_pa q121.2 b111 7 q121.1) a1 12 77).bind (fun q130 =>
                                                        (T.2.2.1 1 a0).bind (fun b134 =>
                                                          (f_X1_decimal T q130 a1 13 1 4).bind (fun q144 =>
                                                            sv_g (sv_inb (8 : Int32) (T.2.2.2.1 b134)) (
                                                              (T.2.2.1 1 a0).bind (fun b149 =>
                                                                (f_X1_whole T (gh_pa q144.2 b134 8 q144.1) a1 14 4 4).bind (fun q159 =>
                                                                  sv_g (sv_inb (9 : Int32) (T.2.2.2.1 b149)) (
                                                                    (f_X4_settle T (gh_pa q159.2 b149 9 q159.1) a0 ((gh_pa q159.2 b149 9 q159.1).1 3 a1) 0).bind (fun q171 =>
                                                                      sv_g (decide (vp_nar .boolean q171.1 = q171.1)) (
                                                                        some (q171.1, q171.2)))))))))))))))))))))))))))))))))))
  else
    some (0, V)
set_option maxHeartbeats 4000000 in
set_option maxRecDepth 100000 in
theorem m_X4_takeGga (l : Launch) (E : sv_E) (T : gh_T) (sz : Nat) (V : gh_V) (a0 : Nat) (a1 : Nat) (q : Int32 × gh_V) (hf : f_X4_takeGga T V a0 a1 = some q) (hT : gh_ok T) (o_a0 : gh_is T a0 4) (o_a1 : gh_is T a1 1) : sv_Met l E yX4_takeGga cX4_takeGga 2 (some .boolean) 4 101 [] [.ref a0, .ref a1] (gh_w E T V) sz (some (.int q.1)) (gh_w E T q.2) sz 0 0 := by
  refine sv_ofJ (by decide) (Nat.le_of_ble_eq_true rfl) ?_
  intro X hX hN hnm hR C hZ
  replace C : sv_C E X cX4_takeGga RX4 [] := C
  show sv_J E X (gh_w E T V) sz 0 0 0 [(0, .ref a0), (1, .ref a1)] []
  rw [f_X4_takeGga] at hf
  refine sv_aload_n 1 C dX4_takeGga_0 rfl rfl ?_
  refine gh_geti C fl_X4_25 o_a1 (by decide) (by decide) dX4_takeGga_1 ?_
  refine sv_bipush (v := 15) C dX4_takeGga_4 (by decide) ?_
  refine sv_icmp_eq (tgt := 11) C dX4_takeGga_6 (by decide) (fun c6 => ?_) (fun c6 => ?_)
  · replace hf := sv_if_t c6 hf
    refine sv_aload_n 0 C dX4_takeGga_11 rfl rfl ?_
    obtain ⟨b12, hb12, hf⟩ := sv_bind_some hf
    have o_b12 : gh_is T b12 10 := gh_okr hT o_a0 rfl hb12
    refine gh_getr (d := 10) C fl_X4_15 o_a0 (by decide) (by decide) hb12 dX4_takeGga_12 ?_
    refine sv_iconst (v := 0) C dX4_takeGga_15 (by decide) ?_
    refine sv_aload_n 1 C dX4_takeGga_16 rfl rfl ?_
    refine sv_iconst (v := 1) C dX4_takeGga_17 (by decide) ?_
    obtain ⟨q18, hc18, hf⟩ := sv_bind_some hf
    refine gh_callV0 C mv_X4_31 (m_X1_time (sv_l X) E T sz _ _ _ _ hc18 hT o_a1) sv_sx0 o_a1 (by decide) rfl rfl rfl (Nat.le_of_ble_eq_true rfl) ⟨by rw [hR]; decide, by rw [hR]; decide⟩ ⟨by rw [hR]; decide, by rw [hR]; decide⟩ dX4_takeGga_18 ?_
    obtain ⟨g21, hf⟩ := sv_g_some hf
    refine gh_iast C o_b12 g21 dX4_takeGga_21 ?_
    refine sv_aload_n 0 C dX4_takeGga_22 rfl rfl ?_
    obtain ⟨b23, hb23, hf⟩ := sv_bind_some hf
    have o_b23 : gh_is T b23 10 := gh_okr hT o_a0 rfl hb23
    refine gh_getr (d := 10) C fl_X4_15 o_a0 (by decide) (by decide) hb23 dX4_takeGga_23 ?_
    refine sv_iconst (v := 1) C dX4_takeGga_26 (by decide) ?_
    refine sv_aload_n 1 C dX4_takeGga_27 rfl rfl ?_
    refine sv_iconst (v := 2) C dX4_takeGga_28 (by decide) ?_
    obtain ⟨q29, hc29, hf⟩ := sv_bind_some hf
    refine gh_callV0 C mv_X4_35 (m_X1_latitude (sv_l X) E T sz _ _ _ _ hc29 hT o_a1) sv_sx0 o_a1 (by decide) rfl rfl rfl (Nat.le_of_ble_eq_true rfl) ⟨by rw [hR]; decide, by rw [hR]; decide⟩ ⟨by rw [hR]; decide, by rw [hR]; decide⟩ dX4_takeGga_29 ?_
    obtain ⟨g32, hf⟩ := sv_g_some hf
    refine gh_iast C o_b23 g32 dX4_takeGga_32 ?_
    refine sv_aload_n 0 C dX4_takeGga_33 rfl rfl ?_
    obtain ⟨b34, hb34, hf⟩ := sv_bind_some hf
    have o_b34 : gh_is T b34 10 := gh_okr hT o_a0 rfl hb34
    refine gh_getr (d := 10) C fl_X4_15 o_a0 (by decide) (by decide) hb34 dX4_takeGga_34 ?_
    refine sv_iconst (v := 2) C dX4_takeGga_37 (by decide) ?_
    refine sv_aload_n 1 C dX4_takeGga_38 rfl rfl ?_
    refine sv_iconst (v := 4) C dX4_takeGga_39 (by decide) ?_
    obtain ⟨q40, hc40, hf⟩ := sv_bind_some hf
    refine gh_callV0 C mv_X4_38 (m_X1_longitude (sv_l X) E T sz _ _ _ _ hc40 hT o_a1) sv_sx0 o_a1 (by decide) rfl rfl rfl (Nat.le_of_ble_eq_true rfl) ⟨by rw [hR]; decide, by rw [hR]; decide⟩ ⟨by rw [hR]; decide, by rw [hR]; decide⟩ dX4_takeGga_40 ?_
    obtain ⟨g43, hf⟩ := sv_g_some hf
    refine gh_iast C o_b34 g43 dX4_takeGga_43 ?_
    refine sv_aload_n 0 C dX4_takeGga_44 rfl rfl ?_
    obtain ⟨b45, hb45, hf⟩ := sv_bind_some hf
    have o_b45 : gh_is T b45 10 := gh_okr hT o_a0 rfl hb45
    refine gh_getr (d := 10) C fl_X4_15 o_a0 (by decide) (by decide) hb45 dX4_takeGga_45 ?_
    refine sv_iconst (v := 3) C dX4_takeGga_48 (by decide) ?_
    refine sv_aload_n 1 C dX4_takeGga_49 rfl rfl ?_
    refine sv_bipush (v := 6) C dX4_takeGga_50 (by decide) ?_
    refine sv_iconst (v := 0) C dX4_takeGga_52 (by decide) ?_
    refine sv_bipush (v := 8) C dX4_takeGga_53 (by decide) ?_
    obtain ⟨q55, hc55, hf⟩ := sv_bind_some hf
    refine gh_callV0 C mv_X4_41 (m_X1_digit (sv_l X) E T sz _ _ _ _ _ _ hc55 hT o_a1) sv_sx0 o_a1 (by decide) rfl rfl rfl (Nat.le_of_ble_eq_true rfl) ⟨by rw [hR]; decide, by rw [hR]; decide⟩ ⟨by rw [hR]; decide, by rw [hR]; decide⟩ dX4_takeGga_55 ?_
    obtain ⟨g58, hf⟩ := sv_g_some hf
    refine gh_iast C o_b45 g58 dX4_takeGga_58 ?_
    refine sv_aload_n 0 C dX4_takeGga_59 rfl rfl ?_
    obtain ⟨b60, hb60, hf⟩ := sv_bind_some hf
    have o_b60 : gh_is T b60 10 := gh_okr hT o_a0 rfl hb60
    refine gh_getr (d := 10) C fl_X4_15 o_a0 (by decide) (by decide) hb60 dX4_takeGga_60 ?_
    refine sv_iconst (v := 4) C dX4_takeGga_63 (by decide) ?_
    refine sv_aload_n 1 C dX4_takeGga_64 rfl rfl ?_
    refine sv_bipush (v := 7) C dX4_takeGga_65 (by decide) ?_
    refine sv_iconst (v := 1) C dX4_takeGga_67 (by decide) ?_
    refine sv_iconst (v := 2) C dX4_takeGga_68 (by decide) ?_
    obtain ⟨q69, hc69, hf⟩ := sv_bind_some hf
    refine gh_callV0 C mv_X4_45 (m_X1_whole (sv_l X) E T sz _ _ _ _ _ _ hc69 hT o_a1) sv_sx0 o_a1 (by decide) rfl rfl rfl (Nat.le_of_ble_eq_true rfl) ⟨by rw [hR]; decide, by rw [hR]; decide⟩ ⟨by rw [hR]; decide, by rw [hR]; decide⟩ dX4_takeGga_69 ?_
    obtain ⟨g72, hf⟩ := sv_g_some hf
    refine gh_iast C o_b60 g72 dX4_takeGga_72 ?_
    refine sv_aload_n 0 C dX4_takeGga_73 rfl rfl ?_
    obtain ⟨b74, hb74, hf⟩ := sv_bind_some hf
    have o_b74 : gh_is T b74 10 := gh_okr hT o_a0 rfl hb74
    refine gh_getr (d := 10) C fl_X4_15 o_a0 (by decide) (by decide) hb74 dX4_takeGga_74 ?_
    refine sv_iconst (v := 5) C dX4_takeGga_77 (by decide) ?_
    refine sv_aload_n 1 C dX4_takeGga_78 rfl rfl ?_
    refine sv_bipush (v := 8) C dX4_takeGga_79 (by decide) ?_
    refine sv_iconst (v := 2) C dX4_takeGga_81 (by decide) ?_
    refine sv_iconst (v := 2) C dX4_takeGga_82 (by decide) ?_
    obtain ⟨q83, hc83, hf⟩ := sv_bind_some hf
    refine gh_callV0 C mv_X4_48 (m_X1_decimal (sv_l X) E T sz _ _ _ _ _ _ hc83 hT o_a1) sv_sx0 o_a1 (by decide) rfl rfl rfl (Nat.le_of_ble_eq_true rfl) ⟨by rw [hR]; decide, by rw [hR]; decide⟩ ⟨by rw [hR]; decide, by rw [hR]; decide⟩ dX4_takeGga_83 ?_
    obtain ⟨g86, hf⟩ := sv_g_some hf
    refine gh_iast C o_b74 g86 dX4_takeGga_86 ?_
    refine sv_aload_n 0 C dX4_takeGga_87 rfl rfl ?_
    obtain ⟨b88, hb88, hf⟩ := sv_bind_some hf
    have o_b88 : gh_is T b88 10 := gh_okr hT o_a0 rfl hb88
    refine gh_getr (d := 10) C fl_X4_15 o_a0 (by decide) (by decide) hb88 dX4_takeGga_88 ?_
    refine sv_bipush (v := 6) C dX4_takeGga_91 (by decide) ?_
    refine sv_aload_n 1 C dX4_takeGga_93 rfl rfl ?_
    refine sv_bipush (v := 9) C dX4_takeGga_94 (by decide) ?_
    refine sv_iconst (v := 1) C dX4_takeGga_96 (by decide) ?_
    refine sv_iconst (v := 5) C dX4_takeGga_97 (by decide) ?_
    obtain ⟨q98, hc98, hf⟩ := sv_bind_some hf
    refine gh_callV0 C mv_X4_51 (m_X1_signed (sv_l X) E T sz _ _ _ _ _ _ hc98 hT o_a1) sv_sx0 o_a1 (by decide) rfl rfl rfl (Nat.le_of_ble_eq_true rfl) ⟨by rw [hR]; decide, by rw [hR]; decide⟩ ⟨by rw [hR]; decide, by rw [hR]; decide⟩ dX4_takeGga_98 ?_
    obtain ⟨g101, hf⟩ := sv_g_some hf
    refine gh_iast C o_b88 g101 dX4_takeGga_101 ?_
    refine sv_aload_n 1 C dX4_takeGga_102 rfl rfl ?_
    refine sv_bipush (v := 10) C dX4_takeGga_103 (by decide) ?_
    refine sv_bipush (v := 77) C dX4_takeGga_105 (by decide) ?_
    obtain ⟨q107, hc107, hf⟩ := sv_bind_some hf
    refine gh_callV0 C mv_X4_54 (m_X1_checkUnit (sv_l X) E T sz _ _ _ _ _ hc107 hT o_a1) sv_sx0 o_a1 (by decide) rfl rfl rfl (Nat.le_of_ble_eq_true rfl) ⟨by rw [hR]; decide, by rw [hR]; decide⟩ ⟨by rw [hR]; decide, by rw [hR]; decide⟩ dX4_takeGga_107 ?_
    refine sv_aload_n 0 C dX4_takeGga_110 rfl rfl ?_
    obtain ⟨b111, hb111, hf⟩ := sv_bind_some hf
    have o_b111 : gh_is T b111 10 := gh_okr hT o_a0 rfl hb111
    refine gh_getr (d := 10) C fl_X4_15 o_a0 (by decide) (by decide) hb111 dX4_takeGga_111 ?_
    refine sv_bipush (v := 7) C dX4_takeGga_114 (by decide) ?_
    refine sv_aload_n 1 C dX4_takeGga_116 rfl rfl ?_
    refine sv_bipush (v := 11) C dX4_takeGga_117 (by decide) ?_
    refine sv_iconst (v := 1) C dX4_takeGga_119 (by decide) ?_
    refine sv_iconst (v := 4) C dX4_takeGga_120 (by decide) ?_
    obtain ⟨q121, hc121, hf⟩ := sv_bind_some hf
    refine gh_callV0 C mv_X4_51 (m_X1_signed (sv_l X) E T sz _ _ _ _ _ _ hc121 hT o_a1) sv_sx0 o_a1 (by decide) rfl rfl rfl (Nat.le_of_ble_eq_true rfl) ⟨by rw [hR]; decide, by rw [hR]; decide⟩ ⟨by rw [hR]; decide, by rw [hR]; decide⟩ dX4_takeGga_121 ?_
    obtain ⟨g124, hf⟩ := sv_g_some hf
    refine gh_iast C o_b111 g124 dX4_takeGga_124 ?_
    refine sv_aload_n 1 C dX4_takeGga_125 rfl rfl ?_
    refine sv_bipush (v := 12) C dX4_takeGga_126 (by decide) ?_
    refine sv_bipush (v := 77) C dX4_takeGga_128 (by decide) ?_
    obtain ⟨q130, hc130, hf⟩ := sv_bind_some hf
    refine gh_callV0 C mv_X4_54 (m_X1_checkUnit (sv_l X) E T sz _ _ _ _ _ hc130 hT o_a1) sv_sx0 o_a1 (by decide) rfl rfl rfl (Nat.le_of_ble_eq_true rfl) ⟨by rw [hR]; decide, by rw [hR]; decide⟩ ⟨by rw [hR]; decide, by rw [hR]; decide⟩ dX4_takeGga_130 ?_
    refine sv_aload_n 0 C dX4_takeGga_133 rfl rfl ?_
    obtain ⟨b134, hb134, hf⟩ := sv_bind_some hf
    have o_b134 : gh_is T b134 10 := gh_okr hT o_a0 rfl hb134
    refine gh_getr (d := 10) C fl_X4_15 o_a0 (by decide) (by decide) hb134 dX4_takeGga_134 ?_
    refine sv_bipush (v := 8) C dX4_takeGga_137 (by decide) ?_
    refine sv_aload_n 1 C dX4_takeGga_139 rfl rfl ?_
    refine sv_bipush (v := 13) C dX4_takeGga_140 (by decide) ?_
    refine sv_iconst (v := 1) C dX4_takeGga_142 (by decide) ?_
    refine sv_iconst (v := 4) C dX4_takeGga_143 (by decide) ?_
    obtain ⟨q144, hc144, hf⟩ := sv_bind_some hf
    refine gh_callV0 C mv_X4_48 (m_X1_decimal (sv_l X) E T sz _ _ _ _ _ _ hc144 hT o_a1) sv_sx0 o_a1 (by decide) rfl rfl rfl (Nat.le_of_ble_eq_true rfl) ⟨by rw [hR]; decide, by rw [hR]; decide⟩ ⟨by rw [hR]; decide, by rw [hR]; decide⟩ dX4_takeGga_144 ?_
    obtain ⟨g147, hf⟩ := sv_g_some hf
    refine gh_iast C o_b134 g147 dX4_takeGga_147 ?_
    refine sv_aload_n 0 C dX4_takeGga_148 rfl rfl ?_
    obtain ⟨b149, hb149, hf⟩ := sv_bind_some hf
    have o_b149 : gh_is T b149 10 := gh_okr hT o_a0 rfl hb149
    refine gh_getr (d := 10) C fl_X4_15 o_a0 (by decide) (by decide) hb149 dX4_takeGga_149 ?_
    refine sv_bipush (v := 9) C dX4_takeGga_152 (by decide) ?_
    refine sv_aload_n 1 C dX4_takeGga_154 rfl rfl ?_
    refine sv_bipush (v := 14) C dX4_takeGga_155 (by decide) ?_
    refine sv_iconst (v := 4) C dX4_takeGga_157 (by decide) ?_
    refine sv_iconst (v := 4) C dX4_takeGga_158 (by decide) ?_
    obtain ⟨q159, hc159, hf⟩ := sv_bind_some hf
    refine gh_callV0 C mv_X4_45 (m_X1_whole (sv_l X) E T sz _ _ _ _ _ _ hc159 hT o_a1) sv_sx0 o_a1 (by decide) rfl rfl rfl (Nat.le_of_ble_eq_true rfl) ⟨by rw [hR]; decide, by rw [hR]; decide⟩ ⟨by rw [hR]; decide, by rw [hR]; decide⟩ dX4_takeGga_159 ?_
    obtain ⟨g162, hf⟩ := sv_g_some hf
    refine gh_iast C o_b149 g162 dX4_takeGga_162 ?_
    refine sv_aload_n 0 C dX4_takeGga_163 rfl rfl ?_
    refine sv_aload_n 1 C dX4_takeGga_164 rfl rfl ?_
    refine gh_geti C fl_X4_58 o_a1 (by decide) (by decide) dX4_takeGga_165 ?_
    refine gs_get (j := 0) C (by rfl) kw_246 dX4_takeGga_168 ?_
    obtain ⟨q171, hc171, hf⟩ := sv_bind_some hf
    refine gh_callV0 C mv_X4_65 (m_X4_settle (sv_l X) E T sz _ _ _ _ _ hc171 hT o_a0) sv_sx0 o_a0 (by decide) rfl rfl rfl (Nat.le_of_ble_eq_true rfl) ⟨by rw [hR]; decide, by rw [hR]; decide⟩ ⟨by rw [hR]; decide, by rw [hR]; decide⟩ dX4_takeGga_171 ?_
    obtain ⟨g174, hf⟩ := sv_g_some hf
    exact sv_zret (ty := .boolean) C (sv_nz (of_decide_eq_true g174)) (by cases hf; exact hZ) dX4_takeGga_174
  · replace hf := sv_if_f c6 hf
    refine sv_iconst (v := 0) C dX4_takeGga_9 (by decide) ?_
    exact sv_zret (ty := .boolean) C (by decide) (by cases hf; exact hZ) dX4_takeGga_10
def f_X4_takeRmc_62 (T : gh_T) (a0 : Nat) (a1 : Nat) (V : gh_V) (s0 : Int32) (s1 : Int32) (as2 : Nat) : Option (Int32 × gh_V) :=
  sv_g (sv_inb s1 (T.2.2.2.1 as2)) (
    (T.2.2.1 1 a0).bind (fun b64 =>
      (f_X1_latitude T (gh_pa V as2 s1 s0) a1 3).bind (fun q70 =>
        sv_g (sv_inb (1 : Int32) (T.2.2.2.1 b64)) (
          (T.2.2.1 1 a0).bind (fun b75 =>
            (f_X1_longitude T (gh_pa q70.2 b64 1 q70.1) a1 5).bind (fun q81 =>
              sv_g (sv_inb (2 : Int32) (T.2.2.2.1 b75)) (
                (T.2.2.1 1 a0).bind (fun b86 =>
                  (f_X1_decimal T (gh_pa q81.2 b75 2 q81.1) a1 7 2 4).bind (fun q96 =>
                    sv_g (sv_inb (11 : Int32) (T.2.2.2.1 b86)) (
                      (T.2.2.1 1 a0).bind (fun b101 =>
                        (f_X1_course T (gh_pa q96.2 b86 11 q96.1) a1 8).bind (fun q109 =>
                          sv_g (sv_inb (12 : Int32) (T.2.2.2.1 b101)) (
                            (T.2.2.1 1 a0).bind (fun b114 =>
                              (f_X1_date T (gh_pa q109.2 b101 12 q109.1) a1 9).bind (fun q122 =>
                                sv_g (sv_inb (13 : Int32) (T.2.2.2.1 b114)) (
                                  (T.2.2.1 1 a0).bind (fun b127 =>
                                    (f_X1_variation T (gh_pa q122.2 b114 13 q122.1) a1 10).bind (fun q135 =>
                                      sv_g (sv_inb (14 : Int32) (T.2.2.2.1 b127)) (
                                        (T.2.2.1 1 a0).bind (fun b140 =>
                                          (f_X1_oneOf T (gh_pa q135.2 b127 14 q135.1) a1 12 ([65, 68, 69, 77, 78, 83])).bind (fun q150 =>
                                            sv_g (sv_inb (17 : Int32) (T.2.2.2.1 b140)) (
                                              (f_X4_settle T (gh_pa q150.2 b140 17 q150.1) a0 ((gh_pa q150.2 b140 17 q150.1).1 3 a1) 1).bind (fun q162 =>
                                                sv_g (decide (vp_nar .boolean q162.1 = q162.1)) (
                                                  some (q162.1, q162.2)))))))))))))))))))))))))
def f_X4_takeRmc_18 (T : gh_T) (a0 : Nat) (a1 : Nat) (V : gh_V) : Option (Int32 × gh_V) :=
  (f_X1_isEmpty T V a1 2).bind (fun q20 =>
    if q20.1 = 0 then
      (T.2.2.1 1 a0).bind (fun b29 =>
        (f_X1_time T q20.2 a1 1).bind (fun q35 =>
          sv_g (sv_inb (0 : Int32) (T.2.2.2.1 b29)) (
            (T.2.2.1 1 a0).bind (fun b40 =>
              (f_X1_oneOf T (gh_pa q35.2 b29 0 q35.1) a1 2 ([65, 86])).bind (fun q49 =>
                if q49.1 = 65 then
                  f_X4_takeRmc_62 T a0 a1 q49.2 1 10 b40
                else
                  f_X4_takeRmc_62 T a0 a1 q49.2 0 10 b40)))))
    else
      some (0, q20.2))
def f_X4_takeRmc (T : gh_T) (V : gh_V) (a0 : Nat) (a1 : Nat) : Option (Int32 × gh_V) :=
  if (V.1 2 a1) = 12 then
    f_X4_takeRmc_18 T a0 a1 V
  else
    if (V.1 2 a1) = 13 then
      f_X4_takeRmc_18 T a0 a1 V
    else
      some (0, V)
set_option maxHeartbeats 4000000 in
set_option maxRecDepth 100000 in
theorem w_X4_takeRmc_62 {E : sv_E} {X : sv_X} {sz : Nat} {q : Int32 × gh_V} {T : gh_T} {a0 : Nat} {a1 : Nat} (C : sv_C E X cX4_takeRmc RX4 []) (hZ : sv_Z E X (some .boolean) (some (.int q.1)) (gh_w E T q.2) sz 0 0) (hR : sv_R X = { frames := 5, cells := 0, slots := 0, locals := 115 }) (hN : sv_nL X = 2) (hT : gh_ok T) (o_a0 : gh_is T a0 4) (o_a1 : gh_is T a1 1) (V : gh_V) (s0 : Int32) (s1 : Int32) (as2 : Nat) (o_as2 : gh_is T as2 10) (hf : f_X4_takeRmc_62 T a0 a1 V s0 s1 as2 = some q) : sv_J E X (gh_w E T V) sz 0 0 62 [(0, .ref a0), (1, .ref a1)] [.int s0, .int s1, .ref as2] := by
  rw [f_X4_takeRmc_62] at hf
  obtain ⟨g62, hf⟩ := sv_g_some hf
  refine gh_iast C o_as2 g62 dX4_takeRmc_62 ?_
  refine sv_aload_n 0 C dX4_takeRmc_63 rfl rfl ?_
  obtain ⟨b64, hb64, hf⟩ := sv_bind_some hf
  have o_b64 : gh_is T b64 10 := gh_okr hT o_a0 rfl hb64
  refine gh_getr (d := 10) C fl_X4_15 o_a0 (by decide) (by decide) hb64 dX4_takeRmc_64 ?_
  refine sv_iconst (v := 1) C dX4_takeRmc_67 (by decide) ?_
  refine sv_aload_n 1 C dX4_takeRmc_68 rfl rfl ?_
  refine sv_iconst (v := 3) C dX4_takeRmc_69 (by decide) ?_
  obtain ⟨q70, hc70, hf⟩ := sv_bind_some hf
  refine gh_callV0 C mv_X4_35 (m_X1_latitude (sv_l X) E T sz _ _ _ _ hc70 hT o_a1) sv_sx0 o_a1 (by decide) rfl rfl rfl (Nat.le_of_ble_eq_true rfl) ⟨by rw [hR]; decide, by rw [hR]; decide⟩ ⟨by rw [hR]; decide, by rw [hR]; decide⟩ dX4_takeRmc_70 ?_
  obtain ⟨g73, hf⟩ := sv_g_some hf
  refine gh_iast C o_b64 g73 dX4_takeRmc_73 ?_
  refine sv_aload_n 0 C dX4_takeRmc_74 rfl rfl ?_
  obtain ⟨b75, hb75, hf⟩ := sv_bind_some hf
  have o_b75 : gh_is T b75 10 := gh_okr hT o_a0 rfl hb75
  refine gh_getr (d := 10) C fl_X4_15 o_a0 (by decide) (by decide) hb75 dX4_takeRmc_75 ?_
  refine sv_iconst (v := 2) C dX4_takeRmc_78 (by decide) ?_
  refine sv_aload_n 1 C dX4_takeRmc_79 rfl rfl ?_
  refine sv_iconst (v := 5) C dX4_takeRmc_80 (by decide) ?_
  obtain ⟨q81, hc81, hf⟩ := sv_bind_some hf
  refine gh_callV0 C mv_X4_38 (m_X1_longitude (sv_l X) E T sz _ _ _ _ hc81 hT o_a1) sv_sx0 o_a1 (by decide) rfl rfl rfl (Nat.le_of_ble_eq_true rfl) ⟨by rw [hR]; decide, by rw [hR]; decide⟩ ⟨by rw [hR]; decide, by rw [hR]; decide⟩ dX4_takeRmc_81 ?_
  obtain ⟨g84, hf⟩ := sv_g_some hf
  refine gh_iast C o_b75 g84 dX4_takeRmc_84 ?_
  refine sv_aload_n 0 C dX4_takeRmc_85 rfl rfl ?_
  obtain ⟨b86, hb86, hf⟩ := sv_bind_some hf
  have o_b86 : gh_is T b86 10 := gh_okr hT o_a0 rfl hb86
  refine gh_getr (d := 10) C fl_X4_15 o_a0 (by decide) (by decide) hb86 dX4_takeRmc_86 ?_
  refine sv_bipush (v := 11) C dX4_takeRmc_89 (by decide) ?_
  refine sv_aload_n 1 C dX4_takeRmc_91 rfl rfl ?_
  refine sv_bipush (v := 7) C dX4_takeRmc_92 (by decide) ?_
  refine sv_iconst (v := 2) C dX4_takeRmc_94 (by decide) ?_
  refine sv_iconst (v := 4) C dX4_takeRmc_95 (by decide) ?_
  obtain ⟨q96, hc96, hf⟩ := sv_bind_some hf
  refine gh_callV0 C mv_X4_48 (m_X1_decimal (sv_l X) E T sz _ _ _ _ _ _ hc96 hT o_a1) sv_sx0 o_a1 (by decide) rfl rfl rfl (Nat.le_of_ble_eq_true rfl) ⟨by rw [hR]; decide, by rw [hR]; decide⟩ ⟨by rw [hR]; decide, by rw [hR]; decide⟩ dX4_takeRmc_96 ?_
  obtain ⟨g99, hf⟩ := sv_g_some hf
  refine gh_iast C o_b86 g99 dX4_takeRmc_99 ?_
  refine sv_aload_n 0 C dX4_takeRmc_100 rfl rfl ?_
  obtain ⟨b101, hb101, hf⟩ := sv_bind_some hf
  have o_b101 : gh_is T b101 10 := gh_okr hT o_a0 rfl hb101
  refine gh_getr (d := 10) C fl_X4_15 o_a0 (by decide) (by decide) hb101 dX4_takeRmc_101 ?_
  refine sv_bipush (v := 12) C dX4_takeRmc_104 (by decide) ?_
  refine sv_aload_n 1 C dX4_takeRmc_106 rfl rfl ?_
  refine sv_bipush (v := 8) C dX4_takeRmc_107 (by decide) ?_
  obtain ⟨q109, hc109, hf⟩ := sv_bind_some hf
  refine gh_callV0 C mv_X4_79 (m_X1_course (sv_l X) E T sz _ _ _ _ hc109 hT o_a1) sv_sx0 o_a1 (by decide) rfl rfl rfl (Nat.le_of_ble_eq_true rfl) ⟨by rw [hR]; decide, by rw [hR]; decide⟩ ⟨by rw [hR]; decide, by rw [hR]; decide⟩ dX4_takeRmc_109 ?_
  obtain ⟨g112, hf⟩ := sv_g_some hf
  refine gh_iast C o_b101 g112 dX4_takeRmc_112 ?_
  refine sv_aload_n 0 C dX4_takeRmc_113 rfl rfl ?_
  obtain ⟨b114, hb114, hf⟩ := sv_bind_some hf
  have o_b114 : gh_is T b114 10 := gh_okr hT o_a0 rfl hb114
  refine gh_getr (d := 10) C fl_X4_15 o_a0 (by decide) (by decide) hb114 dX4_takeRmc_114 ?_
  refine sv_bipush (v := 13) C dX4_takeRmc_117 (by decide) ?_
  refine sv_aload_n 1 C dX4_takeRmc_119 rfl rfl ?_
  refine sv_bipush (v := 9) C dX4_takeRmc_120 (by decide) ?_
  obtain ⟨q122, hc122, hf⟩ := sv_bind_some hf
  refine gh_callV0 C mv_X4_82 (m_X1_date (sv_l X) E T sz _ _ _ _ hc122 hT o_a1) sv_sx0 o_a1 (by decide) rfl rfl rfl (Nat.le_of_ble_eq_true rfl) ⟨by rw [hR]; decide, by rw [hR]; decide⟩ ⟨by rw [hR]; decide, by rw [hR]; decide⟩ dX4_takeRmc_122 ?_
  obtain ⟨g125, hf⟩ := sv_g_some hf
  refine gh_iast C o_b114 g125 dX4_takeRmc_125 ?_
  refine sv_aload_n 0 C dX4_takeRmc_126 rfl rfl ?_
  obtain ⟨b127, hb127, hf⟩ := sv_bind_some hf
  have o_b127 : gh_is T b127 10 := gh_okr hT o_a0 rfl hb127
  refine gh_getr (d := 10) C fl_X4_15 o_a0 (by decide) (by decide) hb127 dX4_takeRmc_127 ?_
  refine sv_bipush (v := 14) C dX4_takeRmc_130 (by decide) ?_
  refine sv_aload_n 1 C dX4_takeRmc_132 rfl rfl ?_
  refine sv_bipush (v := 10) C dX4_takeRmc_133 (by decide) ?_
  obtain ⟨q135, hc135, hf⟩ := sv_bind_some hf
  refine gh_callV0 C mv_X4_85 (m_X1_variation (sv_l X) E T sz _ _ _ _ hc135 hT o_a1) sv_sx0 o_a1 (by decide) rfl rfl rfl (Nat.le_of_ble_eq_true rfl) ⟨by rw [hR]; decide, by rw [hR]; decide⟩ ⟨by rw [hR]; decide, by rw [hR]; decide⟩ dX4_takeRmc_135 ?_
  obtain ⟨g138, hf⟩ := sv_g_some hf
  refine gh_iast C o_b127 g138 dX4_takeRmc_138 ?_
  refine sv_aload_n 0 C dX4_takeRmc_139 rfl rfl ?_
  obtain ⟨b140, hb140, hf⟩ := sv_bind_some hf
  have o_b140 : gh_is T b140 10 := gh_okr hT o_a0 rfl hb140
  refine gh_getr (d := 10) C fl_X4_15 o_a0 (by decide) (by decide) hb140 dX4_takeRmc_140 ?_
  refine sv_bipush (v := 17) C dX4_takeRmc_143 (by decide) ?_
  refine sv_aload_n 1 C dX4_takeRmc_145 rfl rfl ?_
  refine sv_bipush (v := 12) C dX4_takeRmc_146 (by decide) ?_
  refine sv_ldcS (i := 18) C (by rfl) dX4_takeRmc_148 ?_
  obtain ⟨q150, hc150, hf⟩ := sv_bind_some hf
  refine gh_callV0 C mv_X4_75 (m_X1_oneOf (sv_l X) E T sz (E.2.2.1 18) (E.2.2.2.1 18) _ _ _ _ _ hc150 hT o_a1) (sv_sxi (i := 18) (by rfl)) o_a1 (by decide) rfl rfl rfl (Nat.le_of_ble_eq_true rfl) ⟨by rw [hR]; decide, by rw [hR]; decide⟩ ⟨by rw [hR]; decide, by rw [hR]; decide⟩ dX4_takeRmc_150 ?_
  obtain ⟨g153, hf⟩ := sv_g_some hf
  refine gh_iast C o_b140 g153 dX4_takeRmc_153 ?_
  refine sv_aload_n 0 C dX4_takeRmc_154 rfl rfl ?_
  refine sv_aload_n 1 C dX4_takeRmc_155 rfl rfl ?_
  refine gh_geti C fl_X4_58 o_a1 (by decide) (by decide) dX4_takeRmc_156 ?_
  refine gs_get (j := 1) C (by rfl) kw_278 dX4_takeRmc_159 ?_
  obtain ⟨q162, hc162, hf⟩ := sv_bind_some hf
  refine gh_callV0 C mv_X4_65 (m_X4_settle (sv_l X) E T sz _ _ _ _ _ hc162 hT o_a0) sv_sx0 o_a0 (by decide) rfl rfl rfl (Nat.le_of_ble_eq_true rfl) ⟨by rw [hR]; decide, by rw [hR]; decide⟩ ⟨by rw [hR]; decide, by rw [hR]; decide⟩ dX4_takeRmc_162 ?_
  obtain ⟨g165, hf⟩ := sv_g_some hf
  exact sv_zret (ty := .boolean) C (sv_nz (of_decide_eq_true g165)) (by cases hf; exact hZ) dX4_takeRmc_165
set_option maxHeartbeats 4000000 in
set_option maxRecDepth 100000 in
theorem w_X4_takeRmc_18 {E : sv_E} {X : sv_X} {sz : Nat} {q : Int32 × gh_V} {T : gh_T} {a0 : Nat} {a1 : Nat} (C : sv_C E X cX4_takeRmc RX4 []) (hZ : sv_Z E X (some .boolean) (some (.int q.1)) (gh_w E T q.2) sz 0 0) (hR : sv_R X = { frames := 5, cells := 0, slots := 0, locals := 115 }) (hN : sv_nL X = 2) (hT : gh_ok T) (o_a0 : gh_is T a0 4) (o_a1 : gh_is T a1 1) (V : gh_V) (hf : f_X4_takeRmc_18 T a0 a1 V = some q) : sv_J E X (gh_w E T V) sz 0 0 18 [(0, .ref a0), (1, .ref a1)] [] := by
  rw [f_X4_takeRmc_18] at hf
  refine sv_aload_n 1 C dX4_takeRmc_18 rfl rfl ?_
  refine sv_iconst (v := 2) C dX4_takeRmc_19 (by decide) ?_
  obtain ⟨q20, hc20, hf⟩ := sv_bind_some hf
  refine gh_callV0 C mv_X4_69 (m_X1_isEmpty (sv_l X) E T sz _ _ _ _ hc20 hT o_a1) sv_sx0 o_a1 (by decide) rfl rfl rfl (Nat.le_of_ble_eq_true rfl) ⟨by rw [hR]; decide, by rw [hR]; decide⟩ ⟨by rw [hR]; decide, by rw [hR]; decide⟩ dX4_takeRmc_20 ?_
  refine sv_if_eq (tgt := 28) C dX4_takeRmc_23 (by decide) (fun c23 => ?_) (fun c23 => ?_)
  · replace hf := sv_if_t c23 hf
    refine sv_aload_n 0 C dX4_takeRmc_28 rfl rfl ?_
    obtain ⟨b29, hb29, hf⟩ := sv_bind_some hf
    have o_b29 : gh_is T b29 10 := gh_okr hT o_a0 rfl hb29
    refine gh_getr (d := 10) C fl_X4_15 o_a0 (by decide) (by decide) hb29 dX4_takeRmc_29 ?_
    refine sv_iconst (v := 0) C dX4_takeRmc_32 (by decide) ?_
    refine sv_aload_n 1 C dX4_takeRmc_33 rfl rfl ?_
    refine sv_iconst (v := 1) C dX4_takeRmc_34 (by decide) ?_
    obtain ⟨q35, hc35, hf⟩ := sv_bind_some hf
    refine gh_callV0 C mv_X4_31 (m_X1_time (sv_l X) E T sz _ _ _ _ hc35 hT o_a1) sv_sx0 o_a1 (by decide) rfl rfl rfl (Nat.le_of_ble_eq_true rfl) ⟨by rw [hR]; decide, by rw [hR]; decide⟩ ⟨by rw [hR]; decide, by rw [hR]; decide⟩ dX4_takeRmc_35 ?_
    obtain ⟨g38, hf⟩ := sv_g_some hf
    refine gh_iast C o_b29 g38 dX4_takeRmc_38 ?_
    refine sv_aload_n 0 C dX4_takeRmc_39 rfl rfl ?_
    obtain ⟨b40, hb40, hf⟩ := sv_bind_some hf
    have o_b40 : gh_is T b40 10 := gh_okr hT o_a0 rfl hb40
    refine gh_getr (d := 10) C fl_X4_15 o_a0 (by decide) (by decide) hb40 dX4_takeRmc_40 ?_
    refine sv_bipush (v := 10) C dX4_takeRmc_43 (by decide) ?_
    refine sv_aload_n 1 C dX4_takeRmc_45 rfl rfl ?_
    refine sv_iconst (v := 2) C dX4_takeRmc_46 (by decide) ?_
    refine sv_ldcS (i := 17) C (by rfl) dX4_takeRmc_47 ?_
    obtain ⟨q49, hc49, hf⟩ := sv_bind_some hf
    refine gh_callV0 C mv_X4_75 (m_X1_oneOf (sv_l X) E T sz (E.2.2.1 17) (E.2.2.2.1 17) _ _ _ _ _ hc49 hT o_a1) (sv_sxi (i := 17) (by rfl)) o_a1 (by decide) rfl rfl rfl (Nat.le_of_ble_eq_true rfl) ⟨by rw [hR]; decide, by rw [hR]; decide⟩ ⟨by rw [hR]; decide, by rw [hR]; decide⟩ dX4_takeRmc_49 ?_
    refine sv_bipush (v := 65) C dX4_takeRmc_52 (by decide) ?_
    refine sv_icmp_ne (tgt := 61) C dX4_takeRmc_54 (by decide) (fun c54 => ?_) (fun c54 => ?_)
    · replace hf := sv_if_f c54 hf
      refine sv_iconst (v := 0) C dX4_takeRmc_61 (by decide) ?_
      refine sv_sub (lv' := [(0, .ref a0), (1, .ref a1)]) [0, 1] rfl ?_
      exact w_X4_takeRmc_62 C hZ hR hN hT o_a0 o_a1 _ _ _ _ o_b40 hf
    · replace hf := sv_if_t c54 hf
      refine sv_iconst (v := 1) C dX4_takeRmc_57 (by decide) ?_
      refine sv_goto (tgt := 62) C dX4_takeRmc_58 (by decide) ?_
      refine sv_sub (lv' := [(0, .ref a0), (1, .ref a1)]) [0, 1] rfl ?_
      exact w_X4_takeRmc_62 C hZ hR hN hT o_a0 o_a1 _ _ _ _ o_b40 hf
  · replace hf := sv_if_f c23 hf
    refine sv_iconst (v := 0) C dX4_takeRmc_26 (by decide) ?_
    exact sv_zret (ty := .boolean) C (by decide) (by cases hf; exact hZ) dX4_takeRmc_27
set_option maxHeartbeats 4000000 in
set_option maxRecDepth 100000 in
theorem m_X4_takeRmc (l : Launch) (E : sv_E) (T : gh_T) (sz : Nat) (V : gh_V) (a0 : Nat) (a1 : Nat) (q : Int32 × gh_V) (hf : f_X4_takeRmc T V a0 a1 = some q) (hT : gh_ok T) (o_a0 : gh_is T a0 4) (o_a1 : gh_is T a1 1) : sv_Met l E yX4_takeRmc cX4_takeRmc 2 (some .boolean) 5 115 [] [.ref a0, .ref a1] (gh_w E T V) sz (some (.int q.1)) (gh_w E T q.2) sz 0 0 := by
  refine sv_ofJ (by decide) (Nat.le_of_ble_eq_true rfl) ?_
  intro X hX hN hnm hR C hZ
  replace C : sv_C E X cX4_takeRmc RX4 [] := C
  show sv_J E X (gh_w E T V) sz 0 0 0 [(0, .ref a0), (1, .ref a1)] []
  rw [f_X4_takeRmc] at hf
  refine sv_aload_n 1 C dX4_takeRmc_0 rfl rfl ?_
  refine gh_geti C fl_X4_25 o_a1 (by decide) (by decide) dX4_takeRmc_1 ?_
  refine sv_bipush (v := 12) C dX4_takeRmc_4 (by decide) ?_
  refine sv_icmp_eq (tgt := 18) C dX4_takeRmc_6 (by decide) (fun c6 => ?_) (fun c6 => ?_)
  · replace hf := sv_if_t c6 hf
    refine sv_sub (lv' := [(0, .ref a0), (1, .ref a1)]) [0, 1] rfl ?_
    exact w_X4_takeRmc_18 C hZ hR hN hT o_a0 o_a1 _ hf
  · replace hf := sv_if_f c6 hf
    refine sv_aload_n 1 C dX4_takeRmc_9 rfl rfl ?_
    refine gh_geti C fl_X4_25 o_a1 (by decide) (by decide) dX4_takeRmc_10 ?_
    refine sv_bipush (v := 13) C dX4_takeRmc_13 (by decide) ?_
    refine sv_icmp_ne (tgt := 26) C dX4_takeRmc_15 (by decide) (fun c15 => ?_) (fun c15 => ?_)
    · replace hf := sv_if_f c15 hf
      refine sv_iconst (v := 0) C dX4_takeRmc_26 (by decide) ?_
      exact sv_zret (ty := .boolean) C (by decide) (by cases hf; exact hZ) dX4_takeRmc_27
    · replace hf := sv_if_t c15 hf
      refine sv_sub (lv' := [(0, .ref a0), (1, .ref a1)]) [0, 1] rfl ?_
      exact w_X4_takeRmc_18 C hZ hR hN hT o_a0 o_a1 _ hf
def f_X4_takeVtg_20 (T : gh_T) (a0 : Nat) (a1 : Nat) (V : gh_V) : Option (Int32 × gh_V) :=
  (T.2.2.1 1 a0).bind (fun b21 =>
    (f_X1_course T V a1 1).bind (fun q28 =>
      sv_g (sv_inb (12 : Int32) (T.2.2.2.1 b21)) (
        (f_X1_checkUnit T (gh_pa q28.2 b21 12 q28.1) a1 2 84).bind (fun q36 =>
          (T.2.2.1 1 a0).bind (fun b40 =>
            (f_X1_course T q36 a1 3).bind (fun q47 =>
              sv_g (sv_inb (15 : Int32) (T.2.2.2.1 b40)) (
                (f_X1_checkUnit T (gh_pa q47.2 b40 15 q47.1) a1 4 77).bind (fun q55 =>
                  (T.2.2.1 1 a0).bind (fun b59 =>
                    (f_X1_decimal T q55 a1 5 2 4).bind (fun q68 =>
                      sv_g (sv_inb (11 : Int32) (T.2.2.2.1 b59)) (
                        (f_X1_checkUnit T (gh_pa q68.2 b59 11 q68.1) a1 6 78).bind (fun q77 =>
                          (T.2.2.1 1 a0).bind (fun b81 =>
                            (f_X1_decimal T q77 a1 7 2 4).bind (fun q91 =>
                              sv_g (sv_inb (16 : Int32) (T.2.2.2.1 b81)) (
                                (f_X1_checkUnit T (gh_pa q91.2 b81 16 q91.1) a1 8 75).bind (fun q100 =>
                                  (T.2.2.1 1 a0).bind (fun b104 =>
                                    (f_X1_oneOf T q100 a1 9 ([65, 68, 69, 77, 78, 83])).bind (fun q114 =>
                                      sv_g (sv_inb (17 : Int32) (T.2.2.2.1 b104)) (
                                        (f_X4_settle T (gh_pa q114.2 b104 17 q114.1) a0 ((gh_pa q114.2 b104 17 q114.1).1 3 a1) 2).bind (fun q126 =>
                                          sv_g (decide (vp_nar .boolean q126.1 = q126.1)) (
                                            some (q126.1, q126.2))))))))))))))))))))))
def f_X4_takeVtg (T : gh_T) (V : gh_V) (a0 : Nat) (a1 : Nat) : Option (Int32 × gh_V) :=
  if (V.1 2 a1) = 9 then
    f_X4_takeVtg_20 T a0 a1 V
  else
    if (V.1 2 a1) = 10 then
      f_X4_takeVtg_20 T a0 a1 V
    else
      some (0, V)
set_option maxHeartbeats 4000000 in
set_option maxRecDepth 100000 in
theorem w_X4_takeVtg_20 {E : sv_E} {X : sv_X} {sz : Nat} {q : Int32 × gh_V} {T : gh_T} {a0 : Nat} {a1 : Nat} (C : sv_C E X cX4_takeVtg RX4 []) (hZ : sv_Z E X (some .boolean) (some (.int q.1)) (gh_w E T q.2) sz 0 0) (hR : sv_R X = { frames := 5, cells := 0, slots := 0, locals := 115 }) (hN : sv_nL X = 2) (hT : gh_ok T) (o_a0 : gh_is T a0 4) (o_a1 : gh_is T a1 1) (V : gh_V) (hf : f_X4_takeVtg_20 T a0 a1 V = some q) : sv_J E X (gh_w E T V) sz 0 0 20 [(0, .ref a0), (1, .ref a1)] [] := by
  rw [f_X4_takeVtg_20] at hf
  refine sv_aload_n 0 C dX4_takeVtg_20 rfl rfl ?_
  obtain ⟨b21, hb21, hf⟩ := sv_bind_some hf
  have o_b21 : gh_is T b21 10 := gh_okr hT o_a0 rfl hb21
  refine gh_getr (d := 10) C fl_X4_15 o_a0 (by decide) (by decide) hb21 dX4_takeVtg_21 ?_
  refine sv_bipush (v := 12) C dX4_takeVtg_24 (by decide) ?_
  refine sv_aload_n 1 C dX4_takeVtg_26 rfl rfl ?_
  refine sv_iconst (v := 1) C dX4_takeVtg_27 (by decide) ?_
  obtain ⟨q28, hc28, hf⟩ := sv_bind_some hf
  refine gh_callV0 C mv_X4_79 (m_X1_course (sv_l X) E T sz _ _ _ _ hc28 hT o_a1) sv_sx0 o_a1 (by decide) rfl rfl rfl (Nat.le_of_ble_eq_true rfl) ⟨by rw [hR]; decide, by rw [hR]; decide⟩ ⟨by rw [hR]; decide, by rw [hR]; decide⟩ dX4_takeVtg_28 ?_
  obtain ⟨g31, hf⟩ := sv_g_some hf
  refine gh_iast C o_b21 g31 dX4_takeVtg_31 ?_
  refine sv_aload_n 1 C dX4_takeVtg_32 rfl rfl ?_
  refine sv_iconst (v := 2) C dX4_takeVtg_33 (by decide) ?_
  refine sv_bipush (v := 84) C dX4_takeVtg_34 (by decide) ?_
  obtain ⟨q36, hc36, hf⟩ := sv_bind_some hf
  refine gh_callV0 C mv_X4_54 (m_X1_checkUnit (sv_l X) E T sz _ _ _ _ _ hc36 hT o_a1) sv_sx0 o_a1 (by decide) rfl rfl rfl (Nat.le_of_ble_eq_true rfl) ⟨by rw [hR]; decide, by rw [hR]; decide⟩ ⟨by rw [hR]; decide, by rw [hR]; decide⟩ dX4_takeVtg_36 ?_
  refine sv_aload_n 0 C dX4_takeVtg_39 rfl rfl ?_
  obtain ⟨b40, hb40, hf⟩ := sv_bind_some hf
  have o_b40 : gh_is T b40 10 := gh_okr hT o_a0 rfl hb40
  refine gh_getr (d := 10) C fl_X4_15 o_a0 (by decide) (by decide) hb40 dX4_takeVtg_40 ?_
  refine sv_bipush (v := 15) C dX4_takeVtg_43 (by decide) ?_
  refine sv_aload_n 1 C dX4_takeVtg_45 rfl rfl ?_
  refine sv_iconst (v := 3) C dX4_takeVtg_46 (by decide) ?_
  obtain ⟨q47, hc47, hf⟩ := sv_bind_some hf
  refine gh_callV0 C mv_X4_79 (m_X1_course (sv_l X) E T sz _ _ _ _ hc47 hT o_a1) sv_sx0 o_a1 (by decide) rfl rfl rfl (Nat.le_of_ble_eq_true rfl) ⟨by rw [hR]; decide, by rw [hR]; decide⟩ ⟨by rw [hR]; decide, by rw [hR]; decide⟩ dX4_takeVtg_47 ?_
  obtain ⟨g50, hf⟩ := sv_g_some hf
  refine gh_iast C o_b40 g50 dX4_takeVtg_50 ?_
  refine sv_aload_n 1 C dX4_takeVtg_51 rfl rfl ?_
  refine sv_iconst (v := 4) C dX4_takeVtg_52 (by decide) ?_
  refine sv_bipush (v := 77) C dX4_takeVtg_53 (by decide) ?_
  obtain ⟨q55, hc55, hf⟩ := sv_bind_some hf
  refine gh_callV0 C mv_X4_54 (m_X1_checkUnit (sv_l X) E T sz _ _ _ _ _ hc55 hT o_a1) sv_sx0 o_a1 (by decide) rfl rfl rfl (Nat.le_of_ble_eq_true rfl) ⟨by rw [hR]; decide, by rw [hR]; decide⟩ ⟨by rw [hR]; decide, by rw [hR]; decide⟩ dX4_takeVtg_55 ?_
  refine sv_aload_n 0 C dX4_takeVtg_58 rfl rfl ?_
  obtain ⟨b59, hb59, hf⟩ := sv_bind_some hf
  have o_b59 : gh_is T b59 10 := gh_okr hT o_a0 rfl hb59
  refine gh_getr (d := 10) C fl_X4_15 o_a0 (by decide) (by decide) hb59 dX4_takeVtg_59 ?_
  refine sv_bipush (v := 11) C dX4_takeVtg_62 (by decide) ?_
  refine sv_aload_n 1 C dX4_takeVtg_64 rfl rfl ?_
  refine sv_iconst (v := 5) C dX4_takeVtg_65 (by decide) ?_
  refine sv_iconst (v := 2) C dX4_takeVtg_66 (by decide) ?_
  refine sv_iconst (v := 4) C dX4_takeVtg_67 (by decide) ?_
  obtain ⟨q68, hc68, hf⟩ := sv_bind_some hf
  refine gh_callV0 C mv_X4_48 (m_X1_decimal (sv_l X) E T sz _ _ _ _ _ _ hc68 hT o_a1) sv_sx0 o_a1 (by decide) rfl rfl rfl (Nat.le_of_ble_eq_true rfl) ⟨by rw [hR]; decide, by rw [hR]; decide⟩ ⟨by rw [hR]; decide, by rw [hR]; decide⟩ dX4_takeVtg_68 ?_
  obtain ⟨g71, hf⟩ := sv_g_some hf
  refine gh_iast C o_b59 g71 dX4_takeVtg_71 ?_
  refine sv_aload_n 1 C dX4_takeVtg_72 rfl rfl ?_
  refine sv_bipush (v := 6) C dX4_takeVtg_73 (by decide) ?_
  refine sv_bipush (v := 78) C dX4_takeVtg_75 (by decide) ?_
  obtain ⟨q77, hc77, hf⟩ := sv_bind_some hf
  refine gh_callV0 C mv_X4_54 (m_X1_checkUnit (sv_l X) E T sz _ _ _ _ _ hc77 hT o_a1) sv_sx0 o_a1 (by decide) rfl rfl rfl (Nat.le_of_ble_eq_true rfl) ⟨by rw [hR]; decide, by rw [hR]; decide⟩ ⟨by rw [hR]; decide, by rw [hR]; decide⟩ dX4_takeVtg_77 ?_
  refine sv_aload_n 0 C dX4_takeVtg_80 rfl rfl ?_
  obtain ⟨b81, hb81, hf⟩ := sv_bind_some hf
  have o_b81 : gh_is T b81 10 := gh_okr hT o_a0 rfl hb81
  refine gh_getr (d := 10) C fl_X4_15 o_a0 (by decide) (by decide) hb81 dX4_takeVtg_81 ?_
  refine sv_bipush (v := 16) C dX4_takeVtg_84 (by decide) ?_
  refine sv_aload_n 1 C dX4_takeVtg_86 rfl rfl ?_
  refine sv_bipush (v := 7) C dX4_takeVtg_87 (by decide) ?_
  refine sv_iconst (v := 2) C dX4_takeVtg_89 (by decide) ?_
  refine sv_iconst (v := 4) C dX4_takeVtg_90 (by decide) ?_
  obtain ⟨q91, hc91, hf⟩ := sv_bind_some hf
  refine gh_callV0 C mv_X4_48 (m_X1_decimal (sv_l X) E T sz _ _ _ _ _ _ hc91 hT o_a1) sv_sx0 o_a1 (by decide) rfl rfl rfl (Nat.le_of_ble_eq_true rfl) ⟨by rw [hR]; decide, by rw [hR]; decide⟩ ⟨by rw [hR]; decide, by rw [hR]; decide⟩ dX4_takeVtg_91 ?_
  obtain ⟨g94, hf⟩ := sv_g_some hf
  refine gh_iast C o_b81 g94 dX4_takeVtg_94 ?_
  refine sv_aload_n 1 C dX4_takeVtg_95 rfl rfl ?_
  refine sv_bipush (v := 8) C dX4_takeVtg_96 (by decide) ?_
  refine sv_bipush (v := 75) C dX4_takeVtg_98 (by decide) ?_
  obtain ⟨q100, hc100, hf⟩ := sv_bind_some hf
  refine gh_callV0 C mv_X4_54 (m_X1_checkUnit (sv_l X) E T sz _ _ _ _ _ hc100 hT o_a1) sv_sx0 o_a1 (by decide) rfl rfl rfl (Nat.le_of_ble_eq_true rfl) ⟨by rw [hR]; decide, by rw [hR]; decide⟩ ⟨by rw [hR]; decide, by rw [hR]; decide⟩ dX4_takeVtg_100 ?_
  refine sv_aload_n 0 C dX4_takeVtg_103 rfl rfl ?_
  obtain ⟨b104, hb104, hf⟩ := sv_bind_some hf
  have o_b104 : gh_is T b104 10 := gh_okr hT o_a0 rfl hb104
  refine gh_getr (d := 10) C fl_X4_15 o_a0 (by decide) (by decide) hb104 dX4_takeVtg_104 ?_
  refine sv_bipush (v := 17) C dX4_takeVtg_107 (by decide) ?_
  refine sv_aload_n 1 C dX4_takeVtg_109 rfl rfl ?_
  refine sv_bipush (v := 9) C dX4_takeVtg_110 (by decide) ?_
  refine sv_ldcS (i := 18) C (by rfl) dX4_takeVtg_112 ?_
  obtain ⟨q114, hc114, hf⟩ := sv_bind_some hf
  refine gh_callV0 C mv_X4_75 (m_X1_oneOf (sv_l X) E T sz (E.2.2.1 18) (E.2.2.2.1 18) _ _ _ _ _ hc114 hT o_a1) (sv_sxi (i := 18) (by rfl)) o_a1 (by decide) rfl rfl rfl (Nat.le_of_ble_eq_true rfl) ⟨by rw [hR]; decide, by rw [hR]; decide⟩ ⟨by rw [hR]; decide, by rw [hR]; decide⟩ dX4_takeVtg_114 ?_
  obtain ⟨g117, hf⟩ := sv_g_some hf
  refine gh_iast C o_b104 g117 dX4_takeVtg_117 ?_
  refine sv_aload_n 0 C dX4_takeVtg_118 rfl rfl ?_
  refine sv_aload_n 1 C dX4_takeVtg_119 rfl rfl ?_
  refine gh_geti C fl_X4_58 o_a1 (by decide) (by decide) dX4_takeVtg_120 ?_
  refine gs_get (j := 2) C (by rfl) kw_296 dX4_takeVtg_123 ?_
  obtain ⟨q126, hc126, hf⟩ := sv_bind_some hf
  refine gh_callV0 C mv_X4_65 (m_X4_settle (sv_l X) E T sz _ _ _ _ _ hc126 hT o_a0) sv_sx0 o_a0 (by decide) rfl rfl rfl (Nat.le_of_ble_eq_true rfl) ⟨by rw [hR]; decide, by rw [hR]; decide⟩ ⟨by rw [hR]; decide, by rw [hR]; decide⟩ dX4_takeVtg_126 ?_
  obtain ⟨g129, hf⟩ := sv_g_some hf
  exact sv_zret (ty := .boolean) C (sv_nz (of_decide_eq_true g129)) (by cases hf; exact hZ) dX4_takeVtg_129
set_option maxHeartbeats 4000000 in
set_option maxRecDepth 100000 in
theorem m_X4_takeVtg (l : Launch) (E : sv_E) (T : gh_T) (sz : Nat) (V : gh_V) (a0 : Nat) (a1 : Nat) (q : Int32 × gh_V) (hf : f_X4_takeVtg T V a0 a1 = some q) (hT : gh_ok T) (o_a0 : gh_is T a0 4) (o_a1 : gh_is T a1 1) : sv_Met l E yX4_takeVtg cX4_takeVtg 2 (some .boolean) 5 115 [] [.ref a0, .ref a1] (gh_w E T V) sz (some (.int q.1)) (gh_w E T q.2) sz 0 0 := by
  refine sv_ofJ (by decide) (Nat.le_of_ble_eq_true rfl) ?_
  intro X hX hN hnm hR C hZ
  replace C : sv_C E X cX4_takeVtg RX4 [] := C
  show sv_J E X (gh_w E T V) sz 0 0 0 [(0, .ref a0), (1, .ref a1)] []
  rw [f_X4_takeVtg] at hf
  refine sv_aload_n 1 C dX4_takeVtg_0 rfl rfl ?_
  refine gh_geti C fl_X4_25 o_a1 (by decide) (by decide) dX4_takeVtg_1 ?_
  refine sv_bipush (v := 9) C dX4_takeVtg_4 (by decide) ?_
  refine sv_icmp_eq (tgt := 20) C dX4_takeVtg_6 (by decide) (fun c6 => ?_) (fun c6 => ?_)
  · replace hf := sv_if_t c6 hf
    refine sv_sub (lv' := [(0, .ref a0), (1, .ref a1)]) [0, 1] rfl ?_
    exact w_X4_takeVtg_20 C hZ hR hN hT o_a0 o_a1 _ hf
  · replace hf := sv_if_f c6 hf
    refine sv_aload_n 1 C dX4_takeVtg_9 rfl rfl ?_
    refine gh_geti C fl_X4_25 o_a1 (by decide) (by decide) dX4_takeVtg_10 ?_
    refine sv_bipush (v := 10) C dX4_takeVtg_13 (by decide) ?_
    refine sv_icmp_eq (tgt := 20) C dX4_takeVtg_15 (by decide) (fun c15 => ?_) (fun c15 => ?_)
    · replace hf := sv_if_t c15 hf
      refine sv_sub (lv' := [(0, .ref a0), (1, .ref a1)]) [0, 1] rfl ?_
      exact w_X4_takeVtg_20 C hZ hR hN hT o_a0 o_a1 _ hf
    · replace hf := sv_if_f c15 hf
      refine sv_iconst (v := 0) C dX4_takeVtg_18 (by decide) ?_
      exact sv_zret (ty := .boolean) C (by decide) (by cases hf; exact hZ) dX4_takeVtg_19
def f_X7_bitsOf (T : gh_T) (V : gh_V) (x0 : Int32) : Option (Int32 × gh_V) :=
  if x0 = 1 then
    some (168, V)
  else if x0 = 2 then
    some (168, V)
  else if x0 = 3 then
    some (168, V)
  else if x0 = 4 then
    some (168, V)
  else if x0 = 5 then
    some (424, V)
  else if x0 = 6 then
    some (0, V)
  else if x0 = 7 then
    some (0, V)
  else if x0 = 8 then
    some (0, V)
  else if x0 = 9 then
    some (0, V)
  else if x0 = 10 then
    some (0, V)
  else if x0 = 11 then
    some (0, V)
  else if x0 = 12 then
    some (0, V)
  else if x0 = 13 then
    some (0, V)
  else if x0 = 14 then
    some (0, V)
  else if x0 = 15 then
    some (0, V)
  else if x0 = 16 then
    some (0, V)
  else if x0 = 17 then
    some (0, V)
  else if x0 = 18 then
    some (168, V)
  else 
    some (0, V)
set_option maxHeartbeats 4000000 in
set_option maxRecDepth 100000 in
theorem m_X7_bitsOf (l : Launch) (E : sv_E) (T : gh_T) (sz : Nat) (V : gh_V) (x0 : Int32) (q : Int32 × gh_V) (hf : f_X7_bitsOf T V x0 = some q) (hT : gh_ok T) : sv_Met l E yX7_bitsOf cX7_bitsOf 1 (some .int) 0 0 [] [.int x0] (gh_w E T V) sz (some (.int q.1)) (gh_w E T q.2) sz 0 0 := by
  refine sv_ofJ (by decide) (Nat.le_of_ble_eq_true rfl) ?_
  intro X hX hN hnm hR C hZ
  replace C : sv_C E X cX7_bitsOf RX7 [] := C
  show sv_J E X (gh_w E T V) sz 0 0 0 [(0, .int x0)] []
  rw [f_X7_bitsOf] at hf
  refine sv_iload_n 0 C dX7_bitsOf_0 rfl rfl ?_
  by_cases c1_0 : x0 = 1
  · replace hf := sv_if_t c1_0 hf
    refine sv_tswI (v := 1) (tgt := 88) C dX7_bitsOf_1 c1_0 (by decide) (by decide) rfl (by decide) ?_
    refine sv_sipush (v := 168) C dX7_bitsOf_88 (by decide) ?_
    exact sv_iret C (by cases hf; exact hZ) dX7_bitsOf_91
  · replace hf := sv_if_f c1_0 hf
    by_cases c1_1 : x0 = 2
    · replace hf := sv_if_t c1_1 hf
      refine sv_tswI (v := 2) (tgt := 88) C dX7_bitsOf_1 c1_1 (by decide) (by decide) rfl (by decide) ?_
      refine sv_sipush (v := 168) C dX7_bitsOf_88 (by decide) ?_
      exact sv_iret C (by cases hf; exact hZ) dX7_bitsOf_91
    · replace hf := sv_if_f c1_1 hf
      by_cases c1_2 : x0 = 3
      · replace hf := sv_if_t c1_2 hf
        refine sv_tswI (v := 3) (tgt := 88) C dX7_bitsOf_1 c1_2 (by decide) (by decide) rfl (by decide) ?_
        refine sv_sipush (v := 168) C dX7_bitsOf_88 (by decide) ?_
        exact sv_iret C (by cases hf; exact hZ) dX7_bitsOf_91
      · replace hf := sv_if_f c1_2 hf
        by_cases c1_3 : x0 = 4
        · replace hf := sv_if_t c1_3 hf
          refine sv_tswI (v := 4) (tgt := 88) C dX7_bitsOf_1 c1_3 (by decide) (by decide) rfl (by decide) ?_
          refine sv_sipush (v := 168) C dX7_bitsOf_88 (by decide) ?_
          exact sv_iret C (by cases hf; exact hZ) dX7_bitsOf_91
        · replace hf := sv_if_f c1_3 hf
          by_cases c1_4 : x0 = 5
          · replace hf := sv_if_t c1_4 hf
            refine sv_tswI (v := 5) (tgt := 92) C dX7_bitsOf_1 c1_4 (by decide) (by decide) rfl (by decide) ?_
            refine sv_sipush (v := 424) C dX7_bitsOf_92 (by decide) ?_
            exact sv_iret C (by cases hf; exact hZ) dX7_bitsOf_95
          · replace hf := sv_if_f c1_4 hf
            by_cases c1_5 : x0 = 6
            · replace hf := sv_if_t c1_5 hf
              refine sv_tswI (v := 6) (tgt := 96) C dX7_bitsOf_1 c1_5 (by decide) (by decide) rfl (by decide) ?_
              refine sv_iconst (v := 0) C dX7_bitsOf_96 (by decide) ?_
              exact sv_iret C (by cases hf; exact hZ) dX7_bitsOf_97
            · replace hf := sv_if_f c1_5 hf
              by_cases c1_6 : x0 = 7
              · replace hf := sv_if_t c1_6 hf
                refine sv_tswI (v := 7) (tgt := 96) C dX7_bitsOf_1 c1_6 (by decide) (by decide) rfl (by decide) ?_
                refine sv_iconst (v := 0) C dX7_bitsOf_96 (by decide) ?_
                exact sv_iret C (by cases hf; exact hZ) dX7_bitsOf_97
              · replace hf := sv_if_f c1_6 hf
                by_cases c1_7 : x0 = 8
                · replace hf := sv_if_t c1_7 hf
                  refine sv_tswI (v := 8) (tgt := 96) C dX7_bitsOf_1 c1_7 (by decide) (by decide) rfl (by decide) ?_
                  refine sv_iconst (v := 0) C dX7_bitsOf_96 (by decide) ?_
                  exact sv_iret C (by cases hf; exact hZ) dX7_bitsOf_97
                · replace hf := sv_if_f c1_7 hf
                  by_cases c1_8 : x0 = 9
                  · replace hf := sv_if_t c1_8 hf
                    refine sv_tswI (v := 9) (tgt := 96) C dX7_bitsOf_1 c1_8 (by decide) (by decide) rfl (by decide) ?_
                    refine sv_iconst (v := 0) C dX7_bitsOf_96 (by decide) ?_
                    exact sv_iret C (by cases hf; exact hZ) dX7_bitsOf_97
                  · replace hf := sv_if_f c1_8 hf
                    by_cases c1_9 : x0 = 10
                    · replace hf := sv_if_t c1_9 hf
                      refine sv_tswI (v := 10) (tgt := 96) C dX7_bitsOf_1 c1_9 (by decide) (by decide) rfl (by decide) ?_
                      refine sv_iconst (v := 0) C dX7_bitsOf_96 (by decide) ?_
                      exact sv_iret C (by cases hf; exact hZ) dX7_bitsOf_97
                    · replace hf := sv_if_f c1_9 hf
                      by_cases c1_10 : x0 = 11
                      · replace hf := sv_if_t c1_10 hf
                        refine sv_tswI (v := 11) (tgt := 96) C dX7_bitsOf_1 c1_10 (by decide) (by decide) rfl (by decide) ?_
                        refine sv_iconst (v := 0) C dX7_bitsOf_96 (by decide) ?_
                        exact sv_iret C (by cases hf; exact hZ) dX7_bitsOf_97
                      · replace hf := sv_if_f c1_10 hf
                        by_cases c1_11 : x0 = 12
                        · replace hf := sv_if_t c1_11 hf
                          refine sv_tswI (v := 12) (tgt := 96) C dX7_bitsOf_1 c1_11 (by decide) (by decide) rfl (by decide) ?_
                          refine sv_iconst (v := 0) C dX7_bitsOf_96 (by decide) ?_
                          exact sv_iret C (by cases hf; exact hZ) dX7_bitsOf_97
                        · replace hf := sv_if_f c1_11 hf
                          by_cases c1_12 : x0 = 13
                          · replace hf := sv_if_t c1_12 hf
                            refine sv_tswI (v := 13) (tgt := 96) C dX7_bitsOf_1 c1_12 (by decide) (by decide) rfl (by decide) ?_
                            refine sv_iconst (v := 0) C dX7_bitsOf_96 (by decide) ?_
                            exact sv_iret C (by cases hf; exact hZ) dX7_bitsOf_97
                          · replace hf := sv_if_f c1_12 hf
                            by_cases c1_13 : x0 = 14
                            · replace hf := sv_if_t c1_13 hf
                              refine sv_tswI (v := 14) (tgt := 96) C dX7_bitsOf_1 c1_13 (by decide) (by decide) rfl (by decide) ?_
                              refine sv_iconst (v := 0) C dX7_bitsOf_96 (by decide) ?_
                              exact sv_iret C (by cases hf; exact hZ) dX7_bitsOf_97
                            · replace hf := sv_if_f c1_13 hf
                              by_cases c1_14 : x0 = 15
                              · replace hf := sv_if_t c1_14 hf
                                refine sv_tswI (v := 15) (tgt := 96) C dX7_bitsOf_1 c1_14 (by decide) (by decide) rfl (by decide) ?_
                                refine sv_iconst (v := 0) C dX7_bitsOf_96 (by decide) ?_
                                exact sv_iret C (by cases hf; exact hZ) dX7_bitsOf_97
                              · replace hf := sv_if_f c1_14 hf
                                by_cases c1_15 : x0 = 16
                                · replace hf := sv_if_t c1_15 hf
                                  refine sv_tswI (v := 16) (tgt := 96) C dX7_bitsOf_1 c1_15 (by decide) (by decide) rfl (by decide) ?_
                                  refine sv_iconst (v := 0) C dX7_bitsOf_96 (by decide) ?_
                                  exact sv_iret C (by cases hf; exact hZ) dX7_bitsOf_97
                                · replace hf := sv_if_f c1_15 hf
                                  by_cases c1_16 : x0 = 17
                                  · replace hf := sv_if_t c1_16 hf
                                    refine sv_tswI (v := 17) (tgt := 96) C dX7_bitsOf_1 c1_16 (by decide) (by decide) rfl (by decide) ?_
                                    refine sv_iconst (v := 0) C dX7_bitsOf_96 (by decide) ?_
                                    exact sv_iret C (by cases hf; exact hZ) dX7_bitsOf_97
                                  · replace hf := sv_if_f c1_16 hf
                                    by_cases c1_17 : x0 = 18
                                    · replace hf := sv_if_t c1_17 hf
                                      refine sv_tswI (v := 18) (tgt := 88) C dX7_bitsOf_1 c1_17 (by decide) (by decide) rfl (by decide) ?_
                                      refine sv_sipush (v := 168) C dX7_bitsOf_88 (by decide) ?_
                                      exact sv_iret C (by cases hf; exact hZ) dX7_bitsOf_91
                                    · replace hf := sv_if_f c1_17 hf
                                      have n1_0 : x0.toInt ≠ 1 := fun e => c1_0 (Int32.toInt_inj.mp (e.trans (by decide)))
                                      have n1_1 : x0.toInt ≠ 2 := fun e => c1_1 (Int32.toInt_inj.mp (e.trans (by decide)))
                                      have n1_2 : x0.toInt ≠ 3 := fun e => c1_2 (Int32.toInt_inj.mp (e.trans (by decide)))
                                      have n1_3 : x0.toInt ≠ 4 := fun e => c1_3 (Int32.toInt_inj.mp (e.trans (by decide)))
                                      have n1_4 : x0.toInt ≠ 5 := fun e => c1_4 (Int32.toInt_inj.mp (e.trans (by decide)))
                                      have n1_5 : x0.toInt ≠ 6 := fun e => c1_5 (Int32.toInt_inj.mp (e.trans (by decide)))
                                      have n1_6 : x0.toInt ≠ 7 := fun e => c1_6 (Int32.toInt_inj.mp (e.trans (by decide)))
                                      have n1_7 : x0.toInt ≠ 8 := fun e => c1_7 (Int32.toInt_inj.mp (e.trans (by decide)))
                                      have n1_8 : x0.toInt ≠ 9 := fun e => c1_8 (Int32.toInt_inj.mp (e.trans (by decide)))
                                      have n1_9 : x0.toInt ≠ 10 := fun e => c1_9 (Int32.toInt_inj.mp (e.trans (by decide)))
                                      have n1_10 : x0.toInt ≠ 11 := fun e => c1_10 (Int32.toInt_inj.mp (e.trans (by decide)))
                                      have n1_11 : x0.toInt ≠ 12 := fun e => c1_11 (Int32.toInt_inj.mp (e.trans (by decide)))
                                      have n1_12 : x0.toInt ≠ 13 := fun e => c1_12 (Int32.toInt_inj.mp (e.trans (by decide)))
                                      have n1_13 : x0.toInt ≠ 14 := fun e => c1_13 (Int32.toInt_inj.mp (e.trans (by decide)))
                                      have n1_14 : x0.toInt ≠ 15 := fun e => c1_14 (Int32.toInt_inj.mp (e.trans (by decide)))
                                      have n1_15 : x0.toInt ≠ 16 := fun e => c1_15 (Int32.toInt_inj.mp (e.trans (by decide)))
                                      have n1_16 : x0.toInt ≠ 17 := fun e => c1_16 (Int32.toInt_inj.mp (e.trans (by decide)))
                                      have n1_17 : x0.toInt ≠ 18 := fun e => c1_17 (Int32.toInt_inj.mp (e.trans (by decide)))
                                      refine sv_tswO (tgt := 96) C dX7_bitsOf_1 (by omega) (by decide) ?_
                                      refine sv_iconst (v := 0) C dX7_bitsOf_96 (by decide) ?_
                                      exact sv_iret C (by cases hf; exact hZ) dX7_bitsOf_97
def f_X7_layoutOf (T : gh_T) (V : gh_V) (x0 : Int32) : Option (Nat × gh_V) :=
  if x0 = 4 then
    some (3, V)
  else if x0 = 5 then
    some (4, V)
  else if x0 = 18 then
    some (5, V)
  else 
    some (6, V)
set_option maxHeartbeats 4000000 in
set_option maxRecDepth 100000 in
theorem m_X7_layoutOf (l : Launch) (E : sv_E) (T : gh_T) (sz : Nat) (V : gh_V) (x0 : Int32) (q : Nat × gh_V) (hf : f_X7_layoutOf T V x0 = some q) (hT : gh_ok T) : sv_Met l E yX7_layoutOf cX7_layoutOf 1 (some (.array .int)) 0 0 [] [.int x0] (gh_w E T V) sz (some (.ref (E.2.2.2.2 q.1))) (gh_w E T q.2) sz 0 0 := by
  refine sv_ofJ (by decide) (Nat.le_of_ble_eq_true rfl) ?_
  intro X hX hN hnm hR C hZ
  replace C : sv_C E X cX7_layoutOf RX7 [] := C
  show sv_J E X (gh_w E T V) sz 0 0 0 [(0, .int x0)] []
  rw [f_X7_layoutOf] at hf
  refine sv_iload_n 0 C dX7_layoutOf_0 rfl rfl ?_
  by_cases c1_0 : x0 = 4
  · replace hf := sv_if_t c1_0 hf
    refine sv_lsw (tgt := 36) C dX7_layoutOf_1 (by decide) (by first | (rw [c1_0]; done) | (rw [c1_0]; rfl)) (by decide) ?_
    refine gs_get (j := 3) C (by rfl) kw_329 dX7_layoutOf_36 ?_
    exact sv_aret C (Or.inr ⟨_, rfl⟩) (Or.inr ⟨_, rfl⟩) (by cases hf; exact hZ) dX7_layoutOf_39
  · replace hf := sv_if_f c1_0 hf
    by_cases c1_1 : x0 = 5
    · replace hf := sv_if_t c1_1 hf
      refine sv_lsw (tgt := 40) C dX7_layoutOf_1 (by decide) (by first | (rw [c1_1]; done) | (rw [c1_1]; rfl)) (by decide) ?_
      refine gs_get (j := 4) C (by rfl) kw_330 dX7_layoutOf_40 ?_
      exact sv_aret C (Or.inr ⟨_, rfl⟩) (Or.inr ⟨_, rfl⟩) (by cases hf; exact hZ) dX7_layoutOf_43
    · replace hf := sv_if_f c1_1 hf
      by_cases c1_2 : x0 = 18
      · replace hf := sv_if_t c1_2 hf
        refine sv_lsw (tgt := 44) C dX7_layoutOf_1 (by decide) (by first | (rw [c1_2]; done) | (rw [c1_2]; rfl)) (by decide) ?_
        refine gs_get (j := 5) C (by rfl) kw_331 dX7_layoutOf_44 ?_
        exact sv_aret C (Or.inr ⟨_, rfl⟩) (Or.inr ⟨_, rfl⟩) (by cases hf; exact hZ) dX7_layoutOf_47
      · replace hf := sv_if_f c1_2 hf
        have n1_0 : x0.toInt ≠ 4 := fun e => c1_0 (Int32.toInt_inj.mp (e.trans (by decide)))
        have n1_1 : x0.toInt ≠ 5 := fun e => c1_1 (Int32.toInt_inj.mp (e.trans (by decide)))
        have n1_2 : x0.toInt ≠ 18 := fun e => c1_2 (Int32.toInt_inj.mp (e.trans (by decide)))
        refine sv_lsw (off := 47) (tgt := 48) C dX7_layoutOf_1 (by decide) (by simp [Op.lookupswitch.offset, n1_0, n1_1, n1_2, Ne.symm n1_0, Ne.symm n1_1, Ne.symm n1_2]) (by decide) ?_
        refine gs_get (j := 6) C (by rfl) kw_332 dX7_layoutOf_48 ?_
        exact sv_aret C (Or.inr ⟨_, rfl⟩) (Or.inr ⟨_, rfl⟩) (by cases hf; exact hZ) dX7_layoutOf_51
def f_X7_hasSign (T : gh_T) (V : gh_V) (x0 : Int32) : Option (Int32 × gh_V) :=
  if x0 = 3 then
    some (1, V)
  else
    if x0 = 6 then
      some (1, V)
    else
      if x0 = 7 then
        some (1, V)
      else
        some (0, V)
set_option maxHeartbeats 4000000 in
set_option maxRecDepth 100000 in
theorem m_X7_hasSign (l : Launch) (E : sv_E) (T : gh_T) (sz : Nat) (V : gh_V) (x0 : Int32) (q : Int32 × gh_V) (hf : f_X7_hasSign T V x0 = some q) (hT : gh_ok T) : sv_Met l E yX7_hasSign cX7_hasSign 1 (some .boolean) 0 0 [] [.int x0] (gh_w E T V) sz (some (.int q.1)) (gh_w E T q.2) sz 0 0 := by
  refine sv_ofJ (by decide) (Nat.le_of_ble_eq_true rfl) ?_
  intro X hX hN hnm hR C hZ
  replace C : sv_C E X cX7_hasSign RX7 [] := C
  show sv_J E X (gh_w E T V) sz 0 0 0 [(0, .int x0)] []
  rw [f_X7_hasSign] at hf
  refine sv_iload_n 0 C dX7_hasSign_0 rfl rfl ?_
  refine sv_iconst (v := 3) C dX7_hasSign_1 (by decide) ?_
  refine sv_icmp_eq (tgt := 17) C dX7_hasSign_2 (by decide) (fun c2 => ?_) (fun c2 => ?_)
  · replace hf := sv_if_t c2 hf
    refine sv_iconst (v := 1) C dX7_hasSign_17 (by decide) ?_
    refine sv_goto (tgt := 22) C dX7_hasSign_18 (by decide) ?_
    exact sv_zret (ty := .boolean) C (by decide) (by cases hf; exact hZ) dX7_hasSign_22
  · replace hf := sv_if_f c2 hf
    refine sv_iload_n 0 C dX7_hasSign_5 rfl rfl ?_
    refine sv_bipush (v := 6) C dX7_hasSign_6 (by decide) ?_
    refine sv_icmp_eq (tgt := 17) C dX7_hasSign_8 (by decide) (fun c8 => ?_) (fun c8 => ?_)
    · replace hf := sv_if_t c8 hf
      refine sv_iconst (v := 1) C dX7_hasSign_17 (by decide) ?_
      refine sv_goto (tgt := 22) C dX7_hasSign_18 (by decide) ?_
      exact sv_zret (ty := .boolean) C (by decide) (by cases hf; exact hZ) dX7_hasSign_22
    · replace hf := sv_if_f c8 hf
      refine sv_iload_n 0 C dX7_hasSign_11 rfl rfl ?_
      refine sv_bipush (v := 7) C dX7_hasSign_12 (by decide) ?_
      refine sv_icmp_ne (tgt := 21) C dX7_hasSign_14 (by decide) (fun c14 => ?_) (fun c14 => ?_)
      · replace hf := sv_if_f c14 hf
        refine sv_iconst (v := 0) C dX7_hasSign_21 (by decide) ?_
        exact sv_zret (ty := .boolean) C (by decide) (by cases hf; exact hZ) dX7_hasSign_22
      · replace hf := sv_if_t c14 hf
        refine sv_iconst (v := 1) C dX7_hasSign_17 (by decide) ?_
        refine sv_goto (tgt := 22) C dX7_hasSign_18 (by decide) ?_
        exact sv_zret (ty := .boolean) C (by decide) (by cases hf; exact hZ) dX7_hasSign_22
def f_X7_begin (T : gh_T) (V : gh_V) (a0 : Nat) (x1 : Int32) : Option (gh_V) :=
  (T.2.2.1 0 a0).bind (fun b1 =>
    (f_J7_fill_53178 T V b1 (-2147483648)).bind (fun q6 =>
      (T.2.2.1 1 a0).bind (fun b10 =>
        (f_J7_fill_53178 T q6 b10 0).bind (fun q14 =>
          (T.2.2.1 0 a0).bind (fun b18 =>
            sv_g (sv_inb (0 : Int32) (T.2.2.2.1 b18)) (
              (T.2.2.1 0 a0).bind (fun b25 =>
                sv_g (sv_inb (23 : Int32) (T.2.2.2.1 b25)) (
                  some (gh_pa (gh_pa q14 b18 0 x1) b25 23 0)))))))))
set_option maxHeartbeats 4000000 in
set_option maxRecDepth 100000 in
theorem m_X7_begin (l : Launch) (E : sv_E) (T : gh_T) (sz : Nat) (V : gh_V) (a0 : Nat) (x1 : Int32) (q : gh_V) (hf : f_X7_begin T V a0 x1 = some q) (hT : gh_ok T) (o_a0 : gh_is T a0 7) : sv_Met l E yX7_begin cX7_begin 2 none 1 23 [] [.ref a0, .int x1] (gh_w E T V) sz none (gh_w E T q) sz 0 0 := by
  refine sv_ofJ (by decide) (Nat.le_of_ble_eq_true rfl) ?_
  intro X hX hN hnm hR C hZ
  replace C : sv_C E X cX7_begin RX7 [] := C
  show sv_J E X (gh_w E T V) sz 0 0 0 [(0, .ref a0), (1, .int x1)] []
  rw [f_X7_begin] at hf
  refine sv_aload_n 0 C dX7_begin_0 rfl rfl ?_
  obtain ⟨b1, hb1, hf⟩ := sv_bind_some hf
  have o_b1 : gh_is T b1 10 := gh_okr hT o_a0 rfl hb1
  refine gh_getr (d := 10) C fl_X7_11 o_a0 (by decide) (by decide) hb1 dX7_begin_1 ?_
  refine sv_ldc C kw_210 dX7_begin_4 ?_
  obtain ⟨q6, hc6, hf⟩ := sv_bind_some hf
  refine sv_callS0 C ms_X7_35 (m_J7_fill_53178 (sv_l X) E T sz _ _ _ _ hc6 hT o_b1) sv_sx0 rfl rfl (Nat.le_of_ble_eq_true rfl) ⟨by rw [hR]; decide, by rw [hR]; decide⟩ ⟨by rw [hR]; decide, by rw [hR]; decide⟩ dX7_begin_6 ?_
  refine sv_aload_n 0 C dX7_begin_9 rfl rfl ?_
  obtain ⟨b10, hb10, hf⟩ := sv_bind_some hf
  have o_b10 : gh_is T b10 10 := gh_okr hT o_a0 rfl hb10
  refine gh_getr (d := 10) C fl_X7_15 o_a0 (by decide) (by decide) hb10 dX7_begin_10 ?_
  refine sv_iconst (v := 0) C dX7_begin_13 (by decide) ?_
  obtain ⟨q14, hc14, hf⟩ := sv_bind_some hf
  refine sv_callS0 C ms_X7_35 (m_J7_fill_53178 (sv_l X) E T sz _ _ _ _ hc14 hT o_b10) sv_sx0 rfl rfl (Nat.le_of_ble_eq_true rfl) ⟨by rw [hR]; decide, by rw [hR]; decide⟩ ⟨by rw [hR]; decide, by rw [hR]; decide⟩ dX7_begin_14 ?_
  refine sv_aload_n 0 C dX7_begin_17 rfl rfl ?_
  obtain ⟨b18, hb18, hf⟩ := sv_bind_some hf
  have o_b18 : gh_is T b18 10 := gh_okr hT o_a0 rfl hb18
  refine gh_getr (d := 10) C fl_X7_11 o_a0 (by decide) (by decide) hb18 dX7_begin_18 ?_
  refine sv_iconst (v := 0) C dX7_begin_21 (by decide) ?_
  refine sv_iload_n 1 C dX7_begin_22 rfl rfl ?_
  obtain ⟨g23, hf⟩ := sv_g_some hf
  refine gh_iast C o_b18 g23 dX7_begin_23 ?_
  refine sv_aload_n 0 C dX7_begin_24 rfl rfl ?_
  obtain ⟨b25, hb25, hf⟩ := sv_bind_some hf
  have o_b25 : gh_is T b25 10 := gh_okr hT o_a0 rfl hb25
  refine gh_getr (d := 10) C fl_X7_11 o_a0 (by decide) (by decide) hb25 dX7_begin_25 ?_
  refine sv_bipush (v := 23) C dX7_begin_28 (by decide) ?_
  refine sv_iconst (v := 0) C dX7_begin_30 (by decide) ?_
  obtain ⟨g31, hf⟩ := sv_g_some hf
  refine gh_iast C o_b25 g31 dX7_begin_31 ?_
  exact sv_vret C (by cases hf; exact hZ) dX7_begin_32
def f_X7_learnText_96 (T : gh_T) (a0 : Nat) (a2 : Nat) (k16 : gh_V → Int32 → Int32 → Int32 → Int32 → Int32 → Option (gh_V)) (V : gh_V) (x1 : Int32) (x3 : Int32) (x4 : Int32) (x5 : Int32) (x6 : Int32) : Option (gh_V) :=
  k16 V x1 x3 x4 x5 (x6 + 1)
def f_X7_learnText_81 (T : gh_T) (a0 : Nat) (a2 : Nat) (k16 : gh_V → Int32 → Int32 → Int32 → Int32 → Int32 → Option (gh_V)) (V : gh_V) (x1 : Int32) (x3 : Int32) (x4 : Int32) (x5 : Int32) (x6 : Int32) (x7 : Int32) (s0 : Int32) (s1 : Int32) (as2 : Nat) : Option (gh_V) :=
  sv_g (sv_inb s1 (T.2.2.2.1 as2)) (
    if x7 = 32 then
      f_X7_learnText_96 T a0 a2 k16 (gh_pa V as2 s1 (vp_nar .byte s0.toInt8.toInt32)) x1 x3 x4 x5 x6
    else
      f_X7_learnText_96 T a0 a2 k16 (gh_pa V as2 s1 (vp_nar .byte s0.toInt8.toInt32)) x1 x3 x4 (x6 + 1) x6)
def f_X7_learnText_102 (T : gh_T) (a0 : Nat) (a2 : Nat) (V : gh_V) (x1 : Int32) (x5 : Int32) : Option (gh_V) :=
  (T.2.2.1 1 a0).bind (fun b103 =>
    sv_g (sv_inb x1 (T.2.2.2.1 b103)) (
      some (gh_pa V b103 x1 x5)))
def f_X7_learnText_16 (T : gh_T) (a0 : Nat) (a2 : Nat) : Nat → gh_V → Int32 → Int32 → Int32 → Int32 → Int32 → Option (gh_V)
  | 0, _, _, _, _, _, _ => none
  | n + 1, V, x1, x3, x4, x5, x6 =>
    if x4 ≤ x6 then
      f_X7_learnText_102 T a0 a2 V x1 x5
    else
      if 20 ≤ x6 then
        f_X7_learnText_102 T a0 a2 V x1 x5
      else
        (f_X0_read T V a2 (x3 + (6 * x6)) 6).bind (fun q40 =>
          if q40.1 = 0 then
            f_X7_learnText_102 T a0 a2 q40.2 x1 x5
          else
            (T.2.2.1 2 a0).bind (fun b54 =>
              if 32 ≤ q40.1 then
                f_X7_learnText_81 T a0 a2 (f_X7_learnText_16 T a0 a2 n) q40.2 x1 x3 x4 x5 x6 q40.1 q40.1 ((x1 * 20) + x6) b54
              else
                f_X7_learnText_81 T a0 a2 (f_X7_learnText_16 T a0 a2 n) q40.2 x1 x3 x4 x5 x6 q40.1 (q40.1 + 64) ((x1 * 20) + x6) b54))
def f_X7_learnText (T : gh_T) (V : gh_V) (a0 : Nat) (x1 : Int32) (a2 : Nat) (x3 : Int32) (x4 : Int32) : Option (gh_V) :=
  if x1 < 0 then
    some (V)
  else
    if x1 < 3 then
      f_X7_learnText_16 T a0 a2 sv_fu V x1 x3 x4 0 0
    else
      some (V)
set_option maxHeartbeats 4000000 in
set_option maxRecDepth 100000 in
theorem w_X7_learnText_96 {E : sv_E} {X : sv_X} {sz : Nat} {q : gh_V} {T : gh_T} {a0 : Nat} {a2 : Nat} (C : sv_C E X cX7_learnText RX7 []) (hZ : sv_Z E X none none (gh_w E T q) sz 0 0) (hR : sv_R X = { frames := 1, cells := 0, slots := 0, locals := 25 }) (hN : sv_nL X = 8) (hT : gh_ok T) (o_a0 : gh_is T a0 7) (o_a2 : gh_is T a2 0) {k16 : gh_V → Int32 → Int32 → Int32 → Int32 → Int32 → Option (gh_V)} (hk16 : ∀ (V : gh_V) (x1 : Int32) (x3 : Int32) (x4 : Int32) (x5 : Int32) (x6 : Int32), k16 V x1 x3 x4 x5 x6 = some q → sv_J E X (gh_w E T V) sz 0 0 16 [(0, .ref a0), (1, .int x1), (2, .ref a2), (3, .int x3), (4, .int x4), (5, .int x5), (6, .int x6)] []) (V : gh_V) (x1 : Int32) (x3 : Int32) (x4 : Int32) (x5 : Int32) (x6 : Int32) (hf : f_X7_learnText_96 T a0 a2 k16 V x1 x3 x4 x5 x6 = some q) : sv_J E X (gh_w E T V) sz 0 0 96 [(0, .ref a0), (1, .int x1), (2, .ref a2), (3, .int x3), (4, .int x4), (5, .int x5), (6, .int x6)] [] := by
  rw [f_X7_learnText_96] at hf
  refine sv_iinc (v := x6 + 1) (lv' := [(6, .int (x6 + 1)), (0, .ref a0), (1, .int x1), (2, .ref a2), (3, .int x3), (4, .int x4), (5, .int x5)]) 6 C dX7_learnText_96 rfl rfl (by rw [hN]; decide) rfl ?_
  refine sv_goto (tgt := 16) C dX7_learnText_99 (by decide) ?_
  refine sv_sub (lv' := [(0, .ref a0), (1, .int x1), (2, .ref a2), (3, .int x3), (4, .int x4), (5, .int x5), (6, .int (x6 + 1))]) [1, 2, 3, 4, 5, 6, 0] rfl ?_
  exact hk16 _ _ _ _ _ _ hf
set_option maxHeartbeats 4000000 in
set_option maxRecDepth 100000 in
theorem w_X7_learnText_81 {E : sv_E} {X : sv_X} {sz : Nat} {q : gh_V} {T : gh_T} {a0 : Nat} {a2 : Nat} (C : sv_C E X cX7_learnText RX7 []) (hZ : sv_Z E X none none (gh_w E T q) sz 0 0) (hR : sv_R X = { frames := 1, cells := 0, slots := 0, locals := 25 }) (hN : sv_nL X = 8) (hT : gh_ok T) (o_a0 : gh_is T a0 7) (o_a2 : gh_is T a2 0) {k16 : gh_V → Int32 → Int32 → Int32 → Int32 → Int32 → Option (gh_V)} (hk16 : ∀ (V : gh_V) (x1 : Int32) (x3 : Int32) (x4 : Int32) (x5 : Int32) (x6 : Int32), k16 V x1 x3 x4 x5 x6 = some q → sv_J E X (gh_w E T V) sz 0 0 16 [(0, .ref a0), (1, .int x1), (2, .ref a2), (3, .int x3), (4, .int x4), (5, .int x5), (6, .int x6)] []) (V : gh_V) (x1 : Int32) (x3 : Int32) (x4 : Int32) (x5 : Int32) (x6 : Int32) (x7 : Int32) (s0 : Int32) (s1 : Int32) (as2 : Nat) (o_as2 : gh_is T as2 9) (hf : f_X7_learnText_81 T a0 a2 k16 V x1 x3 x4 x5 x6 x7 s0 s1 as2 = some q) : sv_J E X (gh_w E T V) sz 0 0 81 [(0, .ref a0), (1, .int x1), (2, .ref a2), (3, .int x3), (4, .int x4), (5, .int x5), (6, .int x6), (7, .int x7)] [.int s0, .int s1, .ref as2] := by
  rw [f_X7_learnText_81] at hf
  refine sv_i2b C dX7_learnText_81 ?_
  obtain ⟨g82, hf⟩ := sv_g_some hf
  refine gh_bast C o_as2 g82 dX7_learnText_82 ?_
  refine sv_iload 7 C dX7_learnText_83 rfl ?_
  refine sv_bipush (v := 32) C dX7_learnText_85 (by decide) ?_
  refine sv_icmp_eq (tgt := 96) C dX7_learnText_87 (by decide) (fun c87 => ?_) (fun c87 => ?_)
  · replace hf := sv_if_t c87 hf
    refine sv_sub (lv' := [(0, .ref a0), (1, .int x1), (2, .ref a2), (3, .int x3), (4, .int x4), (5, .int x5), (6, .int x6)]) [0, 1, 2, 3, 4, 5, 6] rfl ?_
    exact w_X7_learnText_96 C hZ hR hN hT o_a0 o_a2 hk16 _ _ _ _ _ _ hf
  · replace hf := sv_if_f c87 hf
    refine sv_iload 6 C dX7_learnText_90 rfl ?_
    refine sv_iconst (v := 1) C dX7_learnText_92 (by decide) ?_
    refine sv_iadd C dX7_learnText_93 ?_
    refine sv_istore (lv' := [(5, .int (x6 + 1)), (0, .ref a0), (1, .int x1), (2, .ref a2), (3, .int x3), (4, .int x4), (6, .int x6), (7, .int x7)]) C dX7_learnText_94 (by rw [hN]; decide) rfl ?_
    refine sv_sub (lv' := [(0, .ref a0), (1, .int x1), (2, .ref a2), (3, .int x3), (4, .int x4), (5, .int (x6 + 1)), (6, .int x6)]) [1, 2, 3, 4, 5, 0, 6] rfl ?_
    exact w_X7_learnText_96 C hZ hR hN hT o_a0 o_a2 hk16 _ _ _ _ _ _ hf
set_option maxHeartbeats 4000000 in
set_option maxRecDepth 100000 in
theorem w_X7_learnText_102 {E : sv_E} {X : sv_X} {sz : Nat} {q : gh_V} {T : gh_T} {a0 : Nat} {a2 : Nat} (C : sv_C E X cX7_learnText RX7 []) (hZ : sv_Z E X none none (gh_w E T q) sz 0 0) (hR : sv_R X = { frames := 1, cells := 0, slots := 0, locals := 25 }) (hN : sv_nL X = 8) (hT : gh_ok T) (o_a0 : gh_is T a0 7) (o_a2 : gh_is T a2 0) (V : gh_V) (x1 : Int32) (x5 : Int32) (hf : f_X7_learnText_102 T a0 a2 V x1 x5 = some q) : sv_J E X (gh_w E T V) sz 0 0 102 [(0, .ref a0), (1, .int x1), (5, .int x5)] [] := by
  rw [f_X7_learnText_102] at hf
  refine sv_aload_n 0 C dX7_learnText_102 rfl rfl ?_
  obtain ⟨b103, hb103, hf⟩ := sv_bind_some hf
  have o_b103 : gh_is T b103 10 := gh_okr hT o_a0 rfl hb103
  refine gh_getr (d := 10) C fl_X7_15 o_a0 (by decide) (by decide) hb103 dX7_learnText_103 ?_
  refine sv_iload_n 1 C dX7_learnText_106 rfl rfl ?_
  refine sv_iload 2 C dX7_learnText_107 rfl ?_
  obtain ⟨g109, hf⟩ := sv_g_some hf
  refine gh_iast C o_b103 g109 dX7_learnText_109 ?_
  exact sv_vret C (by cases hf; exact hZ) dX7_learnText_110
set_option maxHeartbeats 4000000 in
set_option maxRecDepth 100000 in
theorem w_X7_learnText_16 {E : sv_E} {X : sv_X} {sz : Nat} {q : gh_V} {T : gh_T} {a0 : Nat} {a2 : Nat} (C : sv_C E X cX7_learnText RX7 []) (hZ : sv_Z E X none none (gh_w E T q) sz 0 0) (hR : sv_R X = { frames := 1, cells := 0, slots := 0, locals := 25 }) (hN : sv_nL X = 8) (hT : gh_ok T) (o_a0 : gh_is T a0 7) (o_a2 : gh_is T a2 0) : ∀ (n : Nat) (V : gh_V) (x1 : Int32) (x3 : Int32) (x4 : Int32) (x5 : Int32) (x6 : Int32), f_X7_learnText_16 T a0 a2 n V x1 x3 x4 x5 x6 = some q → sv_J E X (gh_w E T V) sz 0 0 16 [(0, .ref a0), (1, .int x1), (2, .ref a2), (3, .int x3), (4, .int x4), (5, .int x5), (6, .int x6)] [] := by
  intro n
  induction n with
  | zero =>
    intro V x1 x3 x4 x5 x6 hf
    rw [f_X7_learnText_16] at hf
    cases hf
  | succ n ih =>
    intro V x1 x3 x4 x5 x6 hf
    rw [f_X7_learnText_16] at hf
    refine sv_iload 6 C dX7_learnText_16 rfl ?_
    refine sv_iload 4 C dX7_learnText_18 rfl ?_
    refine sv_icmp_ge (tgt := 102) C dX7_learnText_20 (by decide) (fun c20 => ?_) (fun c20 => ?_)
    · replace hf := sv_if_t c20 hf
      refine sv_sub (lv' := [(0, .ref a0), (1, .int x1), (5, .int x5)]) [0, 1, 5] rfl ?_
      exact w_X7_learnText_102 C hZ hR hN hT o_a0 o_a2 _ _ _ hf
    · replace hf := sv_if_f c20 hf
      refine sv_iload 6 C dX7_learnText_23 rfl ?_
      refine sv_bipush (v := 20) C dX7_learnText_25 (by decide) ?_
      refine sv_icmp_ge (tgt := 102) C dX7_learnText_27 (by decide) (fun c27 => ?_) (fun c27 => ?_)
      · replace hf := sv_if_t c27 hf
        refine sv_sub (lv' := [(0, .ref a0), (1, .int x1), (5, .int x5)]) [0, 1, 5] rfl ?_
        exact w_X7_learnText_102 C hZ hR hN hT o_a0 o_a2 _ _ _ hf
      · replace hf := sv_if_f c27 hf
        refine sv_aload_n 2 C dX7_learnText_30 rfl rfl ?_
        refine sv_iload_n 3 C dX7_learnText_31 rfl rfl ?_
        refine sv_bipush (v := 6) C dX7_learnText_32 (by decide) ?_
        refine sv_iload 6 C dX7_learnText_34 rfl ?_
        refine sv_imul C dX7_learnText_36 ?_
        refine sv_iadd C dX7_learnText_37 ?_
        refine sv_bipush (v := 6) C dX7_learnText_38 (by decide) ?_
        obtain ⟨q40, hc40, hf⟩ := sv_bind_some hf
        refine gh_callV0 C mv_X7_49 (m_X0_read (sv_l X) E T sz _ _ _ _ _ hc40 hT o_a2) sv_sx0 o_a2 (by decide) rfl rfl rfl (Nat.le_of_ble_eq_true rfl) ⟨by rw [hR]; decide, by rw [hR]; decide⟩ ⟨by rw [hR]; decide, by rw [hR]; decide⟩ dX7_learnText_40 ?_
        refine sv_istore (lv' := [(7, .int q40.1), (0, .ref a0), (1, .int x1), (2, .ref a2), (3, .int x3), (4, .int x4), (5, .int x5), (6, .int x6)]) C dX7_learnText_43 (by rw [hN]; decide) rfl ?_
        refine sv_iload 0 C dX7_learnText_45 rfl ?_
        refine sv_if_ne (tgt := 53) C dX7_learnText_47 (by decide) (fun c47 => ?_) (fun c47 => ?_)
        · replace hf := sv_if_f c47 hf
          refine sv_aload_n 1 C dX7_learnText_53 rfl rfl ?_
          obtain ⟨b54, hb54, hf⟩ := sv_bind_some hf
          have o_b54 : gh_is T b54 9 := gh_okr hT o_a0 rfl hb54
          refine gh_getr (d := 9) C fl_X7_18 o_a0 (by decide) (by decide) hb54 dX7_learnText_54 ?_
          refine sv_iload_n 2 C dX7_learnText_57 rfl rfl ?_
          refine sv_bipush (v := 20) C dX7_learnText_58 (by decide) ?_
          refine sv_imul C dX7_learnText_60 ?_
          refine sv_iload 7 C dX7_learnText_61 rfl ?_
          refine sv_iadd C dX7_learnText_63 ?_
          refine sv_iload 0 C dX7_learnText_64 rfl ?_
          refine sv_bipush (v := 32) C dX7_learnText_66 (by decide) ?_
          refine sv_icmp_ge (tgt := 79) C dX7_learnText_68 (by decide) (fun c68 => ?_) (fun c68 => ?_)
          · replace hf := sv_if_t c68 hf
            refine sv_iload 0 C dX7_learnText_79 rfl ?_
            refine sv_sub (lv' := [(0, .ref a0), (1, .int x1), (2, .ref a2), (3, .int x3), (4, .int x4), (5, .int x5), (6, .int x6), (7, .int q40.1)]) [1, 2, 3, 4, 5, 6, 7, 0] rfl ?_
            exact w_X7_learnText_81 C hZ hR hN hT o_a0 o_a2 ih _ _ _ _ _ _ _ _ _ _ o_b54 hf
          · replace hf := sv_if_f c68 hf
            refine sv_iload 0 C dX7_learnText_71 rfl ?_
            refine sv_bipush (v := 64) C dX7_learnText_73 (by decide) ?_
            refine sv_iadd C dX7_learnText_75 ?_
            refine sv_goto (tgt := 81) C dX7_learnText_76 (by decide) ?_
            refine sv_sub (lv' := [(0, .ref a0), (1, .int x1), (2, .ref a2), (3, .int x3), (4, .int x4), (5, .int x5), (6, .int x6), (7, .int q40.1)]) [1, 2, 3, 4, 5, 6, 7, 0] rfl ?_
            exact w_X7_learnText_81 C hZ hR hN hT o_a0 o_a2 ih _ _ _ _ _ _ _ _ _ _ o_b54 hf
        · replace hf := sv_if_t c47 hf
          refine sv_goto (tgt := 102) C dX7_learnText_50 (by decide) ?_
          refine sv_sub (lv' := [(0, .ref a0), (1, .int x1), (5, .int x5)]) [1, 2, 6] rfl ?_
          exact w_X7_learnText_102 C hZ hR hN hT o_a0 o_a2 _ _ _ hf
set_option maxHeartbeats 4000000 in
set_option maxRecDepth 100000 in
theorem m_X7_learnText (l : Launch) (E : sv_E) (T : gh_T) (sz : Nat) (V : gh_V) (a0 : Nat) (x1 : Int32) (a2 : Nat) (x3 : Int32) (x4 : Int32) (q : gh_V) (hf : f_X7_learnText T V a0 x1 a2 x3 x4 = some q) (hT : gh_ok T) (o_a0 : gh_is T a0 7) (o_a2 : gh_is T a2 0) : sv_Met l E yX7_learnText cX7_learnText 8 none 1 25 [] [.ref a0, .int x1, .ref a2, .int x3, .int x4] (gh_w E T V) sz none (gh_w E T q) sz 0 0 := by
  refine sv_ofJ (by decide) (Nat.le_of_ble_eq_true rfl) ?_
  intro X hX hN hnm hR C hZ
  replace C : sv_C E X cX7_learnText RX7 [] := C
  show sv_J E X (gh_w E T V) sz 0 0 0 [(0, .ref a0), (1, .int x1), (2, .ref a2), (3, .int x3), (4, .int x4)] []
  rw [f_X7_learnText] at hf
  refine sv_iload_n 1 C dX7_learnText_0 rfl rfl ?_
  refine sv_if_lt (tgt := 9) C dX7_learnText_1 (by decide) (fun c1 => ?_) (fun c1 => ?_)
  · replace hf := sv_if_t c1 hf
    exact sv_vret C (by cases hf; exact hZ) dX7_learnText_9
  · replace hf := sv_if_f c1 hf
    refine sv_iload_n 1 C dX7_learnText_4 rfl rfl ?_
    refine sv_iconst (v := 3) C dX7_learnText_5 (by decide) ?_
    refine sv_icmp_lt (tgt := 10) C dX7_learnText_6 (by decide) (fun c6 => ?_) (fun c6 => ?_)
    · replace hf := sv_if_t c6 hf
      refine sv_iconst (v := 0) C dX7_learnText_10 (by decide) ?_
      refine sv_istore (lv' := [(5, .int 0), (0, .ref a0), (1, .int x1), (2, .ref a2), (3, .int x3), (4, .int x4)]) C dX7_learnText_11 (by rw [hN]; decide) rfl ?_
      refine sv_iconst (v := 0) C dX7_learnText_13 (by decide) ?_
      refine sv_istore (lv' := [(6, .int 0), (5, .int 0), (0, .ref a0), (1, .int x1), (2, .ref a2), (3, .int x3), (4, .int x4)]) C dX7_learnText_14 (by rw [hN]; decide) rfl ?_
      refine sv_sub (lv' := [(0, .ref a0), (1, .int x1), (2, .ref a2), (3, .int x3), (4, .int x4), (5, .int 0), (6, .int 0)]) [2, 3, 4, 5, 6, 1, 0] rfl ?_
      exact w_X7_learnText_16 C hZ hR hN hT o_a0 o_a2 sv_fu _ _ _ _ _ _ hf
    · replace hf := sv_if_f c6 hf
      exact sv_vret C (by cases hf; exact hZ) dX7_learnText_9
def f_X7_learn_118 (T : gh_T) (a0 : Nat) (a2 : Nat) (k12 : gh_V → Int32 → Nat → Int32 → Int32 → Option (gh_V)) (V : gh_V) (x1 : Int32) (jx3 : Nat) (x4 : Int32) (x5 : Int32) (x7 : Int32) : Option (gh_V) :=
  k12 V x1 jx3 (x4 + x7) (x5 + 2)
def f_X7_learn_117 (T : gh_T) (a0 : Nat) (a2 : Nat) (k12 : gh_V → Int32 → Nat → Int32 → Int32 → Option (gh_V)) (V : gh_V) (x1 : Int32) (jx3 : Nat) (x4 : Int32) (x5 : Int32) (x7 : Int32) (s0 : Int32) (s1 : Int32) (as2 : Nat) : Option (gh_V) :=
  sv_g (sv_inb s1 (T.2.2.2.1 as2)) (
    f_X7_learn_118 T a0 a2 k12 (gh_pa V as2 s1 s0) x1 jx3 x4 x5 x7)
def f_X7_learn_12 (T : gh_T) (a0 : Nat) (a2 : Nat) : Nat → gh_V → Int32 → Nat → Int32 → Int32 → Option (gh_V)
  | 0, _, _, _, _, _ => none
  | n + 1, V, x1, jx3, x4, x5 =>
    (sv_sta[jx3]?).bind (fun w17 =>
      if (Int32.ofNat w17.2.2.length) ≤ (x5 + 1) then
        (T.2.2.1 0 a0).bind (fun b132 =>
          sv_g (sv_inb (1 : Int32) (T.2.2.2.1 b132)) (
            (T.2.2.1 0 a0).bind (fun b139 =>
              sv_g (sv_inb (23 : Int32) (T.2.2.2.1 b139)) (
                sv_g (sv_inb (23 : Int32) (T.2.2.2.1 b139)) (
                  some (gh_pa (gh_pa V b132 1 x1) b139 23 (((gh_pa V b132 1 x1).2 b139 (23 : Int32).toNatClampNeg) + 1)))))))
      else
        (sv_sta[jx3]?).bind (fun w24 =>
          sv_g (sv_inb x5 w24.2.2.length) (
            (sv_sta[jx3]?).bind (fun w32 =>
              sv_g (sv_inb (x5 + 1) w32.2.2.length) (
                if (w24.2.2.getD x5.toNatClampNeg 0) < 30 then
                  if (w24.2.2.getD x5.toNatClampNeg 0) < 0 then
                    f_X7_learn_118 T a0 a2 (f_X7_learn_12 T a0 a2 n) V x1 jx3 x4 x5 (w32.2.2.getD (x5 + 1).toNatClampNeg 0)
                  else
                    if 24 ≤ (w24.2.2.getD x5.toNatClampNeg 0) then
                      f_X7_learn_118 T a0 a2 (f_X7_learn_12 T a0 a2 n) V x1 jx3 x4 x5 (w32.2.2.getD (x5 + 1).toNatClampNeg 0)
                    else
                      (f_X0_read T V a2 x4 (w32.2.2.getD (x5 + 1).toNatClampNeg 0)).bind (fun q79 =>
                        (T.2.2.1 0 a0).bind (fun b85 =>
                          (f_X7_hasSign T q79.2 (w24.2.2.getD x5.toNatClampNeg 0)).bind (fun q92 =>
                            if q92.1 = 0 then
                              f_X7_learn_117 T a0 a2 (f_X7_learn_12 T a0 a2 n) q92.2 x1 jx3 x4 x5 (w32.2.2.getD (x5 + 1).toNatClampNeg 0) q79.1 (w24.2.2.getD x5.toNatClampNeg 0) b85
                            else
                              f_X7_learn_117 T a0 a2 (f_X7_learn_12 T a0 a2 n) q92.2 x1 jx3 x4 x5 (w32.2.2.getD (x5 + 1).toNatClampNeg 0) ((q79.1 <<< ((32 - (w32.2.2.getD (x5 + 1).toNatClampNeg 0)) &&& 31)) >>> ((32 - (w32.2.2.getD (x5 + 1).toNatClampNeg 0)) &&& 31)) (w24.2.2.getD x5.toNatClampNeg 0) b85)))
                else
                  (f_X7_learnText T V a0 ((w24.2.2.getD x5.toNatClampNeg 0) - 30) a2 x4 ((w32.2.2.getD (x5 + 1).toNatClampNeg 0) / 6)).bind (fun q56 =>
                    f_X7_learn_118 T a0 a2 (f_X7_learn_12 T a0 a2 n) q56 x1 jx3 x4 x5 (w32.2.2.getD (x5 + 1).toNatClampNeg 0)))))))
def f_X7_learn (T : gh_T) (V : gh_V) (a0 : Nat) (x1 : Int32) (a2 : Nat) : Option (gh_V) :=
  (f_X7_layoutOf T V x1).bind (fun q1 =>
    f_X7_learn_12 T a0 a2 sv_fu q1.2 x1 q1.1 38 0)
set_option maxHeartbeats 4000000 in
set_option maxRecDepth 100000 in
theorem w_X7_learn_118 {E : sv_E} {X : sv_X} {sz : Nat} {q : gh_V} {T : gh_T} {a0 : Nat} {a2 : Nat} (C : sv_C E X cX7_learn RX7 []) (hZ : sv_Z E X none none (gh_w E T q) sz 0 0) (hR : sv_R X = { frames := 2, cells := 0, slots := 0, locals := 52 }) (hN : sv_nL X = 9) (hT : gh_ok T) (o_a0 : gh_is T a0 7) (o_a2 : gh_is T a2 0) {k12 : gh_V → Int32 → Nat → Int32 → Int32 → Option (gh_V)} (hk12 : ∀ (V : gh_V) (x1 : Int32) (jx3 : Nat) (x4 : Int32) (x5 : Int32), k12 V x1 jx3 x4 x5 = some q → sv_J E X (gh_w E T V) sz 0 0 12 [(0, .ref a0), (1, .int x1), (2, .ref a2), (3, .ref (E.2.2.2.2 jx3)), (4, .int x4), (5, .int x5)] []) (V : gh_V) (x1 : Int32) (jx3 : Nat) (x4 : Int32) (x5 : Int32) (x7 : Int32) (hf : f_X7_learn_118 T a0 a2 k12 V x1 jx3 x4 x5 x7 = some q) : sv_J E X (gh_w E T V) sz 0 0 118 [(0, .ref a0), (1, .int x1), (2, .ref a2), (3, .ref (E.2.2.2.2 jx3)), (4, .int x4), (5, .int x5), (7, .int x7)] [] := by
  rw [f_X7_learn_118] at hf
  refine sv_iload 4 C dX7_learn_118 rfl ?_
  refine sv_iload 6 C dX7_learn_120 rfl ?_
  refine sv_iadd C dX7_learn_122 ?_
  refine sv_istore (lv' := [(4, .int (x4 + x7)), (0, .ref a0), (1, .int x1), (2, .ref a2), (3, .ref (E.2.2.2.2 jx3)), (5, .int x5), (7, .int x7)]) C dX7_learn_123 (by rw [hN]; decide) rfl ?_
  refine sv_iinc (v := x5 + 2) (lv' := [(5, .int (x5 + 2)), (4, .int (x4 + x7)), (0, .ref a0), (1, .int x1), (2, .ref a2), (3, .ref (E.2.2.2.2 jx3)), (7, .int x7)]) 5 C dX7_learn_125 rfl rfl (by rw [hN]; decide) rfl ?_
  refine sv_goto (tgt := 12) C dX7_learn_128 (by decide) ?_
  refine sv_sub (lv' := [(0, .ref a0), (1, .int x1), (2, .ref a2), (3, .ref (E.2.2.2.2 jx3)), (4, .int (x4 + x7)), (5, .int (x5 + 2))]) [2, 3, 4, 5, 1, 0] rfl ?_
  exact hk12 _ _ _ _ _ hf
set_option maxHeartbeats 4000000 in
set_option maxRecDepth 100000 in
theorem w_X7_learn_117 {E : sv_E} {X : sv_X} {sz : Nat} {q : gh_V} {T : gh_T} {a0 : Nat} {a2 : Nat} (C : sv_C E X cX7_learn RX7 []) (hZ : sv_Z E X none none (gh_w E T q) sz 0 0) (hR : sv_R X = { frames := 2, cells := 0, slots := 0, locals := 52 }) (hN : sv_nL X = 9) (hT : gh_ok T) (o_a0 : gh_is T a0 7) (o_a2 : gh_is T a2 0) {k12 : gh_V → Int32 → Nat → Int32 → Int32 → Option (gh_V)} (hk12 : ∀ (V : gh_V) (x1 : Int32) (jx3 : Nat) (x4 : Int32) (x5 : Int32), k12 V x1 jx3 x4 x5 = some q → sv_J E X (gh_w E T V) sz 0 0 12 [(0, .ref a0), (1, .int x1), (2, .ref a2), (3, .ref (E.2.2.2.2 jx3)), (4, .int x4), (5, .int x5)] []) (V : gh_V) (x1 : Int32) (jx3 : Nat) (x4 : Int32) (x5 : Int32) (x7 : Int32) (s0 : Int32) (s1 : Int32) (as2 : Nat) (o_as2 : gh_is T as2 10) (hf : f_X7_learn_117 T a0 a2 k12 V x1 jx3 x4 x5 x7 s0 s1 as2 = some q) : sv_J E X (gh_w E T V) sz 0 0 117 [(0, .ref a0), (1, .int x1), (2, .ref a2), (3, .ref (E.2.2.2.2 jx3)), (4, .int x4), (5, .int x5), (7, .int x7)] [.int s0, .int s1, .ref as2] := by
  rw [f_X7_learn_117] at hf
  obtain ⟨g117, hf⟩ := sv_g_some hf
  refine gh_iast C o_as2 g117 dX7_learn_117 ?_
  refine sv_sub (lv' := [(0, .ref a0), (1, .int x1), (2, .ref a2), (3, .ref (E.2.2.2.2 jx3)), (4, .int x4), (5, .int x5), (7, .int x7)]) [0, 1, 2, 3, 4, 5, 6] rfl ?_
  exact w_X7_learn_118 C hZ hR hN hT o_a0 o_a2 hk12 _ _ _ _ _ _ hf
set_option maxHeartbeats 4000000 in
set_option maxRecDepth 100000 in
theorem w_X7_learn_12 {E : sv_E} {X : sv_X} {sz : Nat} {q : gh_V} {T : gh_T} {a0 : Nat} {a2 : Nat} (C : sv_C E X cX7_learn RX7 []) (hZ : sv_Z E X none none (gh_w E T q) sz 0 0) (hR : sv_R X = { frames := 2, cells := 0, slots := 0, locals := 52 }) (hN : sv_nL X = 9) (hT : gh_ok T) (o_a0 : gh_is T a0 7) (o_a2 : gh_is T a2 0) : ∀ (n : Nat) (V : gh_V) (x1 : Int32) (jx3 : Nat) (x4 : Int32) (x5 : Int32), f_X7_learn_12 T a0 a2 n V x1 jx3 x4 x5 = some q → sv_J E X (gh_w E T V) sz 0 0 12 [(0, .ref a0), (1, .int x1), (2, .ref a2), (3, .ref (E.2.2.2.2 jx3)), (4, .int x4), (5, .int x5)] [] := by
  intro n
  induction n with
  | zero =>
    intro V x1 jx3 x4 x5 hf
    rw [f_X7_learn_12] at hf
    cases hf
  | succ n ih =>
    intro V x1 jx3 x4 x5 hf
    rw [f_X7_learn_12] at hf
    refine sv_iload 5 C dX7_learn_12 rfl ?_
    refine sv_iconst (v := 1) C dX7_learn_14 (by decide) ?_
    refine sv_iadd C dX7_learn_15 ?_
    refine sv_aload_n 3 C dX7_learn_16 rfl rfl ?_
    obtain ⟨w17, hw17, hf⟩ := sv_bind_some hf
    refine gs_alen C hw17 dX7_learn_17 ?_
    refine sv_icmp_ge (tgt := 131) C dX7_learn_18 (by decide) (fun c18 => ?_) (fun c18 => ?_)
    · replace hf := sv_if_t c18 hf
      refine sv_aload_n 0 C dX7_learn_131 rfl rfl ?_
      obtain ⟨b132, hb132, hf⟩ := sv_bind_some hf
      have o_b132 : gh_is T b132 10 := gh_okr hT o_a0 rfl hb132
      refine gh_getr (d := 10) C fl_X7_11 o_a0 (by decide) (by decide) hb132 dX7_learn_132 ?_
      refine sv_iconst (v := 1) C dX7_learn_135 (by decide) ?_
      refine sv_iload_n 1 C dX7_learn_136 rfl rfl ?_
      obtain ⟨g137, hf⟩ := sv_g_some hf
      refine gh_iast C o_b132 g137 dX7_learn_137 ?_
      refine sv_aload_n 0 C dX7_learn_138 rfl rfl ?_
      obtain ⟨b139, hb139, hf⟩ := sv_bind_some hf
      have o_b139 : gh_is T b139 10 := gh_okr hT o_a0 rfl hb139
      refine gh_getr (d := 10) C fl_X7_11 o_a0 (by decide) (by decide) hb139 dX7_learn_139 ?_
      refine sv_bipush (v := 23) C dX7_learn_142 (by decide) ?_
      refine sv_dup2 C dX7_learn_144 rfl rfl ?_
      obtain ⟨g145, hf⟩ := sv_g_some hf
      refine gh_iald C o_b139 g145 dX7_learn_145 ?_
      refine sv_iconst (v := 1) C dX7_learn_146 (by decide) ?_
      refine sv_iadd C dX7_learn_147 ?_
      obtain ⟨g148, hf⟩ := sv_g_some hf
      refine gh_iast C o_b139 g148 dX7_learn_148 ?_
      exact sv_vret C (by cases hf; exact hZ) dX7_learn_149
    · replace hf := sv_if_f c18 hf
      refine sv_aload_n 3 C dX7_learn_21 rfl rfl ?_
      refine sv_iload 5 C dX7_learn_22 rfl ?_
      obtain ⟨w24, hw24, hf⟩ := sv_bind_some hf
      obtain ⟨g24, hf⟩ := sv_g_some hf
      refine gs_iald C hw24 g24 dX7_learn_24 ?_
      refine sv_istore (lv' := [(6, .int (w24.2.2.getD x5.toNatClampNeg 0)), (0, .ref a0), (1, .int x1), (2, .ref a2), (3, .ref (E.2.2.2.2 jx3)), (4, .int x4), (5, .int x5)]) C dX7_learn_25 (by rw [hN]; decide) rfl ?_
      refine sv_aload_n 4 C dX7_learn_27 rfl rfl ?_
      refine sv_iload 6 C dX7_learn_28 rfl ?_
      refine sv_iconst (v := 1) C dX7_learn_30 (by decide) ?_
      refine sv_iadd C dX7_learn_31 ?_
      obtain ⟨w32, hw32, hf⟩ := sv_bind_some hf
      obtain ⟨g32, hf⟩ := sv_g_some hf
      refine gs_iald C hw32 g32 dX7_learn_32 ?_
      refine sv_istore (lv' := [(7, .int (w32.2.2.getD (x5 + 1).toNatClampNeg 0)), (6, .int (w24.2.2.getD x5.toNatClampNeg 0)), (0, .ref a0), (1, .int x1), (2, .ref a2), (3, .ref (E.2.2.2.2 jx3)), (4, .int x4), (5, .int x5)]) C dX7_learn_33 (by rw [hN]; decide) rfl ?_
      refine sv_iload 1 C dX7_learn_35 rfl ?_
      refine sv_bipush (v := 30) C dX7_learn_37 (by decide) ?_
      refine sv_icmp_lt (tgt := 62) C dX7_learn_39 (by decide) (fun c39 => ?_) (fun c39 => ?_)
      · replace hf := sv_if_t c39 hf
        refine sv_iload 1 C dX7_learn_62 rfl ?_
        refine sv_if_lt (tgt := 118) C dX7_learn_64 (by decide) (fun c64 => ?_) (fun c64 => ?_)
        · replace hf := sv_if_t c64 hf
          refine sv_sub (lv' := [(0, .ref a0), (1, .int x1), (2, .ref a2), (3, .ref (E.2.2.2.2 jx3)), (4, .int x4), (5, .int x5), (7, .int (w32.2.2.getD (x5 + 1).toNatClampNeg 0))]) [2, 3, 4, 5, 6, 7, 0] rfl ?_
          exact w_X7_learn_118 C hZ hR hN hT o_a0 o_a2 ih _ _ _ _ _ _ hf
        · replace hf := sv_if_f c64 hf
          refine sv_iload 1 C dX7_learn_67 rfl ?_
          refine sv_bipush (v := 24) C dX7_learn_69 (by decide) ?_
          refine sv_icmp_ge (tgt := 118) C dX7_learn_71 (by decide) (fun c71 => ?_) (fun c71 => ?_)
          · replace hf := sv_if_t c71 hf
            refine sv_sub (lv' := [(0, .ref a0), (1, .int x1), (2, .ref a2), (3, .ref (E.2.2.2.2 jx3)), (4, .int x4), (5, .int x5), (7, .int (w32.2.2.getD (x5 + 1).toNatClampNeg 0))]) [2, 3, 4, 5, 6, 7, 0] rfl ?_
            exact w_X7_learn_118 C hZ hR hN hT o_a0 o_a2 ih _ _ _ _ _ _ hf
          · replace hf := sv_if_f c71 hf
            refine sv_aload_n 4 C dX7_learn_74 rfl rfl ?_
            refine sv_iload 6 C dX7_learn_75 rfl ?_
            refine sv_iload 0 C dX7_learn_77 rfl ?_
            obtain ⟨q79, hc79, hf⟩ := sv_bind_some hf
            refine gh_callV0 C mv_X7_49 (m_X0_read (sv_l X) E T sz _ _ _ _ _ hc79 hT o_a2) sv_sx0 o_a2 (by decide) rfl rfl rfl (Nat.le_of_ble_eq_true rfl) ⟨by rw [hR]; decide, by rw [hR]; decide⟩ ⟨by rw [hR]; decide, by rw [hR]; decide⟩ dX7_learn_79 ?_
            refine sv_istore (lv' := [(8, .int q79.1), (7, .int (w32.2.2.getD (x5 + 1).toNatClampNeg 0)), (6, .int (w24.2.2.getD x5.toNatClampNeg 0)), (0, .ref a0), (1, .int x1), (2, .ref a2), (3, .ref (E.2.2.2.2 jx3)), (4, .int x4), (5, .int x5)]) C dX7_learn_82 (by rw [hN]; decide) rfl ?_
            refine sv_aload_n 3 C dX7_learn_84 rfl rfl ?_
            obtain ⟨b85, hb85, hf⟩ := sv_bind_some hf
            have o_b85 : gh_is T b85 10 := gh_okr hT o_a0 rfl hb85
            refine gh_getr (d := 10) C fl_X7_11 o_a0 (by decide) (by decide) hb85 dX7_learn_85 ?_
            refine sv_iload 2 C dX7_learn_88 rfl ?_
            refine sv_iload 2 C dX7_learn_90 rfl ?_
            obtain ⟨q92, hc92, hf⟩ := sv_bind_some hf
            refine sv_callS0 C ms_X7_55 (m_X7_hasSign (sv_l X) E T sz _ _ _ hc92 hT) sv_sx0 rfl rfl (Nat.le_of_ble_eq_true rfl) ⟨by rw [hR]; decide, by rw [hR]; decide⟩ ⟨by rw [hR]; decide, by rw [hR]; decide⟩ dX7_learn_92 ?_
            refine sv_if_eq (tgt := 115) C dX7_learn_95 (by decide) (fun c95 => ?_) (fun c95 => ?_)
            · replace hf := sv_if_t c95 hf
              refine sv_iload 0 C dX7_learn_115 rfl ?_
              refine sv_sub (lv' := [(0, .ref a0), (1, .int x1), (2, .ref a2), (3, .ref (E.2.2.2.2 jx3)), (4, .int x4), (5, .int x5), (7, .int (w32.2.2.getD (x5 + 1).toNatClampNeg 0))]) [3, 4, 5, 6, 7, 8, 1] rfl ?_
              exact w_X7_learn_117 C hZ hR hN hT o_a0 o_a2 ih _ _ _ _ _ _ _ _ _ o_b85 hf
            · replace hf := sv_if_f c95 hf
              refine sv_iload 0 C dX7_learn_98 rfl ?_
              refine sv_bipush (v := 32) C dX7_learn_100 (by decide) ?_
              refine sv_iload 1 C dX7_learn_102 rfl ?_
              refine sv_isub C dX7_learn_104 ?_
              refine sv_ishl C dX7_learn_105 ?_
              refine sv_bipush (v := 32) C dX7_learn_106 (by decide) ?_
              refine sv_iload 1 C dX7_learn_108 rfl ?_
              refine sv_isub C dX7_learn_110 ?_
              refine sv_ishr C dX7_learn_111 ?_
              refine sv_goto (tgt := 117) C dX7_learn_112 (by decide) ?_
              refine sv_sub (lv' := [(0, .ref a0), (1, .int x1), (2, .ref a2), (3, .ref (E.2.2.2.2 jx3)), (4, .int x4), (5, .int x5), (7, .int (w32.2.2.getD (x5 + 1).toNatClampNeg 0))]) [3, 4, 5, 6, 7, 8, 1] rfl ?_
              exact w_X7_learn_117 C hZ hR hN hT o_a0 o_a2 ih _ _ _ _ _ _ _ _ _ o_b85 hf
      · replace hf := sv_if_f c39 hf
        refine sv_aload_n 2 C dX7_learn_42 rfl rfl ?_
        refine sv_iload 1 C dX7_learn_43 rfl ?_
        refine sv_bipush (v := 30) C dX7_learn_45 (by decide) ?_
        refine sv_isub C dX7_learn_47 ?_
        refine sv_aload_n 4 C dX7_learn_48 rfl rfl ?_
        refine sv_iload 6 C dX7_learn_49 rfl ?_
        refine sv_iload 0 C dX7_learn_51 rfl ?_
        refine sv_bipush (v := 6) C dX7_learn_53 (by decide) ?_
        refine sv_idiv C dX7_learn_55 (by decide) ?_
        obtain ⟨q56, hc56, hf⟩ := sv_bind_some hf
        refine gh_callV0 C mv_X7_45 (m_X7_learnText (sv_l X) E T sz _ _ _ _ _ _ _ hc56 hT o_a0 o_a2) sv_sx0 o_a0 (by decide) rfl rfl rfl (Nat.le_of_ble_eq_true rfl) ⟨by rw [hR]; decide, by rw [hR]; decide⟩ ⟨by rw [hR]; decide, by rw [hR]; decide⟩ dX7_learn_56 ?_
        refine sv_goto (tgt := 118) C dX7_learn_59 (by decide) ?_
        refine sv_sub (lv' := [(0, .ref a0), (1, .int x1), (2, .ref a2), (3, .ref (E.2.2.2.2 jx3)), (4, .int x4), (5, .int x5), (7, .int (w32.2.2.getD (x5 + 1).toNatClampNeg 0))]) [2, 3, 4, 5, 6, 7, 0] rfl ?_
        exact w_X7_learn_118 C hZ hR hN hT o_a0 o_a2 ih _ _ _ _ _ _ hf
set_option maxHeartbeats 4000000 in
set_option maxRecDepth 100000 in
theorem m_X7_learn (l : Launch) (E : sv_E) (T : gh_T) (sz : Nat) (V : gh_V) (a0 : Nat) (x1 : Int32) (a2 : Nat) (q : gh_V) (hf : f_X7_learn T V a0 x1 a2 = some q) (hT : gh_ok T) (o_a0 : gh_is T a0 7) (o_a2 : gh_is T a2 0) : sv_Met l E yX7_learn cX7_learn 9 none 2 52 [] [.ref a0, .int x1, .ref a2] (gh_w E T V) sz none (gh_w E T q) sz 0 0 := by
  refine sv_ofJ (by decide) (Nat.le_of_ble_eq_true rfl) ?_
  intro X hX hN hnm hR C hZ
  replace C : sv_C E X cX7_learn RX7 [] := C
  show sv_J E X (gh_w E T V) sz 0 0 0 [(0, .ref a0), (1, .int x1), (2, .ref a2)] []
  rw [f_X7_learn] at hf
  refine sv_iload_n 1 C dX7_learn_0 rfl rfl ?_
  obtain ⟨q1, hc1, hf⟩ := sv_bind_some hf
  refine sv_callS0 C ms_X7_41 (m_X7_layoutOf (sv_l X) E T sz _ _ _ hc1 hT) sv_sx0 rfl rfl (Nat.le_of_ble_eq_true rfl) ⟨by rw [hR]; decide, by rw [hR]; decide⟩ ⟨by rw [hR]; decide, by rw [hR]; decide⟩ dX7_learn_1 ?_
  refine sv_astore_n (lv' := [(3, .ref (E.2.2.2.2 q1.1)), (0, .ref a0), (1, .int x1), (2, .ref a2)]) C dX7_learn_4 rfl (by rw [hN]; decide) rfl ?_
  refine sv_bipush (v := 38) C dX7_learn_5 (by decide) ?_
  refine sv_istore (lv' := [(4, .int 38), (3, .ref (E.2.2.2.2 q1.1)), (0, .ref a0), (1, .int x1), (2, .ref a2)]) C dX7_learn_7 (by rw [hN]; decide) rfl ?_
  refine sv_iconst (v := 0) C dX7_learn_9 (by decide) ?_
  refine sv_istore (lv' := [(5, .int 0), (4, .int 38), (3, .ref (E.2.2.2.2 q1.1)), (0, .ref a0), (1, .int x1), (2, .ref a2)]) C dX7_learn_10 (by rw [hN]; decide) rfl ?_
  refine sv_sub (lv' := [(0, .ref a0), (1, .int x1), (2, .ref a2), (3, .ref (E.2.2.2.2 q1.1)), (4, .int 38), (5, .int 0)]) [3, 4, 5, 2, 1, 0] rfl ?_
  exact w_X7_learn_12 C hZ hR hN hT o_a0 o_a2 sv_fu _ _ _ _ _ hf
def f_X7_signOf (T : gh_T) (V : gh_V) (a0 : Nat) (x1 : Int32) (x2 : Int32) : Option (Int32 × gh_V) :=
  if x1 < 0 then
    some ((-2147483648), V)
  else
    if 3 ≤ x1 then
      some ((-2147483648), V)
    else
      if x2 < 0 then
        some ((-2147483648), V)
      else
        (T.2.2.1 1 a0).bind (fun b15 =>
          sv_g (sv_inb x1 (T.2.2.2.1 b15)) (
            if (V.2 b15 x1.toNatClampNeg) ≤ x2 then
              some ((-2147483648), V)
            else
              if x2 < 20 then
                (T.2.2.1 2 a0).bind (fun b33 =>
                  sv_g (sv_inb ((x1 * 20) + x2) (T.2.2.2.1 b33)) (
                    some (V.2 b33 ((x1 * 20) + x2).toNatClampNeg, V)))
              else
                some ((-2147483648), V)))
set_option maxHeartbeats 4000000 in
set_option maxRecDepth 100000 in
theorem m_X7_signOf (l : Launch) (E : sv_E) (T : gh_T) (sz : Nat) (V : gh_V) (a0 : Nat) (x1 : Int32) (x2 : Int32) (q : Int32 × gh_V) (hf : f_X7_signOf T V a0 x1 x2 = some q) (hT : gh_ok T) (o_a0 : gh_is T a0 7) : sv_Met l E yX7_signOf cX7_signOf 3 (some .int) 0 0 [] [.ref a0, .int x1, .int x2] (gh_w E T V) sz (some (.int q.1)) (gh_w E T q.2) sz 0 0 := by
  refine sv_ofJ (by decide) (Nat.le_of_ble_eq_true rfl) ?_
  intro X hX hN hnm hR C hZ
  replace C : sv_C E X cX7_signOf RX7 [] := C
  show sv_J E X (gh_w E T V) sz 0 0 0 [(0, .ref a0), (1, .int x1), (2, .int x2)] []
  rw [f_X7_signOf] at hf
  refine sv_iload_n 1 C dX7_signOf_0 rfl rfl ?_
  refine sv_if_lt (tgt := 29) C dX7_signOf_1 (by decide) (fun c1 => ?_) (fun c1 => ?_)
  · replace hf := sv_if_t c1 hf
    refine sv_ldc C kw_210 dX7_signOf_29 ?_
    exact sv_iret C (by cases hf; exact hZ) dX7_signOf_31
  · replace hf := sv_if_f c1 hf
    refine sv_iload_n 1 C dX7_signOf_4 rfl rfl ?_
    refine sv_iconst (v := 3) C dX7_signOf_5 (by decide) ?_
    refine sv_icmp_ge (tgt := 29) C dX7_signOf_6 (by decide) (fun c6 => ?_) (fun c6 => ?_)
    · replace hf := sv_if_t c6 hf
      refine sv_ldc C kw_210 dX7_signOf_29 ?_
      exact sv_iret C (by cases hf; exact hZ) dX7_signOf_31
    · replace hf := sv_if_f c6 hf
      refine sv_iload_n 2 C dX7_signOf_9 rfl rfl ?_
      refine sv_if_lt (tgt := 29) C dX7_signOf_10 (by decide) (fun c10 => ?_) (fun c10 => ?_)
      · replace hf := sv_if_t c10 hf
        refine sv_ldc C kw_210 dX7_signOf_29 ?_
        exact sv_iret C (by cases hf; exact hZ) dX7_signOf_31
      · replace hf := sv_if_f c10 hf
        refine sv_iload_n 2 C dX7_signOf_13 rfl rfl ?_
        refine sv_aload_n 0 C dX7_signOf_14 rfl rfl ?_
        obtain ⟨b15, hb15, hf⟩ := sv_bind_some hf
        have o_b15 : gh_is T b15 10 := gh_okr hT o_a0 rfl hb15
        refine gh_getr (d := 10) C fl_X7_15 o_a0 (by decide) (by decide) hb15 dX7_signOf_15 ?_
        refine sv_iload_n 1 C dX7_signOf_18 rfl rfl ?_
        obtain ⟨g19, hf⟩ := sv_g_some hf
        refine gh_iald C o_b15 g19 dX7_signOf_19 ?_
        refine sv_icmp_ge (tgt := 29) C dX7_signOf_20 (by decide) (fun c20 => ?_) (fun c20 => ?_)
        · replace hf := sv_if_t c20 hf
          refine sv_ldc C kw_210 dX7_signOf_29 ?_
          exact sv_iret C (by cases hf; exact hZ) dX7_signOf_31
        · replace hf := sv_if_f c20 hf
          refine sv_iload_n 2 C dX7_signOf_23 rfl rfl ?_
          refine sv_bipush (v := 20) C dX7_signOf_24 (by decide) ?_
          refine sv_icmp_lt (tgt := 32) C dX7_signOf_26 (by decide) (fun c26 => ?_) (fun c26 => ?_)
          · replace hf := sv_if_t c26 hf
            refine sv_aload_n 0 C dX7_signOf_32 rfl rfl ?_
            obtain ⟨b33, hb33, hf⟩ := sv_bind_some hf
            have o_b33 : gh_is T b33 9 := gh_okr hT o_a0 rfl hb33
            refine gh_getr (d := 9) C fl_X7_18 o_a0 (by decide) (by decide) hb33 dX7_signOf_33 ?_
            refine sv_iload_n 1 C dX7_signOf_36 rfl rfl ?_
            refine sv_bipush (v := 20) C dX7_signOf_37 (by decide) ?_
            refine sv_imul C dX7_signOf_39 ?_
            refine sv_iload_n 2 C dX7_signOf_40 rfl rfl ?_
            refine sv_iadd C dX7_signOf_41 ?_
            obtain ⟨g42, hf⟩ := sv_g_some hf
            refine gh_bald C o_b33 g42 dX7_signOf_42 ?_
            exact sv_iret C (by cases hf; exact hZ) dX7_signOf_43
          · replace hf := sv_if_f c26 hf
            refine sv_ldc C kw_210 dX7_signOf_29 ?_
            exact sv_iret C (by cases hf; exact hZ) dX7_signOf_31
def f_X7_tellText_51 (T : gh_T) (a0 : Nat) (a2 : Nat) (k3 : gh_V → Int32 → Int32 → Int32 → Option (gh_V)) (V : gh_V) (x1 : Int32) (x3 : Int32) (x4 : Int32) (s0 : Int32) : Option (gh_V) :=
  (f_X0_append T V a2 s0 6).bind (fun q53 =>
    k3 q53 x1 x3 (x4 + 1))
def f_X7_tellText_35 (T : gh_T) (a0 : Nat) (a2 : Nat) (k3 : gh_V → Int32 → Int32 → Int32 → Option (gh_V)) (V : gh_V) (x1 : Int32) (x3 : Int32) (x4 : Int32) (x5 : Int32) (s0 : Int32) : Option (gh_V) :=
  if x5 = (-2147483648) then
    f_X7_tellText_51 T a0 a2 k3 V x1 x3 x4 0
  else
    f_X7_tellText_51 T a0 a2 k3 V x1 x3 x4 s0
def f_X7_tellText_3 (T : gh_T) (a0 : Nat) (a2 : Nat) : Nat → gh_V → Int32 → Int32 → Int32 → Option (gh_V)
  | 0, _, _, _, _ => none
  | n + 1, V, x1, x3, x4 =>
    if x3 ≤ x4 then
      some (V)
    else
      (f_X7_signOf T V a0 x1 x4).bind (fun q13 =>
        if q13.1 < 64 then
          f_X7_tellText_35 T a0 a2 (f_X7_tellText_3 T a0 a2 n) q13.2 x1 x3 x4 q13.1 q13.1
        else
          f_X7_tellText_35 T a0 a2 (f_X7_tellText_3 T a0 a2 n) q13.2 x1 x3 x4 q13.1 (q13.1 - 64))
def f_X7_tellText (T : gh_T) (V : gh_V) (a0 : Nat) (x1 : Int32) (a2 : Nat) (x3 : Int32) : Option (gh_V) :=
  f_X7_tellText_3 T a0 a2 sv_fu V x1 x3 0
set_option maxHeartbeats 4000000 in
set_option maxRecDepth 100000 in
theorem w_X7_tellText_51 {E : sv_E} {X : sv_X} {sz : Nat} {q : gh_V} {T : gh_T} {a0 : Nat} {a2 : Nat} (C : sv_C E X cX7_tellText RX7 []) (hZ : sv_Z E X none none (gh_w E T q) sz 0 0) (hR : sv_R X = { frames := 1, cells := 0, slots := 0, locals := 27 }) (hN : sv_nL X = 7) (hT : gh_ok T) (o_a0 : gh_is T a0 7) (o_a2 : gh_is T a2 0) {k3 : gh_V → Int32 → Int32 → Int32 → Option (gh_V)} (hk3 : ∀ (V : gh_V) (x1 : Int32) (x3 : Int32) (x4 : Int32), k3 V x1 x3 x4 = some q → sv_J E X (gh_w E T V) sz 0 0 3 [(0, .ref a0), (1, .int x1), (2, .ref a2), (3, .int x3), (4, .int x4)] []) (V : gh_V) (x1 : Int32) (x3 : Int32) (x4 : Int32) (s0 : Int32) (hf : f_X7_tellText_51 T a0 a2 k3 V x1 x3 x4 s0 = some q) : sv_J E X (gh_w E T V) sz 0 0 51 [(0, .ref a0), (1, .int x1), (2, .ref a2), (3, .int x3), (4, .int x4)] [.int s0, .ref a2] := by
  rw [f_X7_tellText_51] at hf
  refine sv_bipush (v := 6) C dX7_tellText_51 (by decide) ?_
  obtain ⟨q53, hc53, hf⟩ := sv_bind_some hf
  refine gh_callV0 C mv_X7_62 (m_X0_append (sv_l X) E T sz _ _ _ _ _ hc53 hT o_a2) sv_sx0 o_a2 (by decide) rfl rfl rfl (Nat.le_of_ble_eq_true rfl) ⟨by rw [hR]; decide, by rw [hR]; decide⟩ ⟨by rw [hR]; decide, by rw [hR]; decide⟩ dX7_tellText_53 ?_
  refine sv_iinc (v := x4 + 1) (lv' := [(4, .int (x4 + 1)), (0, .ref a0), (1, .int x1), (2, .ref a2), (3, .int x3)]) 4 C dX7_tellText_56 rfl rfl (by rw [hN]; decide) rfl ?_
  refine sv_goto (tgt := 3) C dX7_tellText_59 (by decide) ?_
  refine sv_sub (lv' := [(0, .ref a0), (1, .int x1), (2, .ref a2), (3, .int x3), (4, .int (x4 + 1))]) [1, 2, 3, 4, 0] rfl ?_
  exact hk3 _ _ _ _ hf
set_option maxHeartbeats 4000000 in
set_option maxRecDepth 100000 in
theorem w_X7_tellText_35 {E : sv_E} {X : sv_X} {sz : Nat} {q : gh_V} {T : gh_T} {a0 : Nat} {a2 : Nat} (C : sv_C E X cX7_tellText RX7 []) (hZ : sv_Z E X none none (gh_w E T q) sz 0 0) (hR : sv_R X = { frames := 1, cells := 0, slots := 0, locals := 27 }) (hN : sv_nL X = 7) (hT : gh_ok T) (o_a0 : gh_is T a0 7) (o_a2 : gh_is T a2 0) {k3 : gh_V → Int32 → Int32 → Int32 → Option (gh_V)} (hk3 : ∀ (V : gh_V) (x1 : Int32) (x3 : Int32) (x4 : Int32), k3 V x1 x3 x4 = some q → sv_J E X (gh_w E T V) sz 0 0 3 [(0, .ref a0), (1, .int x1), (2, .ref a2), (3, .int x3), (4, .int x4)] []) (V : gh_V) (x1 : Int32) (x3 : Int32) (x4 : Int32) (x5 : Int32) (s0 : Int32) (hf : f_X7_tellText_35 T a0 a2 k3 V x1 x3 x4 x5 s0 = some q) : sv_J E X (gh_w E T V) sz 0 0 35 [(0, .ref a0), (1, .int x1), (2, .ref a2), (3, .int x3), (4, .int x4), (5, .int x5)] [.int s0] := by
  rw [f_X7_tellText_35] at hf
  refine sv_istore (lv' := [(6, .int s0), (0, .ref a0), (1, .int x1), (2, .ref a2), (3, .int x3), (4, .int x4), (5, .int x5)]) C dX7_tellText_35 (by rw [hN]; decide) rfl ?_
  refine sv_aload_n 3 C dX7_tellText_37 rfl rfl ?_
  refine sv_iload 6 C dX7_tellText_38 rfl ?_
  refine sv_ldc C kw_210 dX7_tellText_40 ?_
  refine sv_icmp_ne (tgt := 49) C dX7_tellText_42 (by decide) (fun c42 => ?_) (fun c42 => ?_)
  · replace hf := sv_if_f c42 hf
    refine sv_iload 0 C dX7_tellText_49 rfl ?_
    refine sv_sub (lv' := [(0, .ref a0), (1, .int x1), (2, .ref a2), (3, .int x3), (4, .int x4)]) [1, 2, 3, 4, 5] rfl ?_
    exact w_X7_tellText_51 C hZ hR hN hT o_a0 o_a2 hk3 _ _ _ _ _ hf
  · replace hf := sv_if_t c42 hf
    refine sv_iconst (v := 0) C dX7_tellText_45 (by decide) ?_
    refine sv_goto (tgt := 51) C dX7_tellText_46 (by decide) ?_
    refine sv_sub (lv' := [(0, .ref a0), (1, .int x1), (2, .ref a2), (3, .int x3), (4, .int x4)]) [1, 2, 3, 4, 5] rfl ?_
    exact w_X7_tellText_51 C hZ hR hN hT o_a0 o_a2 hk3 _ _ _ _ _ hf
set_option maxHeartbeats 4000000 in
set_option maxRecDepth 100000 in
theorem w_X7_tellText_3 {E : sv_E} {X : sv_X} {sz : Nat} {q : gh_V} {T : gh_T} {a0 : Nat} {a2 : Nat} (C : sv_C E X cX7_tellText RX7 []) (hZ : sv_Z E X none none (gh_w E T q) sz 0 0) (hR : sv_R X = { frames := 1, cells := 0, slots := 0, locals := 27 }) (hN : sv_nL X = 7) (hT : gh_ok T) (o_a0 : gh_is T a0 7) (o_a2 : gh_is T a2 0) : ∀ (n : Nat) (V : gh_V) (x1 : Int32) (x3 : Int32) (x4 : Int32), f_X7_tellText_3 T a0 a2 n V x1 x3 x4 = some q → sv_J E X (gh_w E T V) sz 0 0 3 [(0, .ref a0), (1, .int x1), (2, .ref a2), (3, .int x3), (4, .int x4)] [] := by
  intro n
  induction n with
  | zero =>
    intro V x1 x3 x4 hf
    rw [f_X7_tellText_3] at hf
    cases hf
  | succ n ih =>
    intro V x1 x3 x4 hf
    rw [f_X7_tellText_3] at hf
    refine sv_iload 4 C dX7_tellText_3 rfl ?_
    refine sv_iload_n 3 C dX7_tellText_5 rfl rfl ?_
    refine sv_icmp_ge (tgt := 62) C dX7_tellText_6 (by decide) (fun c6 => ?_) (fun c6 => ?_)
    · replace hf := sv_if_t c6 hf
      exact sv_vret C (by cases hf; exact hZ) dX7_tellText_62
    · replace hf := sv_if_f c6 hf
      refine sv_aload_n 0 C dX7_tellText_9 rfl rfl ?_
      refine sv_iload_n 1 C dX7_tellText_10 rfl rfl ?_
      refine sv_iload 4 C dX7_tellText_11 rfl ?_
      obtain ⟨q13, hc13, hf⟩ := sv_bind_some hf
      refine gh_callV0 C mv_X7_70 (m_X7_signOf (sv_l X) E T sz _ _ _ _ _ hc13 hT o_a0) sv_sx0 o_a0 (by decide) rfl rfl rfl (Nat.le_of_ble_eq_true rfl) ⟨by rw [hR]; decide, by rw [hR]; decide⟩ ⟨by rw [hR]; decide, by rw [hR]; decide⟩ dX7_tellText_13 ?_
      refine sv_istore (lv' := [(5, .int q13.1), (0, .ref a0), (1, .int x1), (2, .ref a2), (3, .int x3), (4, .int x4)]) C dX7_tellText_16 (by rw [hN]; decide) rfl ?_
      refine sv_iload 0 C dX7_tellText_18 rfl ?_
      refine sv_bipush (v := 64) C dX7_tellText_20 (by decide) ?_
      refine sv_icmp_lt (tgt := 33) C dX7_tellText_22 (by decide) (fun c22 => ?_) (fun c22 => ?_)
      · replace hf := sv_if_t c22 hf
        refine sv_iload 0 C dX7_tellText_33 rfl ?_
        refine sv_sub (lv' := [(0, .ref a0), (1, .int x1), (2, .ref a2), (3, .int x3), (4, .int x4), (5, .int q13.1)]) [1, 2, 3, 4, 5, 0] rfl ?_
        exact w_X7_tellText_35 C hZ hR hN hT o_a0 o_a2 ih _ _ _ _ _ _ hf
      · replace hf := sv_if_f c22 hf
        refine sv_iload 0 C dX7_tellText_25 rfl ?_
        refine sv_bipush (v := 64) C dX7_tellText_27 (by decide) ?_
        refine sv_isub C dX7_tellText_29 ?_
        refine sv_goto (tgt := 35) C dX7_tellText_30 (by decide) ?_
        refine sv_sub (lv' := [(0, .ref a0), (1, .int x1), (2, .ref a2), (3, .int x3), (4, .int x4), (5, .int q13.1)]) [1, 2, 3, 4, 5, 0] rfl ?_
        exact w_X7_tellText_35 C hZ hR hN hT o_a0 o_a2 ih _ _ _ _ _ _ hf
set_option maxHeartbeats 4000000 in
set_option maxRecDepth 100000 in
theorem m_X7_tellText (l : Launch) (E : sv_E) (T : gh_T) (sz : Nat) (V : gh_V) (a0 : Nat) (x1 : Int32) (a2 : Nat) (x3 : Int32) (q : gh_V) (hf : f_X7_tellText T V a0 x1 a2 x3 = some q) (hT : gh_ok T) (o_a0 : gh_is T a0 7) (o_a2 : gh_is T a2 0) : sv_Met l E yX7_tellText cX7_tellText 7 none 1 27 [] [.ref a0, .int x1, .ref a2, .int x3] (gh_w E T V) sz none (gh_w E T q) sz 0 0 := by
  refine sv_ofJ (by decide) (Nat.le_of_ble_eq_true rfl) ?_
  intro X hX hN hnm hR C hZ
  replace C : sv_C E X cX7_tellText RX7 [] := C
  show sv_J E X (gh_w E T V) sz 0 0 0 [(0, .ref a0), (1, .int x1), (2, .ref a2), (3, .int x3)] []
  rw [f_X7_tellText] at hf
  refine sv_iconst (v := 0) C dX7_tellText_0 (by decide) ?_
  refine sv_istore (lv' := [(4, .int 0), (0, .ref a0), (1, .int x1), (2, .ref a2), (3, .int x3)]) C dX7_tellText_1 (by rw [hN]; decide) rfl ?_
  refine sv_sub (lv' := [(0, .ref a0), (1, .int x1), (2, .ref a2), (3, .int x3), (4, .int 0)]) [1, 2, 3, 4, 0] rfl ?_
  exact w_X7_tellText_3 C hZ hR hN hT o_a0 o_a2 sv_fu _ _ _ _ hf
def f_X7_tell_138 (T : gh_T) (a0 : Nat) (a2 : Nat) (k37 : gh_V → Nat → Int32 → Option (gh_V)) (V : gh_V) (jx3 : Nat) (x4 : Int32) : Option (gh_V) :=
  k37 V jx3 (x4 + 2)
def f_X7_tell_133 (T : gh_T) (a0 : Nat) (a2 : Nat) (k37 : gh_V → Nat → Int32 → Option (gh_V)) (V : gh_V) (jx3 : Nat) (x4 : Int32) (x6 : Int32) (s0 : Int32) : Option (gh_V) :=
  (f_X0_append T V a2 s0 x6).bind (fun q135 =>
    f_X7_tell_138 T a0 a2 k37 q135 jx3 x4)
def f_X7_tell_114 (T : gh_T) (a0 : Nat) (a2 : Nat) (k37 : gh_V → Nat → Int32 → Option (gh_V)) (V : gh_V) (jx3 : Nat) (x4 : Int32) (x5 : Int32) (x6 : Int32) (s0 : Int32) : Option (gh_V) :=
  if s0 = 0 then
    f_X7_tell_133 T a0 a2 k37 V jx3 x4 x6 0
  else
    (T.2.2.1 0 a0).bind (fun b123 =>
      sv_g (sv_inb x5 (T.2.2.2.1 b123)) (
        f_X7_tell_133 T a0 a2 k37 V jx3 x4 x6 (V.2 b123 x5.toNatClampNeg)))
def f_X7_tell_113 (T : gh_T) (a0 : Nat) (a2 : Nat) (k37 : gh_V → Nat → Int32 → Option (gh_V)) (V : gh_V) (jx3 : Nat) (x4 : Int32) (x5 : Int32) (x6 : Int32) : Option (gh_V) :=
  f_X7_tell_114 T a0 a2 k37 V jx3 x4 x5 x6 0
def f_X7_tell_37 (T : gh_T) (a0 : Nat) (a2 : Nat) : Nat → gh_V → Nat → Int32 → Option (gh_V)
  | 0, _, _, _ => none
  | n + 1, V, jx3, x4 =>
    (sv_sta[jx3]?).bind (fun w42 =>
      if (Int32.ofNat w42.2.2.length) ≤ (x4 + 1) then
        some (V)
      else
        (sv_sta[jx3]?).bind (fun w49 =>
          sv_g (sv_inb x4 w49.2.2.length) (
            (sv_sta[jx3]?).bind (fun w57 =>
              sv_g (sv_inb (x4 + 1) w57.2.2.length) (
                if (w49.2.2.getD x4.toNatClampNeg 0) < 30 then
                  if (w49.2.2.getD x4.toNatClampNeg 0) < 0 then
                    f_X7_tell_113 T a0 a2 (f_X7_tell_37 T a0 a2 n) V jx3 x4 (w49.2.2.getD x4.toNatClampNeg 0) (w57.2.2.getD (x4 + 1).toNatClampNeg 0)
                  else
                    if 24 ≤ (w49.2.2.getD x4.toNatClampNeg 0) then
                      f_X7_tell_113 T a0 a2 (f_X7_tell_37 T a0 a2 n) V jx3 x4 (w49.2.2.getD x4.toNatClampNeg 0) (w57.2.2.getD (x4 + 1).toNatClampNeg 0)
                    else
                      (T.2.2.1 0 a0).bind (fun b98 =>
                        sv_g (sv_inb (w49.2.2.getD x4.toNatClampNeg 0) (T.2.2.2.1 b98)) (
                          if (V.2 b98 (w49.2.2.getD x4.toNatClampNeg 0).toNatClampNeg) = (-2147483648) then
                            f_X7_tell_113 T a0 a2 (f_X7_tell_37 T a0 a2 n) V jx3 x4 (w49.2.2.getD x4.toNatClampNeg 0) (w57.2.2.getD (x4 + 1).toNatClampNeg 0)
                          else
                            f_X7_tell_114 T a0 a2 (f_X7_tell_37 T a0 a2 n) V jx3 x4 (w49.2.2.getD x4.toNatClampNeg 0) (w57.2.2.getD (x4 + 1).toNatClampNeg 0) 1))
                else
                  (f_X7_tellText T V a0 ((w49.2.2.getD x4.toNatClampNeg 0) - 30) a2 ((w57.2.2.getD (x4 + 1).toNatClampNeg 0) / 6)).bind (fun q79 =>
                    f_X7_tell_138 T a0 a2 (f_X7_tell_37 T a0 a2 n) q79 jx3 x4))))))
def f_X7_tell (T : gh_T) (V : gh_V) (a0 : Nat) (x1 : Int32) (a2 : Nat) : Option (gh_V) :=
  (f_X0_empty T V a2).bind (fun q1 =>
    (f_X0_append T q1 a2 x1 6).bind (fun q8 =>
      (f_X0_append T q8 a2 0 2).bind (fun q14 =>
        (T.2.2.1 0 a0).bind (fun b19 =>
          sv_g (sv_inb (0 : Int32) (T.2.2.2.1 b19)) (
            (f_X0_append T q14 a2 (q14.2 b19 (0 : Int32).toNatClampNeg) 30).bind (fun q26 =>
              (f_X7_layoutOf T q26 x1).bind (fun q30 =>
                f_X7_tell_37 T a0 a2 sv_fu q30.2 q30.1 0)))))))
set_option maxHeartbeats 4000000 in
set_option maxRecDepth 100000 in
theorem w_X7_tell_138 {E : sv_E} {X : sv_X} {sz : Nat} {q : gh_V} {T : gh_T} {a0 : Nat} {a2 : Nat} (C : sv_C E X cX7_tell RX7 []) (hZ : sv_Z E X none none (gh_w E T q) sz 0 0) (hR : sv_R X = { frames := 2, cells := 0, slots := 0, locals := 53 }) (hN : sv_nL X = 8) (hT : gh_ok T) (o_a0 : gh_is T a0 7) (o_a2 : gh_is T a2 0) {k37 : gh_V → Nat → Int32 → Option (gh_V)} (hk37 : ∀ (V : gh_V) (jx3 : Nat) (x4 : Int32), k37 V jx3 x4 = some q → sv_J E X (gh_w E T V) sz 0 0 37 [(0, .ref a0), (2, .ref a2), (3, .ref (E.2.2.2.2 jx3)), (4, .int x4)] []) (V : gh_V) (jx3 : Nat) (x4 : Int32) (hf : f_X7_tell_138 T a0 a2 k37 V jx3 x4 = some q) : sv_J E X (gh_w E T V) sz 0 0 138 [(0, .ref a0), (2, .ref a2), (3, .ref (E.2.2.2.2 jx3)), (4, .int x4)] [] := by
  rw [f_X7_tell_138] at hf
  refine sv_iinc (v := x4 + 2) (lv' := [(4, .int (x4 + 2)), (0, .ref a0), (2, .ref a2), (3, .ref (E.2.2.2.2 jx3))]) 3 C dX7_tell_138 rfl rfl (by rw [hN]; decide) rfl ?_
  refine sv_goto (tgt := 37) C dX7_tell_141 (by decide) ?_
  refine sv_sub (lv' := [(0, .ref a0), (2, .ref a2), (3, .ref (E.2.2.2.2 jx3)), (4, .int (x4 + 2))]) [1, 2, 3, 0] rfl ?_
  exact hk37 _ _ _ hf
set_option maxHeartbeats 4000000 in
set_option maxRecDepth 100000 in
theorem w_X7_tell_133 {E : sv_E} {X : sv_X} {sz : Nat} {q : gh_V} {T : gh_T} {a0 : Nat} {a2 : Nat} (C : sv_C E X cX7_tell RX7 []) (hZ : sv_Z E X none none (gh_w E T q) sz 0 0) (hR : sv_R X = { frames := 2, cells := 0, slots := 0, locals := 53 }) (hN : sv_nL X = 8) (hT : gh_ok T) (o_a0 : gh_is T a0 7) (o_a2 : gh_is T a2 0) {k37 : gh_V → Nat → Int32 → Option (gh_V)} (hk37 : ∀ (V : gh_V) (jx3 : Nat) (x4 : Int32), k37 V jx3 x4 = some q → sv_J E X (gh_w E T V) sz 0 0 37 [(0, .ref a0), (2, .ref a2), (3, .ref (E.2.2.2.2 jx3)), (4, .int x4)] []) (V : gh_V) (jx3 : Nat) (x4 : Int32) (x6 : Int32) (s0 : Int32) (hf : f_X7_tell_133 T a0 a2 k37 V jx3 x4 x6 s0 = some q) : sv_J E X (gh_w E T V) sz 0 0 133 [(0, .ref a0), (2, .ref a2), (3, .ref (E.2.2.2.2 jx3)), (4, .int x4), (6, .int x6)] [.int s0, .ref a2] := by
  rw [f_X7_tell_133] at hf
  refine sv_iload 4 C dX7_tell_133 rfl ?_
  obtain ⟨q135, hc135, hf⟩ := sv_bind_some hf
  refine gh_callV0 C mv_X7_62 (m_X0_append (sv_l X) E T sz _ _ _ _ _ hc135 hT o_a2) sv_sx0 o_a2 (by decide) rfl rfl rfl (Nat.le_of_ble_eq_true rfl) ⟨by rw [hR]; decide, by rw [hR]; decide⟩ ⟨by rw [hR]; decide, by rw [hR]; decide⟩ dX7_tell_135 ?_
  refine sv_sub (lv' := [(0, .ref a0), (2, .ref a2), (3, .ref (E.2.2.2.2 jx3)), (4, .int x4)]) [0, 1, 2, 3] rfl ?_
  exact w_X7_tell_138 C hZ hR hN hT o_a0 o_a2 hk37 _ _ _ hf
set_option maxHeartbeats 4000000 in
set_option maxRecDepth 100000 in
theorem w_X7_tell_114 {E : sv_E} {X : sv_X} {sz : Nat} {q : gh_V} {T : gh_T} {a0 : Nat} {a2 : Nat} (C : sv_C E X cX7_tell RX7 []) (hZ : sv_Z E X none none (gh_w E T q) sz 0 0) (hR : sv_R X = { frames := 2, cells := 0, slots := 0, locals := 53 }) (hN : sv_nL X = 8) (hT : gh_ok T) (o_a0 : gh_is T a0 7) (o_a2 : gh_is T a2 0) {k37 : gh_V → Nat → Int32 → Option (gh_V)} (hk37 : ∀ (V : gh_V) (jx3 : Nat) (x4 : Int32), k37 V jx3 x4 = some q → sv_J E X (gh_w E T V) sz 0 0 37 [(0, .ref a0), (2, .ref a2), (3, .ref (E.2.2.2.2 jx3)), (4, .int x4)] []) (V : gh_V) (jx3 : Nat) (x4 : Int32) (x5 : Int32) (x6 : Int32) (s0 : Int32) (hf : f_X7_tell_114 T a0 a2 k37 V jx3 x4 x5 x6 s0 = some q) : sv_J E X (gh_w E T V) sz 0 0 114 [(0, .ref a0), (2, .ref a2), (3, .ref (E.2.2.2.2 jx3)), (4, .int x4), (5, .int x5), (6, .int x6)] [.int s0] := by
  rw [f_X7_tell_114] at hf
  refine sv_istore (lv' := [(7, .int s0), (0, .ref a0), (2, .ref a2), (3, .ref (E.2.2.2.2 jx3)), (4, .int x4), (5, .int x5), (6, .int x6)]) C dX7_tell_114 (by rw [hN]; decide) rfl ?_
  refine sv_aload_n 2 C dX7_tell_116 rfl rfl ?_
  refine sv_iload 0 C dX7_tell_117 rfl ?_
  refine sv_if_eq (tgt := 132) C dX7_tell_119 (by decide) (fun c119 => ?_) (fun c119 => ?_)
  · replace hf := sv_if_t c119 hf
    refine sv_iconst (v := 0) C dX7_tell_132 (by decide) ?_
    refine sv_sub (lv' := [(0, .ref a0), (2, .ref a2), (3, .ref (E.2.2.2.2 jx3)), (4, .int x4), (6, .int x6)]) [1, 2, 3, 4, 6] rfl ?_
    exact w_X7_tell_133 C hZ hR hN hT o_a0 o_a2 hk37 _ _ _ _ _ hf
  · replace hf := sv_if_f c119 hf
    refine sv_aload_n 1 C dX7_tell_122 rfl rfl ?_
    obtain ⟨b123, hb123, hf⟩ := sv_bind_some hf
    have o_b123 : gh_is T b123 10 := gh_okr hT o_a0 rfl hb123
    refine gh_getr (d := 10) C fl_X7_11 o_a0 (by decide) (by decide) hb123 dX7_tell_123 ?_
    refine sv_iload 5 C dX7_tell_126 rfl ?_
    obtain ⟨g128, hf⟩ := sv_g_some hf
    refine gh_iald C o_b123 g128 dX7_tell_128 ?_
    refine sv_goto (tgt := 133) C dX7_tell_129 (by decide) ?_
    refine sv_sub (lv' := [(0, .ref a0), (2, .ref a2), (3, .ref (E.2.2.2.2 jx3)), (4, .int x4), (6, .int x6)]) [1, 2, 3, 4, 6] rfl ?_
    exact w_X7_tell_133 C hZ hR hN hT o_a0 o_a2 hk37 _ _ _ _ _ hf
set_option maxHeartbeats 4000000 in
set_option maxRecDepth 100000 in
theorem w_X7_tell_113 {E : sv_E} {X : sv_X} {sz : Nat} {q : gh_V} {T : gh_T} {a0 : Nat} {a2 : Nat} (C : sv_C E X cX7_tell RX7 []) (hZ : sv_Z E X none none (gh_w E T q) sz 0 0) (hR : sv_R X = { frames := 2, cells := 0, slots := 0, locals := 53 }) (hN : sv_nL X = 8) (hT : gh_ok T) (o_a0 : gh_is T a0 7) (o_a2 : gh_is T a2 0) {k37 : gh_V → Nat → Int32 → Option (gh_V)} (hk37 : ∀ (V : gh_V) (jx3 : Nat) (x4 : Int32), k37 V jx3 x4 = some q → sv_J E X (gh_w E T V) sz 0 0 37 [(0, .ref a0), (2, .ref a2), (3, .ref (E.2.2.2.2 jx3)), (4, .int x4)] []) (V : gh_V) (jx3 : Nat) (x4 : Int32) (x5 : Int32) (x6 : Int32) (hf : f_X7_tell_113 T a0 a2 k37 V jx3 x4 x5 x6 = some q) : sv_J E X (gh_w E T V) sz 0 0 113 [(0, .ref a0), (2, .ref a2), (3, .ref (E.2.2.2.2 jx3)), (4, .int x4), (5, .int x5), (6, .int x6)] [] := by
  rw [f_X7_tell_113] at hf
  refine sv_iconst (v := 0) C dX7_tell_113 (by decide) ?_
  refine sv_sub (lv' := [(0, .ref a0), (2, .ref a2), (3, .ref (E.2.2.2.2 jx3)), (4, .int x4), (5, .int x5), (6, .int x6)]) [0, 1, 2, 3, 4, 5] rfl ?_
  exact w_X7_tell_114 C hZ hR hN hT o_a0 o_a2 hk37 _ _ _ _ _ _ hf
set_option maxHeartbeats 4000000 in
set_option maxRecDepth 100000 in
theorem w_X7_tell_37 {E : sv_E} {X : sv_X} {sz : Nat} {q : gh_V} {T : gh_T} {a0 : Nat} {a2 : Nat} (C : sv_C E X cX7_tell RX7 []) (hZ : sv_Z E X none none (gh_w E T q) sz 0 0) (hR : sv_R X = { frames := 2, cells := 0, slots := 0, locals := 53 }) (hN : sv_nL X = 8) (hT : gh_ok T) (o_a0 : gh_is T a0 7) (o_a2 : gh_is T a2 0) : ∀ (n : Nat) (V : gh_V) (jx3 : Nat) (x4 : Int32), f_X7_tell_37 T a0 a2 n V jx3 x4 = some q → sv_J E X (gh_w E T V) sz 0 0 37 [(0, .ref a0), (2, .ref a2), (3, .ref (E.2.2.2.2 jx3)), (4, .int x4)] [] := by
  intro n
  induction n with
  | zero =>
    intro V jx3 x4 hf
    rw [f_X7_tell_37] at hf
    cases hf
  | succ n ih =>
    intro V jx3 x4 hf
    rw [f_X7_tell_37] at hf
    refine sv_iload 3 C dX7_tell_37 rfl ?_
    refine sv_iconst (v := 1) C dX7_tell_39 (by decide) ?_
    refine sv_iadd C dX7_tell_40 ?_
    refine sv_aload_n 2 C dX7_tell_41 rfl rfl ?_
    obtain ⟨w42, hw42, hf⟩ := sv_bind_some hf
    refine gs_alen C hw42 dX7_tell_42 ?_
    refine sv_icmp_ge (tgt := 144) C dX7_tell_43 (by decide) (fun c43 => ?_) (fun c43 => ?_)
    · replace hf := sv_if_t c43 hf
      exact sv_vret C (by cases hf; exact hZ) dX7_tell_144
    · replace hf := sv_if_f c43 hf
      refine sv_aload_n 2 C dX7_tell_46 rfl rfl ?_
      refine sv_iload 3 C dX7_tell_47 rfl ?_
      obtain ⟨w49, hw49, hf⟩ := sv_bind_some hf
      obtain ⟨g49, hf⟩ := sv_g_some hf
      refine gs_iald C hw49 g49 dX7_tell_49 ?_
      refine sv_istore (lv' := [(5, .int (w49.2.2.getD x4.toNatClampNeg 0)), (0, .ref a0), (2, .ref a2), (3, .ref (E.2.2.2.2 jx3)), (4, .int x4)]) C dX7_tell_50 (by rw [hN]; decide) rfl ?_
      refine sv_aload_n 3 C dX7_tell_52 rfl rfl ?_
      refine sv_iload 4 C dX7_tell_53 rfl ?_
      refine sv_iconst (v := 1) C dX7_tell_55 (by decide) ?_
      refine sv_iadd C dX7_tell_56 ?_
      obtain ⟨w57, hw57, hf⟩ := sv_bind_some hf
      obtain ⟨g57, hf⟩ := sv_g_some hf
      refine gs_iald C hw57 g57 dX7_tell_57 ?_
      refine sv_istore (lv' := [(6, .int (w57.2.2.getD (x4 + 1).toNatClampNeg 0)), (5, .int (w49.2.2.getD x4.toNatClampNeg 0)), (0, .ref a0), (2, .ref a2), (3, .ref (E.2.2.2.2 jx3)), (4, .int x4)]) C dX7_tell_58 (by rw [hN]; decide) rfl ?_
      refine sv_iload 1 C dX7_tell_60 rfl ?_
      refine sv_bipush (v := 30) C dX7_tell_62 (by decide) ?_
      refine sv_icmp_lt (tgt := 85) C dX7_tell_64 (by decide) (fun c64 => ?_) (fun c64 => ?_)
      · replace hf := sv_if_t c64 hf
        refine sv_iload 1 C dX7_tell_85 rfl ?_
        refine sv_if_lt (tgt := 113) C dX7_tell_87 (by decide) (fun c87 => ?_) (fun c87 => ?_)
        · replace hf := sv_if_t c87 hf
          refine sv_sub (lv' := [(0, .ref a0), (2, .ref a2), (3, .ref (E.2.2.2.2 jx3)), (4, .int x4), (5, .int (w49.2.2.getD x4.toNatClampNeg 0)), (6, .int (w57.2.2.getD (x4 + 1).toNatClampNeg 0))]) [2, 3, 4, 5, 1, 0] rfl ?_
          exact w_X7_tell_113 C hZ hR hN hT o_a0 o_a2 ih _ _ _ _ _ hf
        · replace hf := sv_if_f c87 hf
          refine sv_iload 1 C dX7_tell_90 rfl ?_
          refine sv_bipush (v := 24) C dX7_tell_92 (by decide) ?_
          refine sv_icmp_ge (tgt := 113) C dX7_tell_94 (by decide) (fun c94 => ?_) (fun c94 => ?_)
          · replace hf := sv_if_t c94 hf
            refine sv_sub (lv' := [(0, .ref a0), (2, .ref a2), (3, .ref (E.2.2.2.2 jx3)), (4, .int x4), (5, .int (w49.2.2.getD x4.toNatClampNeg 0)), (6, .int (w57.2.2.getD (x4 + 1).toNatClampNeg 0))]) [2, 3, 4, 5, 1, 0] rfl ?_
            exact w_X7_tell_113 C hZ hR hN hT o_a0 o_a2 ih _ _ _ _ _ hf
          · replace hf := sv_if_f c94 hf
            refine sv_aload_n 2 C dX7_tell_97 rfl rfl ?_
            obtain ⟨b98, hb98, hf⟩ := sv_bind_some hf
            have o_b98 : gh_is T b98 10 := gh_okr hT o_a0 rfl hb98
            refine gh_getr (d := 10) C fl_X7_11 o_a0 (by decide) (by decide) hb98 dX7_tell_98 ?_
            refine sv_iload 1 C dX7_tell_101 rfl ?_
            obtain ⟨g103, hf⟩ := sv_g_some hf
            refine gh_iald C o_b98 g103 dX7_tell_103 ?_
            refine sv_ldc C kw_210 dX7_tell_104 ?_
            refine sv_icmp_eq (tgt := 113) C dX7_tell_106 (by decide) (fun c106 => ?_) (fun c106 => ?_)
            · replace hf := sv_if_t c106 hf
              refine sv_sub (lv' := [(0, .ref a0), (2, .ref a2), (3, .ref (E.2.2.2.2 jx3)), (4, .int x4), (5, .int (w49.2.2.getD x4.toNatClampNeg 0)), (6, .int (w57.2.2.getD (x4 + 1).toNatClampNeg 0))]) [2, 3, 4, 5, 1, 0] rfl ?_
              exact w_X7_tell_113 C hZ hR hN hT o_a0 o_a2 ih _ _ _ _ _ hf
            · replace hf := sv_if_f c106 hf
              refine sv_iconst (v := 1) C dX7_tell_109 (by decide) ?_
              refine sv_goto (tgt := 114) C dX7_tell_110 (by decide) ?_
              refine sv_sub (lv' := [(0, .ref a0), (2, .ref a2), (3, .ref (E.2.2.2.2 jx3)), (4, .int x4), (5, .int (w49.2.2.getD x4.toNatClampNeg 0)), (6, .int (w57.2.2.getD (x4 + 1).toNatClampNeg 0))]) [2, 3, 4, 5, 1, 0] rfl ?_
              exact w_X7_tell_114 C hZ hR hN hT o_a0 o_a2 ih _ _ _ _ _ _ hf
      · replace hf := sv_if_f c64 hf
        refine sv_aload_n 2 C dX7_tell_67 rfl rfl ?_
        refine sv_iload 1 C dX7_tell_68 rfl ?_
        refine sv_bipush (v := 30) C dX7_tell_70 (by decide) ?_
        refine sv_isub C dX7_tell_72 ?_
        refine sv_aload_n 3 C dX7_tell_73 rfl rfl ?_
        refine sv_iload 0 C dX7_tell_74 rfl ?_
        refine sv_bipush (v := 6) C dX7_tell_76 (by decide) ?_
        refine sv_idiv C dX7_tell_78 (by decide) ?_
        obtain ⟨q79, hc79, hf⟩ := sv_bind_some hf
        refine gh_callV0 C mv_X7_66 (m_X7_tellText (sv_l X) E T sz _ _ _ _ _ _ hc79 hT o_a0 o_a2) sv_sx0 o_a0 (by decide) rfl rfl rfl (Nat.le_of_ble_eq_true rfl) ⟨by rw [hR]; decide, by rw [hR]; decide⟩ ⟨by rw [hR]; decide, by rw [hR]; decide⟩ dX7_tell_79 ?_
        refine sv_goto (tgt := 138) C dX7_tell_82 (by decide) ?_
        refine sv_sub (lv' := [(0, .ref a0), (2, .ref a2), (3, .ref (E.2.2.2.2 jx3)), (4, .int x4)]) [2, 3, 4, 5] rfl ?_
        exact w_X7_tell_138 C hZ hR hN hT o_a0 o_a2 ih _ _ _ hf
set_option maxHeartbeats 4000000 in
set_option maxRecDepth 100000 in
theorem m_X7_tell (l : Launch) (E : sv_E) (T : gh_T) (sz : Nat) (V : gh_V) (a0 : Nat) (x1 : Int32) (a2 : Nat) (q : gh_V) (hf : f_X7_tell T V a0 x1 a2 = some q) (hT : gh_ok T) (o_a0 : gh_is T a0 7) (o_a2 : gh_is T a2 0) : sv_Met l E yX7_tell cX7_tell 8 none 2 53 [] [.ref a0, .int x1, .ref a2] (gh_w E T V) sz none (gh_w E T q) sz 0 0 := by
  refine sv_ofJ (by decide) (Nat.le_of_ble_eq_true rfl) ?_
  intro X hX hN hnm hR C hZ
  replace C : sv_C E X cX7_tell RX7 [] := C
  show sv_J E X (gh_w E T V) sz 0 0 0 [(0, .ref a0), (1, .int x1), (2, .ref a2)] []
  rw [f_X7_tell] at hf
  refine sv_aload_n 2 C dX7_tell_0 rfl rfl ?_
  obtain ⟨q1, hc1, hf⟩ := sv_bind_some hf
  refine gh_callV0 C mv_X7_59 (m_X0_empty (sv_l X) E T sz _ _ _ hc1 hT o_a2) sv_sx0 o_a2 (by decide) rfl rfl rfl (Nat.le_of_ble_eq_true rfl) ⟨by rw [hR]; decide, by rw [hR]; decide⟩ ⟨by rw [hR]; decide, by rw [hR]; decide⟩ dX7_tell_1 ?_
  refine sv_aload_n 2 C dX7_tell_4 rfl rfl ?_
  refine sv_iload_n 1 C dX7_tell_5 rfl rfl ?_
  refine sv_bipush (v := 6) C dX7_tell_6 (by decide) ?_
  obtain ⟨q8, hc8, hf⟩ := sv_bind_some hf
  refine gh_callV0 C mv_X7_62 (m_X0_append (sv_l X) E T sz _ _ _ _ _ hc8 hT o_a2) sv_sx0 o_a2 (by decide) rfl rfl rfl (Nat.le_of_ble_eq_true rfl) ⟨by rw [hR]; decide, by rw [hR]; decide⟩ ⟨by rw [hR]; decide, by rw [hR]; decide⟩ dX7_tell_8 ?_
  refine sv_aload_n 2 C dX7_tell_11 rfl rfl ?_
  refine sv_iconst (v := 0) C dX7_tell_12 (by decide) ?_
  refine sv_iconst (v := 2) C dX7_tell_13 (by decide) ?_
  obtain ⟨q14, hc14, hf⟩ := sv_bind_some hf
  refine gh_callV0 C mv_X7_62 (m_X0_append (sv_l X) E T sz _ _ _ _ _ hc14 hT o_a2) sv_sx0 o_a2 (by decide) rfl rfl rfl (Nat.le_of_ble_eq_true rfl) ⟨by rw [hR]; decide, by rw [hR]; decide⟩ ⟨by rw [hR]; decide, by rw [hR]; decide⟩ dX7_tell_14 ?_
  refine sv_aload_n 2 C dX7_tell_17 rfl rfl ?_
  refine sv_aload_n 0 C dX7_tell_18 rfl rfl ?_
  obtain ⟨b19, hb19, hf⟩ := sv_bind_some hf
  have o_b19 : gh_is T b19 10 := gh_okr hT o_a0 rfl hb19
  refine gh_getr (d := 10) C fl_X7_11 o_a0 (by decide) (by decide) hb19 dX7_tell_19 ?_
  refine sv_iconst (v := 0) C dX7_tell_22 (by decide) ?_
  obtain ⟨g23, hf⟩ := sv_g_some hf
  refine gh_iald C o_b19 g23 dX7_tell_23 ?_
  refine sv_bipush (v := 30) C dX7_tell_24 (by decide) ?_
  obtain ⟨q26, hc26, hf⟩ := sv_bind_some hf
  refine gh_callV0 C mv_X7_62 (m_X0_append (sv_l X) E T sz _ _ _ _ _ hc26 hT o_a2) sv_sx0 o_a2 (by decide) rfl rfl rfl (Nat.le_of_ble_eq_true rfl) ⟨by rw [hR]; decide, by rw [hR]; decide⟩ ⟨by rw [hR]; decide, by rw [hR]; decide⟩ dX7_tell_26 ?_
  refine sv_iload_n 1 C dX7_tell_29 rfl rfl ?_
  obtain ⟨q30, hc30, hf⟩ := sv_bind_some hf
  refine sv_callS0 C ms_X7_41 (m_X7_layoutOf (sv_l X) E T sz _ _ _ hc30 hT) sv_sx0 rfl rfl (Nat.le_of_ble_eq_true rfl) ⟨by rw [hR]; decide, by rw [hR]; decide⟩ ⟨by rw [hR]; decide, by rw [hR]; decide⟩ dX7_tell_30 ?_
  refine sv_astore_n (lv' := [(3, .ref (E.2.2.2.2 q30.1)), (0, .ref a0), (1, .int x1), (2, .ref a2)]) C dX7_tell_33 rfl (by rw [hN]; decide) rfl ?_
  refine sv_iconst (v := 0) C dX7_tell_34 (by decide) ?_
  refine sv_istore (lv' := [(4, .int 0), (3, .ref (E.2.2.2.2 q30.1)), (0, .ref a0), (1, .int x1), (2, .ref a2)]) C dX7_tell_35 (by rw [hN]; decide) rfl ?_
  refine sv_sub (lv' := [(0, .ref a0), (2, .ref a2), (3, .ref (E.2.2.2.2 q30.1)), (4, .int 0)]) [2, 4, 1, 0] rfl ?_
  exact w_X7_tell_37 C hZ hR hN hT o_a0 o_a2 sv_fu _ _ _ hf
