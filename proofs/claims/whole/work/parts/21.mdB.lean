def f_X9_one_58 (t2 : List Int32) (k16 : md_B → Int32 → Int32 → Int32 → Option (Int32 × md_B)) (B : md_B) (x1 : Int32) (x4 : Int32) (s0 : Int32) : Option (Int32 × md_B) :=
  k16 B x1 s0 (x4 + 1)
def f_X9_one_53 (t2 : List Int32) (k16 : md_B → Int32 → Int32 → Int32 → Option (Int32 × md_B)) (B : md_B) (x1 : Int32) (x4 : Int32) : Option (Int32 × md_B) :=
  f_X9_one_58 t2 k16 B x1 x4 1
def f_X9_one_57 (t2 : List Int32) (k16 : md_B → Int32 → Int32 → Int32 → Option (Int32 × md_B)) (B : md_B) (x1 : Int32) (x4 : Int32) : Option (Int32 × md_B) :=
  f_X9_one_58 t2 k16 B x1 x4 0
def f_X9_one_16 (t2 : List Int32) : Nat → md_B → Int32 → Int32 → Int32 → Option (Int32 × md_B)
  | 0, _, _, _, _ => none
  | n + 1, B, x1, x3, x4 =>
    (f_J0_length_8abf5 t2).bind (fun q19 =>
      if q19 ≤ x4 then
        if x3 = 0 then
          (f_X9_bad B).bind (fun q79 =>
            some (q79.1, q79.2))
        else
          (f_X9_at B x1 0).bind (fun q72 =>
            some (q72.1, q72.2))
      else
        if x3 = 0 then
          (f_X9_size B x1).bind (fun q31 =>
            if q31.1 = 1 then
              (f_X9_at q31.2 x1 0).bind (fun q41 =>
                (f_J0_charAt_5068e t2 x4).bind (fun q47 =>
                  if q41.1 = q47 then
                    f_X9_one_53 t2 (f_X9_one_16 t2 n) q41.2 x1 x4
                  else
                    f_X9_one_57 t2 (f_X9_one_16 t2 n) q41.2 x1 x4))
            else
              f_X9_one_57 t2 (f_X9_one_16 t2 n) q31.2 x1 x4)
        else
          f_X9_one_53 t2 (f_X9_one_16 t2 n) B x1 x4)
def f_X9_one (B : md_B) (x1 : Int32) (t2 : List Int32) : Option (Int32 × md_B) :=
  (f_X9_size B x1).bind (fun q2 =>
    if q2.1 = 0 then
      some ((-2147483648), q2.2)
    else
      f_X9_one_16 t2 sv_fu q2.2 x1 0 0)
set_option maxHeartbeats 4000000 in
set_option maxRecDepth 100000 in
theorem w_X9_one_58 {E : sv_E} {X : sv_X} {sz : Nat} {q : Int32 × md_B} {h0 : Nat} {ad : Nat → Nat} {k2 v2 : Nat} {t2 : List Int32} (C : sv_C E X cX9_one RX9 [(k2, v2, t2)]) (hZ : sv_Z E X (some .int) (some (.int q.1)) (md_w E h0 ad q.2) sz 0 0) (hR : sv_R X = { frames := 4, cells := 0, slots := 0, locals := 85 }) (hN : sv_nL X = 5) {k16 : md_B → Int32 → Int32 → Int32 → Option (Int32 × md_B)} (hk16 : ∀ (B : md_B) (x1 : Int32) (x3 : Int32) (x4 : Int32), k16 B x1 x3 x4 = some q → sv_J E X (md_w E h0 ad B) sz 0 0 16 [(0, .ref h0), (1, .int x1), (2, .ref k2), (3, .int x3), (4, .int x4)] []) (B : md_B) (x1 : Int32) (x4 : Int32) (s0 : Int32) (hf : f_X9_one_58 t2 k16 B x1 x4 s0 = some q) : sv_J E X (md_w E h0 ad B) sz 0 0 58 [(0, .ref h0), (1, .int x1), (2, .ref k2), (4, .int x4)] [.int s0] := by
  rw [f_X9_one_58] at hf
  refine sv_istore_n (lv' := [(3, .int s0), (0, .ref h0), (1, .int x1), (2, .ref k2), (4, .int x4)]) C dX9_one_58 rfl (by rw [hN]; decide) rfl ?_
  refine sv_iinc (v := x4 + 1) (lv' := [(4, .int (x4 + 1)), (3, .int s0), (0, .ref h0), (1, .int x1), (2, .ref k2)]) 4 C dX9_one_59 rfl rfl (by rw [hN]; decide) rfl ?_
  refine sv_goto (tgt := 16) C dX9_one_62 (by decide) ?_
  refine sv_sub (lv' := [(0, .ref h0), (1, .int x1), (2, .ref k2), (3, .int s0), (4, .int (x4 + 1))]) [2, 3, 4, 1, 0] rfl ?_
  exact hk16 _ _ _ _ hf
set_option maxHeartbeats 4000000 in
set_option maxRecDepth 100000 in
theorem w_X9_one_53 {E : sv_E} {X : sv_X} {sz : Nat} {q : Int32 × md_B} {h0 : Nat} {ad : Nat → Nat} {k2 v2 : Nat} {t2 : List Int32} (C : sv_C E X cX9_one RX9 [(k2, v2, t2)]) (hZ : sv_Z E X (some .int) (some (.int q.1)) (md_w E h0 ad q.2) sz 0 0) (hR : sv_R X = { frames := 4, cells := 0, slots := 0, locals := 85 }) (hN : sv_nL X = 5) {k16 : md_B → Int32 → Int32 → Int32 → Option (Int32 × md_B)} (hk16 : ∀ (B : md_B) (x1 : Int32) (x3 : Int32) (x4 : Int32), k16 B x1 x3 x4 = some q → sv_J E X (md_w E h0 ad B) sz 0 0 16 [(0, .ref h0), (1, .int x1), (2, .ref k2), (3, .int x3), (4, .int x4)] []) (B : md_B) (x1 : Int32) (x4 : Int32) (hf : f_X9_one_53 t2 k16 B x1 x4 = some q) : sv_J E X (md_w E h0 ad B) sz 0 0 53 [(0, .ref h0), (1, .int x1), (2, .ref k2), (4, .int x4)] [] := by
  rw [f_X9_one_53] at hf
  refine sv_iconst (v := 1) C dX9_one_53 (by decide) ?_
  refine sv_goto (tgt := 58) C dX9_one_54 (by decide) ?_
  refine sv_sub (lv' := [(0, .ref h0), (1, .int x1), (2, .ref k2), (4, .int x4)]) [0, 1, 2, 3] rfl ?_
  exact w_X9_one_58 C hZ hR hN hk16 _ _ _ _ hf
set_option maxHeartbeats 4000000 in
set_option maxRecDepth 100000 in
theorem w_X9_one_57 {E : sv_E} {X : sv_X} {sz : Nat} {q : Int32 × md_B} {h0 : Nat} {ad : Nat → Nat} {k2 v2 : Nat} {t2 : List Int32} (C : sv_C E X cX9_one RX9 [(k2, v2, t2)]) (hZ : sv_Z E X (some .int) (some (.int q.1)) (md_w E h0 ad q.2) sz 0 0) (hR : sv_R X = { frames := 4, cells := 0, slots := 0, locals := 85 }) (hN : sv_nL X = 5) {k16 : md_B → Int32 → Int32 → Int32 → Option (Int32 × md_B)} (hk16 : ∀ (B : md_B) (x1 : Int32) (x3 : Int32) (x4 : Int32), k16 B x1 x3 x4 = some q → sv_J E X (md_w E h0 ad B) sz 0 0 16 [(0, .ref h0), (1, .int x1), (2, .ref k2), (3, .int x3), (4, .int x4)] []) (B : md_B) (x1 : Int32) (x4 : Int32) (hf : f_X9_one_57 t2 k16 B x1 x4 = some q) : sv_J E X (md_w E h0 ad B) sz 0 0 57 [(0, .ref h0), (1, .int x1), (2, .ref k2), (4, .int x4)] [] := by
  rw [f_X9_one_57] at hf
  refine sv_iconst (v := 0) C dX9_one_57 (by decide) ?_
  refine sv_sub (lv' := [(0, .ref h0), (1, .int x1), (2, .ref k2), (4, .int x4)]) [0, 1, 2, 3] rfl ?_
  exact w_X9_one_58 C hZ hR hN hk16 _ _ _ _ hf
set_option maxHeartbeats 4000000 in
set_option maxRecDepth 100000 in
theorem w_X9_one_16 {E : sv_E} {X : sv_X} {sz : Nat} {q : Int32 × md_B} {h0 : Nat} {ad : Nat → Nat} {k2 v2 : Nat} {t2 : List Int32} (C : sv_C E X cX9_one RX9 [(k2, v2, t2)]) (hZ : sv_Z E X (some .int) (some (.int q.1)) (md_w E h0 ad q.2) sz 0 0) (hR : sv_R X = { frames := 4, cells := 0, slots := 0, locals := 85 }) (hN : sv_nL X = 5) : ∀ (n : Nat) (B : md_B) (x1 : Int32) (x3 : Int32) (x4 : Int32), f_X9_one_16 t2 n B x1 x3 x4 = some q → sv_J E X (md_w E h0 ad B) sz 0 0 16 [(0, .ref h0), (1, .int x1), (2, .ref k2), (3, .int x3), (4, .int x4)] [] := by
  intro n
  induction n with
  | zero =>
    intro B x1 x3 x4 hf
    rw [f_X9_one_16] at hf
    cases hf
  | succ n ih =>
    intro B x1 x3 x4 hf
    rw [f_X9_one_16] at hf
    refine sv_iload 4 C dX9_one_16 rfl ?_
    refine sv_aload_n 2 C dX9_one_18 rfl rfl ?_
    obtain ⟨q19, hc19, hf⟩ := sv_bind_some hf
    refine ss_callV (v := v2) (t := t2) C mv_X9_187 (m_J0_length_8abf5 (sv_l X) E _ sz k2 v2 _ _ hc19) sv_sx1 (List.mem_cons_self) rfl rfl rfl (Nat.le_of_ble_eq_true rfl) ⟨by rw [hR]; decide, by rw [hR]; decide⟩ ⟨by rw [hR]; decide, by rw [hR]; decide⟩ dX9_one_19 ?_
    refine sv_icmp_ge (tgt := 65) C dX9_one_22 (by decide) (fun c22 => ?_) (fun c22 => ?_)
    · replace hf := sv_if_t c22 hf
      refine sv_iload_n 3 C dX9_one_65 rfl rfl ?_
      refine sv_if_eq (tgt := 78) C dX9_one_66 (by decide) (fun c66 => ?_) (fun c66 => ?_)
      · replace hf := sv_if_t c66 hf
        refine sv_aload_n 0 C dX9_one_78 rfl rfl ?_
        obtain ⟨q79, hc79, hf⟩ := sv_bind_some hf
        refine sv_callV0 C mv_X9_166 (m_X9_bad (sv_l X) E h0 ad sz _ _ hc79) sv_sx0 0 rfl rfl rfl rfl (Nat.le_of_ble_eq_true rfl) ⟨by rw [hR]; decide, by rw [hR]; decide⟩ ⟨by rw [hR]; decide, by rw [hR]; decide⟩ dX9_one_79 ?_
        exact sv_iret C (by cases hf; exact hZ) dX9_one_82
      · replace hf := sv_if_f c66 hf
        refine sv_aload_n 0 C dX9_one_69 rfl rfl ?_
        refine sv_iload_n 1 C dX9_one_70 rfl rfl ?_
        refine sv_iconst (v := 0) C dX9_one_71 (by decide) ?_
        obtain ⟨q72, hc72, hf⟩ := sv_bind_some hf
        refine sv_callV0 C mv_X9_156 (m_X9_at (sv_l X) E h0 ad sz _ _ _ _ hc72) sv_sx0 0 rfl rfl rfl rfl (Nat.le_of_ble_eq_true rfl) ⟨by rw [hR]; decide, by rw [hR]; decide⟩ ⟨by rw [hR]; decide, by rw [hR]; decide⟩ dX9_one_72 ?_
        refine sv_goto (tgt := 82) C dX9_one_75 (by decide) ?_
        exact sv_iret C (by cases hf; exact hZ) dX9_one_82
    · replace hf := sv_if_f c22 hf
      refine sv_iload_n 3 C dX9_one_25 rfl rfl ?_
      refine sv_if_ne (tgt := 53) C dX9_one_26 (by decide) (fun c26 => ?_) (fun c26 => ?_)
      · replace hf := sv_if_f c26 hf
        refine sv_sub (lv' := [(0, .ref h0), (1, .int x1), (2, .ref k2), (4, .int x4)]) [0, 1, 2, 4] rfl ?_
        exact w_X9_one_53 C hZ hR hN ih _ _ _ hf
      · replace hf := sv_if_t c26 hf
        refine sv_aload_n 0 C dX9_one_29 rfl rfl ?_
        refine sv_iload_n 1 C dX9_one_30 rfl rfl ?_
        obtain ⟨q31, hc31, hf⟩ := sv_bind_some hf
        refine sv_callV0 C mv_X9_153 (m_X9_size (sv_l X) E h0 ad sz _ _ _ hc31) sv_sx0 0 rfl rfl rfl rfl (Nat.le_of_ble_eq_true rfl) ⟨by rw [hR]; decide, by rw [hR]; decide⟩ ⟨by rw [hR]; decide, by rw [hR]; decide⟩ dX9_one_31 ?_
        refine sv_iconst (v := 1) C dX9_one_34 (by decide) ?_
        refine sv_icmp_ne (tgt := 57) C dX9_one_35 (by decide) (fun c35 => ?_) (fun c35 => ?_)
        · replace hf := sv_if_f c35 hf
          refine sv_sub (lv' := [(0, .ref h0), (1, .int x1), (2, .ref k2), (4, .int x4)]) [0, 1, 2, 4] rfl ?_
          exact w_X9_one_57 C hZ hR hN ih _ _ _ hf
        · replace hf := sv_if_t c35 hf
          refine sv_aload_n 0 C dX9_one_38 rfl rfl ?_
          refine sv_iload_n 1 C dX9_one_39 rfl rfl ?_
          refine sv_iconst (v := 0) C dX9_one_40 (by decide) ?_
          obtain ⟨q41, hc41, hf⟩ := sv_bind_some hf
          refine sv_callV0 C mv_X9_156 (m_X9_at (sv_l X) E h0 ad sz _ _ _ _ hc41) sv_sx0 0 rfl rfl rfl rfl (Nat.le_of_ble_eq_true rfl) ⟨by rw [hR]; decide, by rw [hR]; decide⟩ ⟨by rw [hR]; decide, by rw [hR]; decide⟩ dX9_one_41 ?_
          refine sv_aload_n 2 C dX9_one_44 rfl rfl ?_
          refine sv_iload 4 C dX9_one_45 rfl ?_
          obtain ⟨q47, hc47, hf⟩ := sv_bind_some hf
          refine ss_callV (v := v2) (t := t2) C mv_X9_127 (m_J0_charAt_5068e (sv_l X) E _ sz k2 v2 _ _ _ hc47) sv_sx1 (List.mem_cons_self) rfl rfl rfl (Nat.le_of_ble_eq_true rfl) ⟨by rw [hR]; decide, by rw [hR]; decide⟩ ⟨by rw [hR]; decide, by rw [hR]; decide⟩ dX9_one_47 ?_
          refine sv_icmp_ne (tgt := 57) C dX9_one_50 (by decide) (fun c50 => ?_) (fun c50 => ?_)
          · replace hf := sv_if_f c50 hf
            refine sv_sub (lv' := [(0, .ref h0), (1, .int x1), (2, .ref k2), (4, .int x4)]) [0, 1, 2, 4] rfl ?_
            exact w_X9_one_57 C hZ hR hN ih _ _ _ hf
          · replace hf := sv_if_t c50 hf
            refine sv_sub (lv' := [(0, .ref h0), (1, .int x1), (2, .ref k2), (4, .int x4)]) [0, 1, 2, 4] rfl ?_
            exact w_X9_one_53 C hZ hR hN ih _ _ _ hf
set_option maxHeartbeats 4000000 in
set_option maxRecDepth 100000 in
theorem m_X9_one (l : Launch) (E : sv_E) (h0 : Nat) (ad : Nat → Nat) (sz : Nat) (k2 v2 : Nat) (B : md_B) (x1 : Int32) (t2 : List Int32) (q : Int32 × md_B) (hf : f_X9_one B x1 t2 = some q) : sv_Met l E yX9_one cX9_one 5 (some .int) 4 85 [(k2, v2, t2)] [.ref h0, .int x1, .ref k2] (md_w E h0 ad B) sz (some (.int q.1)) (md_w E h0 ad q.2) sz 0 0 := by
  refine sv_ofJ (by decide) (Nat.le_of_ble_eq_true rfl) ?_
  intro X hX hN hnm hR C hZ
  replace C : sv_C E X cX9_one RX9 [(k2, v2, t2)] := C
  show sv_J E X (md_w E h0 ad B) sz 0 0 0 [(0, .ref h0), (1, .int x1), (2, .ref k2)] []
  rw [f_X9_one] at hf
  refine sv_aload_n 0 C dX9_one_0 rfl rfl ?_
  refine sv_iload_n 1 C dX9_one_1 rfl rfl ?_
  obtain ⟨q2, hc2, hf⟩ := sv_bind_some hf
  refine sv_callV0 C mv_X9_153 (m_X9_size (sv_l X) E h0 ad sz _ _ _ hc2) sv_sx0 0 rfl rfl rfl rfl (Nat.le_of_ble_eq_true rfl) ⟨by rw [hR]; decide, by rw [hR]; decide⟩ ⟨by rw [hR]; decide, by rw [hR]; decide⟩ dX9_one_2 ?_
  refine sv_if_ne (tgt := 11) C dX9_one_5 (by decide) (fun c5 => ?_) (fun c5 => ?_)
  · replace hf := sv_if_f c5 hf
    refine sv_iconst (v := 0) C dX9_one_11 (by decide) ?_
    refine sv_istore_n (lv' := [(3, .int 0), (0, .ref h0), (1, .int x1), (2, .ref k2)]) C dX9_one_12 rfl (by rw [hN]; decide) rfl ?_
    refine sv_iconst (v := 0) C dX9_one_13 (by decide) ?_
    refine sv_istore (lv' := [(4, .int 0), (3, .int 0), (0, .ref h0), (1, .int x1), (2, .ref k2)]) C dX9_one_14 (by rw [hN]; decide) rfl ?_
    refine sv_sub (lv' := [(0, .ref h0), (1, .int x1), (2, .ref k2), (3, .int 0), (4, .int 0)]) [2, 3, 4, 1, 0] rfl ?_
    exact w_X9_one_16 C hZ hR hN sv_fu _ _ _ _ hf
  · replace hf := sv_if_t c5 hf
    refine sv_ldc C kw_562 dX9_one_8 ?_
    exact sv_iret C (by cases hf; exact hZ) dX9_one_10
def f_X9_sided_31 (t3 : List Int32) (B : md_B) (x1 : Int32) (x4 : Int32) (s0 : Int32) (s1 : Int32) : Option (Int32 × md_B) :=
  if s1 = s0 then
    if x1 = (-2147483648) then
      some (x1, B)
    else
      (f_J0_charAt_5068e t3 1).bind (fun q49 =>
        if x4 = q49 then
          some (-x1, B)
        else
          some (x1, B))
  else
    (f_X9_bad B).bind (fun q35 =>
      some (q35.1, q35.2))
def f_X9_sided_19 (t3 : List Int32) (B : md_B) (x1 : Int32) (x4 : Int32) (s0 : Int32) : Option (Int32 × md_B) :=
  if x4 = (-2147483648) then
    f_X9_sided_31 t3 B x1 x4 1 s0
  else
    f_X9_sided_31 t3 B x1 x4 0 s0
def f_X9_sided (B : md_B) (x1 : Int32) (x2 : Int32) (t3 : List Int32) : Option (Int32 × md_B) :=
  (f_X9_one B x2 t3).bind (fun q3 =>
    if x1 = (-2147483648) then
      f_X9_sided_19 t3 q3.2 x1 q3.1 1
    else
      f_X9_sided_19 t3 q3.2 x1 q3.1 0)
set_option maxHeartbeats 4000000 in
set_option maxRecDepth 100000 in
theorem w_X9_sided_31 {E : sv_E} {X : sv_X} {sz : Nat} {q : Int32 × md_B} {h0 : Nat} {ad : Nat → Nat} {k3 v3 : Nat} {t3 : List Int32} (C : sv_C E X cX9_sided RX9 [(k3, v3, t3)]) (hZ : sv_Z E X (some .int) (some (.int q.1)) (md_w E h0 ad q.2) sz 0 0) (hR : sv_R X = { frames := 5, cells := 0, slots := 0, locals := 109 }) (hN : sv_nL X = 5) (B : md_B) (x1 : Int32) (x4 : Int32) (s0 : Int32) (s1 : Int32) (hf : f_X9_sided_31 t3 B x1 x4 s0 s1 = some q) : sv_J E X (md_w E h0 ad B) sz 0 0 31 [(0, .ref h0), (1, .int x1), (3, .ref k3), (4, .int x4)] [.int s0, .int s1] := by
  rw [f_X9_sided_31] at hf
  refine sv_icmp_eq (tgt := 39) C dX9_sided_31 (by decide) (fun c31 => ?_) (fun c31 => ?_)
  · replace hf := sv_if_t c31 hf
    refine sv_iload_n 1 C dX9_sided_39 rfl rfl ?_
    refine sv_ldc C kw_562 dX9_sided_40 ?_
    refine sv_icmp_eq (tgt := 60) C dX9_sided_42 (by decide) (fun c42 => ?_) (fun c42 => ?_)
    · replace hf := sv_if_t c42 hf
      refine sv_iload_n 1 C dX9_sided_60 rfl rfl ?_
      exact sv_iret C (by cases hf; exact hZ) dX9_sided_61
    · replace hf := sv_if_f c42 hf
      refine sv_iload 3 C dX9_sided_45 rfl ?_
      refine sv_aload_n 2 C dX9_sided_47 rfl rfl ?_
      refine sv_iconst (v := 1) C dX9_sided_48 (by decide) ?_
      obtain ⟨q49, hc49, hf⟩ := sv_bind_some hf
      refine ss_callV (v := v3) (t := t3) C mv_X9_127 (m_J0_charAt_5068e (sv_l X) E _ sz k3 v3 _ _ _ hc49) sv_sx1 (List.mem_cons_self) rfl rfl rfl (Nat.le_of_ble_eq_true rfl) ⟨by rw [hR]; decide, by rw [hR]; decide⟩ ⟨by rw [hR]; decide, by rw [hR]; decide⟩ dX9_sided_49 ?_
      refine sv_icmp_ne (tgt := 60) C dX9_sided_52 (by decide) (fun c52 => ?_) (fun c52 => ?_)
      · replace hf := sv_if_f c52 hf
        refine sv_iload_n 1 C dX9_sided_60 rfl rfl ?_
        exact sv_iret C (by cases hf; exact hZ) dX9_sided_61
      · replace hf := sv_if_t c52 hf
        refine sv_iload_n 1 C dX9_sided_55 rfl rfl ?_
        refine sv_ineg C dX9_sided_56 ?_
        refine sv_goto (tgt := 61) C dX9_sided_57 (by decide) ?_
        exact sv_iret C (by cases hf; exact hZ) dX9_sided_61
  · replace hf := sv_if_f c31 hf
    refine sv_aload_n 0 C dX9_sided_34 rfl rfl ?_
    obtain ⟨q35, hc35, hf⟩ := sv_bind_some hf
    refine sv_callV0 C mv_X9_166 (m_X9_bad (sv_l X) E h0 ad sz _ _ hc35) sv_sx0 0 rfl rfl rfl rfl (Nat.le_of_ble_eq_true rfl) ⟨by rw [hR]; decide, by rw [hR]; decide⟩ ⟨by rw [hR]; decide, by rw [hR]; decide⟩ dX9_sided_35 ?_
    exact sv_iret C (by cases hf; exact hZ) dX9_sided_38
set_option maxHeartbeats 4000000 in
set_option maxRecDepth 100000 in
theorem w_X9_sided_19 {E : sv_E} {X : sv_X} {sz : Nat} {q : Int32 × md_B} {h0 : Nat} {ad : Nat → Nat} {k3 v3 : Nat} {t3 : List Int32} (C : sv_C E X cX9_sided RX9 [(k3, v3, t3)]) (hZ : sv_Z E X (some .int) (some (.int q.1)) (md_w E h0 ad q.2) sz 0 0) (hR : sv_R X = { frames := 5, cells := 0, slots := 0, locals := 109 }) (hN : sv_nL X = 5) (B : md_B) (x1 : Int32) (x4 : Int32) (s0 : Int32) (hf : f_X9_sided_19 t3 B x1 x4 s0 = some q) : sv_J E X (md_w E h0 ad B) sz 0 0 19 [(0, .ref h0), (1, .int x1), (3, .ref k3), (4, .int x4)] [.int s0] := by
  rw [f_X9_sided_19] at hf
  refine sv_iload 3 C dX9_sided_19 rfl ?_
  refine sv_ldc C kw_562 dX9_sided_21 ?_
  refine sv_icmp_ne (tgt := 30) C dX9_sided_23 (by decide) (fun c23 => ?_) (fun c23 => ?_)
  · replace hf := sv_if_f c23 hf
    refine sv_iconst (v := 0) C dX9_sided_30 (by decide) ?_
    refine sv_sub (lv' := [(0, .ref h0), (1, .int x1), (3, .ref k3), (4, .int x4)]) [0, 1, 2, 3] rfl ?_
    exact w_X9_sided_31 C hZ hR hN _ _ _ _ _ hf
  · replace hf := sv_if_t c23 hf
    refine sv_iconst (v := 1) C dX9_sided_26 (by decide) ?_
    refine sv_goto (tgt := 31) C dX9_sided_27 (by decide) ?_
    refine sv_sub (lv' := [(0, .ref h0), (1, .int x1), (3, .ref k3), (4, .int x4)]) [0, 1, 2, 3] rfl ?_
    exact w_X9_sided_31 C hZ hR hN _ _ _ _ _ hf
set_option maxHeartbeats 4000000 in
set_option maxRecDepth 100000 in
theorem m_X9_sided (l : Launch) (E : sv_E) (h0 : Nat) (ad : Nat → Nat) (sz : Nat) (k3 v3 : Nat) (B : md_B) (x1 : Int32) (x2 : Int32) (t3 : List Int32) (q : Int32 × md_B) (hf : f_X9_sided B x1 x2 t3 = some q) : sv_Met l E yX9_sided cX9_sided 5 (some .int) 5 109 [(k3, v3, t3)] [.ref h0, .int x1, .int x2, .ref k3] (md_w E h0 ad B) sz (some (.int q.1)) (md_w E h0 ad q.2) sz 0 0 := by
  refine sv_ofJ (by decide) (Nat.le_of_ble_eq_true rfl) ?_
  intro X hX hN hnm hR C hZ
  replace C : sv_C E X cX9_sided RX9 [(k3, v3, t3)] := C
  show sv_J E X (md_w E h0 ad B) sz 0 0 0 [(0, .ref h0), (1, .int x1), (2, .int x2), (3, .ref k3)] []
  rw [f_X9_sided] at hf
  refine sv_aload_n 0 C dX9_sided_0 rfl rfl ?_
  refine sv_iload_n 2 C dX9_sided_1 rfl rfl ?_
  refine sv_aload_n 3 C dX9_sided_2 rfl rfl ?_
  obtain ⟨q3, hc3, hf⟩ := sv_bind_some hf
  refine sv_callV0 C mv_X9_190 (m_X9_one (sv_l X) E h0 ad sz k3 v3 _ _ _ _ hc3) sv_sx1 0 rfl rfl rfl rfl (Nat.le_of_ble_eq_true rfl) ⟨by rw [hR]; decide, by rw [hR]; decide⟩ ⟨by rw [hR]; decide, by rw [hR]; decide⟩ dX9_sided_3 ?_
  refine sv_istore (lv' := [(4, .int q3.1), (0, .ref h0), (1, .int x1), (2, .int x2), (3, .ref k3)]) C dX9_sided_6 (by rw [hN]; decide) rfl ?_
  refine sv_iload_n 2 C dX9_sided_8 rfl rfl ?_
  refine sv_ldc C kw_562 dX9_sided_9 ?_
  refine sv_icmp_ne (tgt := 18) C dX9_sided_11 (by decide) (fun c11 => ?_) (fun c11 => ?_)
  · replace hf := sv_if_f c11 hf
    refine sv_iconst (v := 0) C dX9_sided_18 (by decide) ?_
    refine sv_sub (lv' := [(0, .ref h0), (1, .int x1), (3, .ref k3), (4, .int q3.1)]) [1, 2, 4, 0] rfl ?_
    exact w_X9_sided_19 C hZ hR hN _ _ _ _ hf
  · replace hf := sv_if_t c11 hf
    refine sv_iconst (v := 1) C dX9_sided_14 (by decide) ?_
    refine sv_goto (tgt := 19) C dX9_sided_15 (by decide) ?_
    refine sv_sub (lv' := [(0, .ref h0), (1, .int x1), (3, .ref k3), (4, .int q3.1)]) [1, 2, 4, 0] rfl ?_
    exact w_X9_sided_19 C hZ hR hN _ _ _ _ hf
def f_X9_place_100 (t4 : List Int32) (B : md_B) : Option (Int32 × md_B) :=
  (f_X9_bad B).bind (fun q101 =>
    some (q101.1, q101.2))
def f_X9_place_105 (t4 : List Int32) (B : md_B) (x1 : Int32) (x5 : Int32) : Option (Int32 × md_B) :=
  (f_X9_sided B x5 (x1 + 1) t4).bind (fun q113 =>
    some (q113.1, q113.2))
def f_X9_place (B : md_B) (x1 : Int32) (x2 : Int32) (x3 : Int32) (t4 : List Int32) : Option (Int32 × md_B) :=
  (f_X9_size B x1).bind (fun q6 =>
    if q6.1 ≤ 0 then
      f_X9_place_105 t4 q6.2 x1 (-2147483648)
    else
      (f_X9_digits q6.2 x1 0).bind (fun q15 =>
        if q15.1 = x2 then
          (f_X9_whole q15.2 x1 0 (x2 - 2)).bind (fun q33 =>
            (f_X9_whole q33.2 x1 (x2 - 2) 2).bind (fun q44 =>
              (f_X9_behind q44.2 x1 x2 6 4).bind (fun q55 =>
                if q55.1 = (-2147483648) then
                  f_X9_place_100 t4 q55.2
                else
                  if 59 < q44.1 then
                    f_X9_place_100 t4 q55.2
                  else
                    if ((((q33.1 * 60) + q44.1) * 10000) + q55.1) ≤ (x3 * 600000) then
                      f_X9_place_105 t4 q55.2 x1 ((((q33.1 * 60) + q44.1) * 10000) + q55.1)
                    else
                      f_X9_place_100 t4 q55.2)))
        else
          (f_X9_bad q15.2).bind (fun q23 =>
            some (q23.1, q23.2))))
set_option maxHeartbeats 4000000 in
set_option maxRecDepth 100000 in
theorem w_X9_place_100 {E : sv_E} {X : sv_X} {sz : Nat} {q : Int32 × md_B} {h0 : Nat} {ad : Nat → Nat} {k4 v4 : Nat} {t4 : List Int32} (C : sv_C E X cX9_place RX9 [(k4, v4, t4)]) (hZ : sv_Z E X (some .int) (some (.int q.1)) (md_w E h0 ad q.2) sz 0 0) (hR : sv_R X = { frames := 6, cells := 0, slots := 0, locals := 133 }) (hN : sv_nL X = 9) (B : md_B) (hf : f_X9_place_100 t4 B = some q) : sv_J E X (md_w E h0 ad B) sz 0 0 100 [(0, .ref h0)] [] := by
  rw [f_X9_place_100] at hf
  refine sv_aload_n 0 C dX9_place_100 rfl rfl ?_
  obtain ⟨q101, hc101, hf⟩ := sv_bind_some hf
  refine sv_callV0 C mv_X9_166 (m_X9_bad (sv_l X) E h0 ad sz _ _ hc101) sv_sx0 0 rfl rfl rfl rfl (Nat.le_of_ble_eq_true rfl) ⟨by rw [hR]; decide, by rw [hR]; decide⟩ ⟨by rw [hR]; decide, by rw [hR]; decide⟩ dX9_place_101 ?_
  exact sv_iret C (by cases hf; exact hZ) dX9_place_104
set_option maxHeartbeats 4000000 in
set_option maxRecDepth 100000 in
theorem w_X9_place_105 {E : sv_E} {X : sv_X} {sz : Nat} {q : Int32 × md_B} {h0 : Nat} {ad : Nat → Nat} {k4 v4 : Nat} {t4 : List Int32} (C : sv_C E X cX9_place RX9 [(k4, v4, t4)]) (hZ : sv_Z E X (some .int) (some (.int q.1)) (md_w E h0 ad q.2) sz 0 0) (hR : sv_R X = { frames := 6, cells := 0, slots := 0, locals := 133 }) (hN : sv_nL X = 9) (B : md_B) (x1 : Int32) (x5 : Int32) (hf : f_X9_place_105 t4 B x1 x5 = some q) : sv_J E X (md_w E h0 ad B) sz 0 0 105 [(0, .ref h0), (1, .int x1), (4, .ref k4), (5, .int x5)] [] := by
  rw [f_X9_place_105] at hf
  refine sv_aload_n 0 C dX9_place_105 rfl rfl ?_
  refine sv_iload 3 C dX9_place_106 rfl ?_
  refine sv_iload_n 1 C dX9_place_108 rfl rfl ?_
  refine sv_iconst (v := 1) C dX9_place_109 (by decide) ?_
  refine sv_iadd C dX9_place_110 ?_
  refine sv_aload 2 C dX9_place_111 rfl ?_
  obtain ⟨q113, hc113, hf⟩ := sv_bind_some hf
  refine sv_callV0 C mv_X9_195 (m_X9_sided (sv_l X) E h0 ad sz k4 v4 _ _ _ _ _ hc113) sv_sx1 0 rfl rfl rfl rfl (Nat.le_of_ble_eq_true rfl) ⟨by rw [hR]; decide, by rw [hR]; decide⟩ ⟨by rw [hR]; decide, by rw [hR]; decide⟩ dX9_place_113 ?_
  exact sv_iret C (by cases hf; exact hZ) dX9_place_116
set_option maxHeartbeats 4000000 in
set_option maxRecDepth 100000 in
theorem m_X9_place (l : Launch) (E : sv_E) (h0 : Nat) (ad : Nat → Nat) (sz : Nat) (k4 v4 : Nat) (B : md_B) (x1 : Int32) (x2 : Int32) (x3 : Int32) (t4 : List Int32) (q : Int32 × md_B) (hf : f_X9_place B x1 x2 x3 t4 = some q) : sv_Met l E yX9_place cX9_place 9 (some .int) 6 133 [(k4, v4, t4)] [.ref h0, .int x1, .int x2, .int x3, .ref k4] (md_w E h0 ad B) sz (some (.int q.1)) (md_w E h0 ad q.2) sz 0 0 := by
  refine sv_ofJ (by decide) (Nat.le_of_ble_eq_true rfl) ?_
  intro X hX hN hnm hR C hZ
  replace C : sv_C E X cX9_place RX9 [(k4, v4, t4)] := C
  show sv_J E X (md_w E h0 ad B) sz 0 0 0 [(0, .ref h0), (1, .int x1), (2, .int x2), (3, .int x3), (4, .ref k4)] []
  rw [f_X9_place] at hf
  refine sv_ldc C kw_562 dX9_place_0 ?_
  refine sv_istore (lv' := [(5, .int (-2147483648)), (0, .ref h0), (1, .int x1), (2, .int x2), (3, .int x3), (4, .ref k4)]) C dX9_place_2 (by rw [hN]; decide) rfl ?_
  refine sv_aload_n 1 C dX9_place_4 rfl rfl ?_
  refine sv_iload_n 2 C dX9_place_5 rfl rfl ?_
  obtain ⟨q6, hc6, hf⟩ := sv_bind_some hf
  refine sv_callV0 C mv_X9_153 (m_X9_size (sv_l X) E h0 ad sz _ _ _ hc6) sv_sx0 0 rfl rfl rfl rfl (Nat.le_of_ble_eq_true rfl) ⟨by rw [hR]; decide, by rw [hR]; decide⟩ ⟨by rw [hR]; decide, by rw [hR]; decide⟩ dX9_place_6 ?_
  refine sv_if_le (tgt := 105) C dX9_place_9 (by decide) (fun c9 => ?_) (fun c9 => ?_)
  · replace hf := sv_if_t c9 hf
    refine sv_sub (lv' := [(0, .ref h0), (1, .int x1), (4, .ref k4), (5, .int (-2147483648))]) [1, 2, 5, 0] rfl ?_
    exact w_X9_place_105 C hZ hR hN _ _ _ hf
  · replace hf := sv_if_f c9 hf
    refine sv_aload_n 1 C dX9_place_12 rfl rfl ?_
    refine sv_iload_n 2 C dX9_place_13 rfl rfl ?_
    refine sv_iconst (v := 0) C dX9_place_14 (by decide) ?_
    obtain ⟨q15, hc15, hf⟩ := sv_bind_some hf
    refine sv_callV0 C mv_X9_163 (m_X9_digits (sv_l X) E h0 ad sz _ _ _ _ hc15) sv_sx0 0 rfl rfl rfl rfl (Nat.le_of_ble_eq_true rfl) ⟨by rw [hR]; decide, by rw [hR]; decide⟩ ⟨by rw [hR]; decide, by rw [hR]; decide⟩ dX9_place_15 ?_
    refine sv_iload_n 3 C dX9_place_18 rfl rfl ?_
    refine sv_icmp_eq (tgt := 27) C dX9_place_19 (by decide) (fun c19 => ?_) (fun c19 => ?_)
    · replace hf := sv_if_t c19 hf
      refine sv_aload_n 1 C dX9_place_27 rfl rfl ?_
      refine sv_iload_n 2 C dX9_place_28 rfl rfl ?_
      refine sv_iconst (v := 0) C dX9_place_29 (by decide) ?_
      refine sv_iload_n 3 C dX9_place_30 rfl rfl ?_
      refine sv_iconst (v := 2) C dX9_place_31 (by decide) ?_
      refine sv_isub C dX9_place_32 ?_
      obtain ⟨q33, hc33, hf⟩ := sv_bind_some hf
      refine sv_callV0 C mv_X9_173 (m_X9_whole (sv_l X) E h0 ad sz _ _ _ _ _ hc33) sv_sx0 0 rfl rfl rfl rfl (Nat.le_of_ble_eq_true rfl) ⟨by rw [hR]; decide, by rw [hR]; decide⟩ ⟨by rw [hR]; decide, by rw [hR]; decide⟩ dX9_place_33 ?_
      refine sv_istore (lv' := [(6, .int q33.1), (5, .int (-2147483648)), (0, .ref h0), (1, .int x1), (2, .int x2), (3, .int x3), (4, .ref k4)]) C dX9_place_36 (by rw [hN]; decide) rfl ?_
      refine sv_aload_n 2 C dX9_place_38 rfl rfl ?_
      refine sv_iload_n 3 C dX9_place_39 rfl rfl ?_
      refine sv_iload_n 4 C dX9_place_40 rfl rfl ?_
      refine sv_iconst (v := 2) C dX9_place_41 (by decide) ?_
      refine sv_isub C dX9_place_42 ?_
      refine sv_iconst (v := 2) C dX9_place_43 (by decide) ?_
      obtain ⟨q44, hc44, hf⟩ := sv_bind_some hf
      refine sv_callV0 C mv_X9_173 (m_X9_whole (sv_l X) E h0 ad sz _ _ _ _ _ hc44) sv_sx0 0 rfl rfl rfl rfl (Nat.le_of_ble_eq_true rfl) ⟨by rw [hR]; decide, by rw [hR]; decide⟩ ⟨by rw [hR]; decide, by rw [hR]; decide⟩ dX9_place_44 ?_
      refine sv_istore (lv' := [(7, .int q44.1), (6, .int q33.1), (5, .int (-2147483648)), (0, .ref h0), (1, .int x1), (2, .int x2), (3, .int x3), (4, .ref k4)]) C dX9_place_47 (by rw [hN]; decide) rfl ?_
      refine sv_aload_n 3 C dX9_place_49 rfl rfl ?_
      refine sv_iload_n 4 C dX9_place_50 rfl rfl ?_
      refine sv_iload_n 5 C dX9_place_51 rfl rfl ?_
      refine sv_bipush (v := 6) C dX9_place_52 (by decide) ?_
      refine sv_iconst (v := 4) C dX9_place_54 (by decide) ?_
      obtain ⟨q55, hc55, hf⟩ := sv_bind_some hf
      refine sv_callV0 C mv_X9_169 (m_X9_behind (sv_l X) E h0 ad sz _ _ _ _ _ _ hc55) sv_sx0 0 rfl rfl rfl rfl (Nat.le_of_ble_eq_true rfl) ⟨by rw [hR]; decide, by rw [hR]; decide⟩ ⟨by rw [hR]; decide, by rw [hR]; decide⟩ dX9_place_55 ?_
      refine sv_istore (lv' := [(8, .int q55.1), (7, .int q44.1), (6, .int q33.1), (5, .int (-2147483648)), (0, .ref h0), (1, .int x1), (2, .int x2), (3, .int x3), (4, .ref k4)]) C dX9_place_58 (by rw [hN]; decide) rfl ?_
      refine sv_iload 2 C dX9_place_60 rfl ?_
      refine sv_bipush (v := 60) C dX9_place_62 (by decide) ?_
      refine sv_imul C dX9_place_64 ?_
      refine sv_iload 1 C dX9_place_65 rfl ?_
      refine sv_iadd C dX9_place_67 ?_
      refine sv_sipush (v := 10000) C dX9_place_68 (by decide) ?_
      refine sv_imul C dX9_place_71 ?_
      refine sv_iload 0 C dX9_place_72 rfl ?_
      refine sv_iadd C dX9_place_74 ?_
      refine sv_istore (lv' := [(5, .int ((((q33.1 * 60) + q44.1) * 10000) + q55.1)), (8, .int q55.1), (7, .int q44.1), (6, .int q33.1), (0, .ref h0), (1, .int x1), (2, .int x2), (3, .int x3), (4, .ref k4)]) C dX9_place_75 (by rw [hN]; decide) rfl ?_
      refine sv_iload 1 C dX9_place_77 rfl ?_
      refine sv_ldc C kw_562 dX9_place_79 ?_
      refine sv_icmp_eq (tgt := 100) C dX9_place_81 (by decide) (fun c81 => ?_) (fun c81 => ?_)
      · replace hf := sv_if_t c81 hf
        refine sv_sub (lv' := [(0, .ref h0)]) [4] rfl ?_
        exact w_X9_place_100 C hZ hR hN _ hf
      · replace hf := sv_if_f c81 hf
        refine sv_iload 2 C dX9_place_84 rfl ?_
        refine sv_bipush (v := 59) C dX9_place_86 (by decide) ?_
        refine sv_icmp_gt (tgt := 100) C dX9_place_88 (by decide) (fun c88 => ?_) (fun c88 => ?_)
        · replace hf := sv_if_t c88 hf
          refine sv_sub (lv' := [(0, .ref h0)]) [4] rfl ?_
          exact w_X9_place_100 C hZ hR hN _ hf
        · replace hf := sv_if_f c88 hf
          refine sv_iload 0 C dX9_place_91 rfl ?_
          refine sv_iload_n 7 C dX9_place_93 rfl rfl ?_
          refine sv_ldc C kw_633 dX9_place_94 ?_
          refine sv_imul C dX9_place_96 ?_
          refine sv_icmp_le (tgt := 105) C dX9_place_97 (by decide) (fun c97 => ?_) (fun c97 => ?_)
          · replace hf := sv_if_t c97 hf
            refine sv_sub (lv' := [(0, .ref h0), (1, .int x1), (4, .ref k4), (5, .int ((((q33.1 * 60) + q44.1) * 10000) + q55.1))]) [4, 5, 8, 0] rfl ?_
            exact w_X9_place_105 C hZ hR hN _ _ _ hf
          · replace hf := sv_if_f c97 hf
            refine sv_sub (lv' := [(0, .ref h0)]) [4] rfl ?_
            exact w_X9_place_100 C hZ hR hN _ hf
    · replace hf := sv_if_f c19 hf
      refine sv_aload_n 1 C dX9_place_22 rfl rfl ?_
      obtain ⟨q23, hc23, hf⟩ := sv_bind_some hf
      refine sv_callV0 C mv_X9_166 (m_X9_bad (sv_l X) E h0 ad sz _ _ hc23) sv_sx0 0 rfl rfl rfl rfl (Nat.le_of_ble_eq_true rfl) ⟨by rw [hR]; decide, by rw [hR]; decide⟩ ⟨by rw [hR]; decide, by rw [hR]; decide⟩ dX9_place_23 ?_
      exact sv_iret C (by cases hf; exact hZ) dX9_place_26
def f_X9_number_32 (B : md_B) : Option (Int32 × md_B) :=
  (f_X9_bad B).bind (fun q33 =>
    some (q33.1, q33.2))
def f_X9_number (B : md_B) (x1 : Int32) (x2 : Int32) : Option (Int32 × md_B) :=
  (f_X9_size B x1).bind (fun q2 =>
    if q2.1 = 0 then
      some ((-2147483648), q2.2)
    else
      (f_X9_size q2.2 x1).bind (fun q15 =>
        if q15.1 = x2 then
          (f_X9_digits q15.2 x1 0).bind (fun q25 =>
            if q25.1 = x2 then
              (f_X9_whole q25.2 x1 0 x2).bind (fun q43 =>
                some (q43.1, q43.2))
            else
              f_X9_number_32 q25.2)
        else
          f_X9_number_32 q15.2))
set_option maxHeartbeats 4000000 in
set_option maxRecDepth 100000 in
theorem w_X9_number_32 {E : sv_E} {X : sv_X} {sz : Nat} {q : Int32 × md_B} {h0 : Nat} {ad : Nat → Nat} (C : sv_C E X cX9_number RX9 []) (hZ : sv_Z E X (some .int) (some (.int q.1)) (md_w E h0 ad q.2) sz 0 0) (hR : sv_R X = { frames := 3, cells := 0, slots := 0, locals := 68 }) (hN : sv_nL X = 3) (B : md_B) (hf : f_X9_number_32 B = some q) : sv_J E X (md_w E h0 ad B) sz 0 0 32 [(0, .ref h0)] [] := by
  rw [f_X9_number_32] at hf
  refine sv_aload_n 0 C dX9_number_32 rfl rfl ?_
  obtain ⟨q33, hc33, hf⟩ := sv_bind_some hf
  refine sv_callV0 C mv_X9_166 (m_X9_bad (sv_l X) E h0 ad sz _ _ hc33) sv_sx0 0 rfl rfl rfl rfl (Nat.le_of_ble_eq_true rfl) ⟨by rw [hR]; decide, by rw [hR]; decide⟩ ⟨by rw [hR]; decide, by rw [hR]; decide⟩ dX9_number_33 ?_
  refine sv_goto (tgt := 46) C dX9_number_36 (by decide) ?_
  exact sv_iret C (by cases hf; exact hZ) dX9_number_46
set_option maxHeartbeats 4000000 in
set_option maxRecDepth 100000 in
theorem m_X9_number (l : Launch) (E : sv_E) (h0 : Nat) (ad : Nat → Nat) (sz : Nat) (B : md_B) (x1 : Int32) (x2 : Int32) (q : Int32 × md_B) (hf : f_X9_number B x1 x2 = some q) : sv_Met l E yX9_number cX9_number 3 (some .int) 3 68 [] [.ref h0, .int x1, .int x2] (md_w E h0 ad B) sz (some (.int q.1)) (md_w E h0 ad q.2) sz 0 0 := by
  refine sv_ofJ (by decide) (Nat.le_of_ble_eq_true rfl) ?_
  intro X hX hN hnm hR C hZ
  replace C : sv_C E X cX9_number RX9 [] := C
  show sv_J E X (md_w E h0 ad B) sz 0 0 0 [(0, .ref h0), (1, .int x1), (2, .int x2)] []
  rw [f_X9_number] at hf
  refine sv_aload_n 0 C dX9_number_0 rfl rfl ?_
  refine sv_iload_n 1 C dX9_number_1 rfl rfl ?_
  obtain ⟨q2, hc2, hf⟩ := sv_bind_some hf
  refine sv_callV0 C mv_X9_153 (m_X9_size (sv_l X) E h0 ad sz _ _ _ hc2) sv_sx0 0 rfl rfl rfl rfl (Nat.le_of_ble_eq_true rfl) ⟨by rw [hR]; decide, by rw [hR]; decide⟩ ⟨by rw [hR]; decide, by rw [hR]; decide⟩ dX9_number_2 ?_
  refine sv_if_ne (tgt := 13) C dX9_number_5 (by decide) (fun c5 => ?_) (fun c5 => ?_)
  · replace hf := sv_if_f c5 hf
    refine sv_aload_n 0 C dX9_number_13 rfl rfl ?_
    refine sv_iload_n 1 C dX9_number_14 rfl rfl ?_
    obtain ⟨q15, hc15, hf⟩ := sv_bind_some hf
    refine sv_callV0 C mv_X9_153 (m_X9_size (sv_l X) E h0 ad sz _ _ _ hc15) sv_sx0 0 rfl rfl rfl rfl (Nat.le_of_ble_eq_true rfl) ⟨by rw [hR]; decide, by rw [hR]; decide⟩ ⟨by rw [hR]; decide, by rw [hR]; decide⟩ dX9_number_15 ?_
    refine sv_iload_n 2 C dX9_number_18 rfl rfl ?_
    refine sv_icmp_ne (tgt := 32) C dX9_number_19 (by decide) (fun c19 => ?_) (fun c19 => ?_)
    · replace hf := sv_if_f c19 hf
      refine sv_sub (lv' := [(0, .ref h0)]) [0] rfl ?_
      exact w_X9_number_32 C hZ hR hN _ hf
    · replace hf := sv_if_t c19 hf
      refine sv_aload_n 0 C dX9_number_22 rfl rfl ?_
      refine sv_iload_n 1 C dX9_number_23 rfl rfl ?_
      refine sv_iconst (v := 0) C dX9_number_24 (by decide) ?_
      obtain ⟨q25, hc25, hf⟩ := sv_bind_some hf
      refine sv_callV0 C mv_X9_163 (m_X9_digits (sv_l X) E h0 ad sz _ _ _ _ hc25) sv_sx0 0 rfl rfl rfl rfl (Nat.le_of_ble_eq_true rfl) ⟨by rw [hR]; decide, by rw [hR]; decide⟩ ⟨by rw [hR]; decide, by rw [hR]; decide⟩ dX9_number_25 ?_
      refine sv_iload_n 2 C dX9_number_28 rfl rfl ?_
      refine sv_icmp_eq (tgt := 39) C dX9_number_29 (by decide) (fun c29 => ?_) (fun c29 => ?_)
      · replace hf := sv_if_t c29 hf
        refine sv_aload_n 0 C dX9_number_39 rfl rfl ?_
        refine sv_iload_n 1 C dX9_number_40 rfl rfl ?_
        refine sv_iconst (v := 0) C dX9_number_41 (by decide) ?_
        refine sv_iload_n 2 C dX9_number_42 rfl rfl ?_
        obtain ⟨q43, hc43, hf⟩ := sv_bind_some hf
        refine sv_callV0 C mv_X9_173 (m_X9_whole (sv_l X) E h0 ad sz _ _ _ _ _ hc43) sv_sx0 0 rfl rfl rfl rfl (Nat.le_of_ble_eq_true rfl) ⟨by rw [hR]; decide, by rw [hR]; decide⟩ ⟨by rw [hR]; decide, by rw [hR]; decide⟩ dX9_number_43 ?_
        exact sv_iret C (by cases hf; exact hZ) dX9_number_46
      · replace hf := sv_if_f c29 hf
        refine sv_sub (lv' := [(0, .ref h0)]) [0] rfl ?_
        exact w_X9_number_32 C hZ hR hN _ hf
  · replace hf := sv_if_t c5 hf
    refine sv_ldc C kw_562 dX9_number_8 ?_
    refine sv_goto (tgt := 46) C dX9_number_10 (by decide) ?_
    exact sv_iret C (by cases hf; exact hZ) dX9_number_46
def f_X9_ten_4 : Nat → md_B → Int32 → Int32 → Int32 → Option (Int32 × md_B)
  | 0, _, _, _, _ => none
  | n + 1, B, x0, x1, x2 =>
    if x0 ≤ x2 then
      some (x1, B)
    else
      (f_X9_ten_4 n) B x0 (x1 * 10) (x2 + 1)
def f_X9_ten (B : md_B) (x0 : Int32) : Option (Int32 × md_B) :=
  f_X9_ten_4 sv_fu B x0 1 0
set_option maxHeartbeats 4000000 in
set_option maxRecDepth 100000 in
theorem w_X9_ten_4 {E : sv_E} {X : sv_X} {sz : Nat} {q : Int32 × md_B} {h0 : Nat} {ad : Nat → Nat} (C : sv_C E X cX9_ten RX9 []) (hZ : sv_Z E X (some .int) (some (.int q.1)) (md_w E h0 ad q.2) sz 0 0) (hR : sv_R X = { frames := 0, cells := 0, slots := 0, locals := 0 }) (hN : sv_nL X = 3) : ∀ (n : Nat) (B : md_B) (x0 : Int32) (x1 : Int32) (x2 : Int32), f_X9_ten_4 n B x0 x1 x2 = some q → sv_J E X (md_w E h0 ad B) sz 0 0 4 [(0, .int x0), (1, .int x1), (2, .int x2)] [] := by
  intro n
  induction n with
  | zero =>
    intro B x0 x1 x2 hf
    rw [f_X9_ten_4] at hf
    cases hf
  | succ n ih =>
    intro B x0 x1 x2 hf
    rw [f_X9_ten_4] at hf
    refine sv_iload_n 2 C dX9_ten_4 rfl rfl ?_
    refine sv_iload_n 0 C dX9_ten_5 rfl rfl ?_
    refine sv_icmp_ge (tgt := 20) C dX9_ten_6 (by decide) (fun c6 => ?_) (fun c6 => ?_)
    · replace hf := sv_if_t c6 hf
      refine sv_iload_n 1 C dX9_ten_20 rfl rfl ?_
      exact sv_iret C (by cases hf; exact hZ) dX9_ten_21
    · replace hf := sv_if_f c6 hf
      refine sv_iload_n 1 C dX9_ten_9 rfl rfl ?_
      refine sv_bipush (v := 10) C dX9_ten_10 (by decide) ?_
      refine sv_imul C dX9_ten_12 ?_
      refine sv_istore_n (lv' := [(1, .int (x1 * 10)), (0, .int x0), (2, .int x2)]) C dX9_ten_13 rfl (by rw [hN]; decide) rfl ?_
      refine sv_iinc (v := x2 + 1) (lv' := [(2, .int (x2 + 1)), (1, .int (x1 * 10)), (0, .int x0)]) 2 C dX9_ten_14 rfl rfl (by rw [hN]; decide) rfl ?_
      refine sv_goto (tgt := 4) C dX9_ten_17 (by decide) ?_
      refine sv_sub (lv' := [(0, .int x0), (1, .int (x1 * 10)), (2, .int (x2 + 1))]) [2, 1, 0] rfl ?_
      exact ih _ _ _ _ hf
set_option maxHeartbeats 4000000 in
set_option maxRecDepth 100000 in
theorem m_X9_ten (l : Launch) (E : sv_E) (h0 : Nat) (ad : Nat → Nat) (sz : Nat) (B : md_B) (x0 : Int32) (q : Int32 × md_B) (hf : f_X9_ten B x0 = some q) : sv_Met l E yX9_ten cX9_ten 3 (some .int) 0 0 [] [.int x0] (md_w E h0 ad B) sz (some (.int q.1)) (md_w E h0 ad q.2) sz 0 0 := by
  refine sv_ofJ (by decide) (Nat.le_of_ble_eq_true rfl) ?_
  intro X hX hN hnm hR C hZ
  replace C : sv_C E X cX9_ten RX9 [] := C
  show sv_J E X (md_w E h0 ad B) sz 0 0 0 [(0, .int x0)] []
  rw [f_X9_ten] at hf
  refine sv_iconst (v := 1) C dX9_ten_0 (by decide) ?_
  refine sv_istore_n (lv' := [(1, .int 1), (0, .int x0)]) C dX9_ten_1 rfl (by rw [hN]; decide) rfl ?_
  refine sv_iconst (v := 0) C dX9_ten_2 (by decide) ?_
  refine sv_istore_n (lv' := [(2, .int 0), (1, .int 1), (0, .int x0)]) C dX9_ten_3 rfl (by rw [hN]; decide) rfl ?_
  refine sv_sub (lv' := [(0, .int x0), (1, .int 1), (2, .int 0)]) [2, 1, 0] rfl ?_
  exact w_X9_ten_4 C hZ hR hN sv_fu _ _ _ _ hf
def f_X9_decimal_32 (B : md_B) (x1 : Int32) (x2 : Int32) (x3 : Int32) (s0 : Int32) : Option (Int32 × md_B) :=
  (f_X9_digits B x1 s0).bind (fun q38 =>
    (f_X9_in q38.2 q38.1.toInt64 1 x3.toInt64).bind (fun q49 =>
      if q49.1 = 0 then
        (f_X9_bad q49.2).bind (fun q56 =>
          some (q56.1, q56.2))
      else
        (f_X9_behind q49.2 x1 (s0 + q38.1) 6 x2).bind (fun q70 =>
          (f_X9_whole q70.2 x1 s0 q38.1).bind (fun q81 =>
            (f_X9_ten q81.2 x2).bind (fun q85 =>
              if q70.1 = (-2147483648) then
                some ((-2147483648), q85.2)
              else
                if s0 = 1 then
                  some (-((q81.1 * q85.1) + q70.1), q85.2)
                else
                  some ((q81.1 * q85.1) + q70.1, q85.2))))))
def f_X9_decimal_31 (B : md_B) (x1 : Int32) (x2 : Int32) (x3 : Int32) : Option (Int32 × md_B) :=
  f_X9_decimal_32 B x1 x2 x3 0
def f_X9_decimal (B : md_B) (x1 : Int32) (x2 : Int32) (x3 : Int32) (x4 : Int32) : Option (Int32 × md_B) :=
  (f_X9_size B x1).bind (fun q2 =>
    if q2.1 = 0 then
      some ((-2147483648), q2.2)
    else
      if x4 = 0 then
        f_X9_decimal_31 q2.2 x1 x2 x3
      else
        (f_X9_at q2.2 x1 0).bind (fun q19 =>
          if q19.1 = 45 then
            f_X9_decimal_32 q19.2 x1 x2 x3 1
          else
            f_X9_decimal_31 q19.2 x1 x2 x3))
set_option maxHeartbeats 4000000 in
set_option maxRecDepth 100000 in
theorem w_X9_decimal_32 {E : sv_E} {X : sv_X} {sz : Nat} {q : Int32 × md_B} {h0 : Nat} {ad : Nat → Nat} (C : sv_C E X cX9_decimal RX9 []) (hZ : sv_Z E X (some .int) (some (.int q.1)) (md_w E h0 ad q.2) sz 0 0) (hR : sv_R X = { frames := 4, cells := 0, slots := 0, locals := 95 }) (hN : sv_nL X = 9) (B : md_B) (x1 : Int32) (x2 : Int32) (x3 : Int32) (s0 : Int32) (hf : f_X9_decimal_32 B x1 x2 x3 s0 = some q) : sv_J E X (md_w E h0 ad B) sz 0 0 32 [(0, .ref h0), (1, .int x1), (2, .int x2), (3, .int x3)] [.int s0] := by
  rw [f_X9_decimal_32] at hf
  refine sv_istore (lv' := [(5, .int s0), (0, .ref h0), (1, .int x1), (2, .int x2), (3, .int x3)]) C dX9_decimal_32 (by rw [hN]; decide) rfl ?_
  refine sv_aload_n 1 C dX9_decimal_34 rfl rfl ?_
  refine sv_iload_n 2 C dX9_decimal_35 rfl rfl ?_
  refine sv_iload 0 C dX9_decimal_36 rfl ?_
  obtain ⟨q38, hc38, hf⟩ := sv_bind_some hf
  refine sv_callV0 C mv_X9_163 (m_X9_digits (sv_l X) E h0 ad sz _ _ _ _ hc38) sv_sx0 0 rfl rfl rfl rfl (Nat.le_of_ble_eq_true rfl) ⟨by rw [hR]; decide, by rw [hR]; decide⟩ ⟨by rw [hR]; decide, by rw [hR]; decide⟩ dX9_decimal_38 ?_
  refine sv_istore (lv' := [(6, .int q38.1), (5, .int s0), (0, .ref h0), (1, .int x1), (2, .int x2), (3, .int x3)]) C dX9_decimal_41 (by rw [hN]; decide) rfl ?_
  refine sv_iload 0 C dX9_decimal_43 rfl ?_
  refine sv_i2l C dX9_decimal_45 ?_
  refine sv_lconst (v := 1) C dX9_decimal_46 (by decide) ?_
  refine sv_iload_n 5 C dX9_decimal_47 rfl rfl ?_
  refine sv_i2l C dX9_decimal_48 ?_
  obtain ⟨q49, hc49, hf⟩ := sv_bind_some hf
  refine sv_callS0 C ms_X9_74 (m_X9_in (sv_l X) E h0 ad sz _ _ _ _ _ hc49) sv_sx0 rfl rfl (Nat.le_of_ble_eq_true rfl) ⟨by rw [hR]; decide, by rw [hR]; decide⟩ ⟨by rw [hR]; decide, by rw [hR]; decide⟩ dX9_decimal_49 ?_
  refine sv_if_ne (tgt := 60) C dX9_decimal_52 (by decide) (fun c52 => ?_) (fun c52 => ?_)
  · replace hf := sv_if_f c52 hf
    refine sv_aload_n 2 C dX9_decimal_60 rfl rfl ?_
    refine sv_iload_n 3 C dX9_decimal_61 rfl rfl ?_
    refine sv_iload 1 C dX9_decimal_62 rfl ?_
    refine sv_iload 0 C dX9_decimal_64 rfl ?_
    refine sv_iadd C dX9_decimal_66 ?_
    refine sv_bipush (v := 6) C dX9_decimal_67 (by decide) ?_
    refine sv_iload_n 4 C dX9_decimal_69 rfl rfl ?_
    obtain ⟨q70, hc70, hf⟩ := sv_bind_some hf
    refine sv_callV0 C mv_X9_169 (m_X9_behind (sv_l X) E h0 ad sz _ _ _ _ _ _ hc70) sv_sx0 0 rfl rfl rfl rfl (Nat.le_of_ble_eq_true rfl) ⟨by rw [hR]; decide, by rw [hR]; decide⟩ ⟨by rw [hR]; decide, by rw [hR]; decide⟩ dX9_decimal_70 ?_
    refine sv_istore (lv' := [(7, .int q70.1), (6, .int q38.1), (5, .int s0), (0, .ref h0), (1, .int x1), (2, .int x2), (3, .int x3)]) C dX9_decimal_73 (by rw [hN]; decide) rfl ?_
    refine sv_aload_n 3 C dX9_decimal_75 rfl rfl ?_
    refine sv_iload_n 4 C dX9_decimal_76 rfl rfl ?_
    refine sv_iload 2 C dX9_decimal_77 rfl ?_
    refine sv_iload 1 C dX9_decimal_79 rfl ?_
    obtain ⟨q81, hc81, hf⟩ := sv_bind_some hf
    refine sv_callV0 C mv_X9_173 (m_X9_whole (sv_l X) E h0 ad sz _ _ _ _ _ hc81) sv_sx0 0 rfl rfl rfl rfl (Nat.le_of_ble_eq_true rfl) ⟨by rw [hR]; decide, by rw [hR]; decide⟩ ⟨by rw [hR]; decide, by rw [hR]; decide⟩ dX9_decimal_81 ?_
    refine sv_iload_n 5 C dX9_decimal_84 rfl rfl ?_
    obtain ⟨q85, hc85, hf⟩ := sv_bind_some hf
    refine sv_callS0 C ms_X9_177 (m_X9_ten (sv_l X) E h0 ad sz _ _ _ hc85) sv_sx0 rfl rfl (Nat.le_of_ble_eq_true rfl) ⟨by rw [hR]; decide, by rw [hR]; decide⟩ ⟨by rw [hR]; decide, by rw [hR]; decide⟩ dX9_decimal_85 ?_
    refine sv_imul C dX9_decimal_88 ?_
    refine sv_iload 0 C dX9_decimal_89 rfl ?_
    refine sv_iadd C dX9_decimal_91 ?_
    refine sv_istore (lv' := [(8, .int ((q81.1 * q85.1) + q70.1)), (7, .int q70.1), (6, .int q38.1), (5, .int s0), (0, .ref h0), (1, .int x1), (2, .int x2), (3, .int x3)]) C dX9_decimal_92 (by rw [hN]; decide) rfl ?_
    refine sv_iload 1 C dX9_decimal_94 rfl ?_
    refine sv_ldc C kw_562 dX9_decimal_96 ?_
    refine sv_icmp_ne (tgt := 106) C dX9_decimal_98 (by decide) (fun c98 => ?_) (fun c98 => ?_)
    · replace hf := sv_if_f c98 hf
      refine sv_iload 3 C dX9_decimal_106 rfl ?_
      refine sv_iconst (v := 1) C dX9_decimal_108 (by decide) ?_
      refine sv_icmp_ne (tgt := 118) C dX9_decimal_109 (by decide) (fun c109 => ?_) (fun c109 => ?_)
      · replace hf := sv_if_f c109 hf
        refine sv_iload 0 C dX9_decimal_118 rfl ?_
        exact sv_iret C (by cases hf; exact hZ) dX9_decimal_120
      · replace hf := sv_if_t c109 hf
        refine sv_iload 0 C dX9_decimal_112 rfl ?_
        refine sv_ineg C dX9_decimal_114 ?_
        refine sv_goto (tgt := 120) C dX9_decimal_115 (by decide) ?_
        exact sv_iret C (by cases hf; exact hZ) dX9_decimal_120
    · replace hf := sv_if_t c98 hf
      refine sv_ldc C kw_562 dX9_decimal_101 ?_
      refine sv_goto (tgt := 120) C dX9_decimal_103 (by decide) ?_
      exact sv_iret C (by cases hf; exact hZ) dX9_decimal_120
  · replace hf := sv_if_t c52 hf
    refine sv_aload_n 2 C dX9_decimal_55 rfl rfl ?_
    obtain ⟨q56, hc56, hf⟩ := sv_bind_some hf
    refine sv_callV0 C mv_X9_166 (m_X9_bad (sv_l X) E h0 ad sz _ _ hc56) sv_sx0 0 rfl rfl rfl rfl (Nat.le_of_ble_eq_true rfl) ⟨by rw [hR]; decide, by rw [hR]; decide⟩ ⟨by rw [hR]; decide, by rw [hR]; decide⟩ dX9_decimal_56 ?_
    exact sv_iret C (by cases hf; exact hZ) dX9_decimal_59
set_option maxHeartbeats 4000000 in
set_option maxRecDepth 100000 in
theorem w_X9_decimal_31 {E : sv_E} {X : sv_X} {sz : Nat} {q : Int32 × md_B} {h0 : Nat} {ad : Nat → Nat} (C : sv_C E X cX9_decimal RX9 []) (hZ : sv_Z E X (some .int) (some (.int q.1)) (md_w E h0 ad q.2) sz 0 0) (hR : sv_R X = { frames := 4, cells := 0, slots := 0, locals := 95 }) (hN : sv_nL X = 9) (B : md_B) (x1 : Int32) (x2 : Int32) (x3 : Int32) (hf : f_X9_decimal_31 B x1 x2 x3 = some q) : sv_J E X (md_w E h0 ad B) sz 0 0 31 [(0, .ref h0), (1, .int x1), (2, .int x2), (3, .int x3)] [] := by
  rw [f_X9_decimal_31] at hf
  refine sv_iconst (v := 0) C dX9_decimal_31 (by decide) ?_
  refine sv_sub (lv' := [(0, .ref h0), (1, .int x1), (2, .int x2), (3, .int x3)]) [0, 1, 2, 3] rfl ?_
  exact w_X9_decimal_32 C hZ hR hN _ _ _ _ _ hf
set_option maxHeartbeats 4000000 in
set_option maxRecDepth 100000 in
theorem m_X9_decimal (l : Launch) (E : sv_E) (h0 : Nat) (ad : Nat → Nat) (sz : Nat) (B : md_B) (x1 : Int32) (x2 : Int32) (x3 : Int32) (x4 : Int32) (q : Int32 × md_B) (hf : f_X9_decimal B x1 x2 x3 x4 = some q) : sv_Met l E yX9_decimal cX9_decimal 9 (some .int) 4 95 [] [.ref h0, .int x1, .int x2, .int x3, .int x4] (md_w E h0 ad B) sz (some (.int q.1)) (md_w E h0 ad q.2) sz 0 0 := by
  refine sv_ofJ (by decide) (Nat.le_of_ble_eq_true rfl) ?_
  intro X hX hN hnm hR C hZ
  replace C : sv_C E X cX9_decimal RX9 [] := C
  show sv_J E X (md_w E h0 ad B) sz 0 0 0 [(0, .ref h0), (1, .int x1), (2, .int x2), (3, .int x3), (4, .int x4)] []
  rw [f_X9_decimal] at hf
  refine sv_aload_n 0 C dX9_decimal_0 rfl rfl ?_
  refine sv_iload_n 1 C dX9_decimal_1 rfl rfl ?_
  obtain ⟨q2, hc2, hf⟩ := sv_bind_some hf
  refine sv_callV0 C mv_X9_153 (m_X9_size (sv_l X) E h0 ad sz _ _ _ hc2) sv_sx0 0 rfl rfl rfl rfl (Nat.le_of_ble_eq_true rfl) ⟨by rw [hR]; decide, by rw [hR]; decide⟩ ⟨by rw [hR]; decide, by rw [hR]; decide⟩ dX9_decimal_2 ?_
  refine sv_if_ne (tgt := 11) C dX9_decimal_5 (by decide) (fun c5 => ?_) (fun c5 => ?_)
  · replace hf := sv_if_f c5 hf
    refine sv_iload 4 C dX9_decimal_11 rfl ?_
    refine sv_if_eq (tgt := 31) C dX9_decimal_13 (by decide) (fun c13 => ?_) (fun c13 => ?_)
    · replace hf := sv_if_t c13 hf
      refine sv_sub (lv' := [(0, .ref h0), (1, .int x1), (2, .int x2), (3, .int x3)]) [0, 1, 2, 3] rfl ?_
      exact w_X9_decimal_31 C hZ hR hN _ _ _ _ hf
    · replace hf := sv_if_f c13 hf
      refine sv_aload_n 0 C dX9_decimal_16 rfl rfl ?_
      refine sv_iload_n 1 C dX9_decimal_17 rfl rfl ?_
      refine sv_iconst (v := 0) C dX9_decimal_18 (by decide) ?_
      obtain ⟨q19, hc19, hf⟩ := sv_bind_some hf
      refine sv_callV0 C mv_X9_156 (m_X9_at (sv_l X) E h0 ad sz _ _ _ _ hc19) sv_sx0 0 rfl rfl rfl rfl (Nat.le_of_ble_eq_true rfl) ⟨by rw [hR]; decide, by rw [hR]; decide⟩ ⟨by rw [hR]; decide, by rw [hR]; decide⟩ dX9_decimal_19 ?_
      refine sv_bipush (v := 45) C dX9_decimal_22 (by decide) ?_
      refine sv_icmp_ne (tgt := 31) C dX9_decimal_24 (by decide) (fun c24 => ?_) (fun c24 => ?_)
      · replace hf := sv_if_f c24 hf
        refine sv_sub (lv' := [(0, .ref h0), (1, .int x1), (2, .int x2), (3, .int x3)]) [0, 1, 2, 3] rfl ?_
        exact w_X9_decimal_31 C hZ hR hN _ _ _ _ hf
      · replace hf := sv_if_t c24 hf
        refine sv_iconst (v := 1) C dX9_decimal_27 (by decide) ?_
        refine sv_goto (tgt := 32) C dX9_decimal_28 (by decide) ?_
        refine sv_sub (lv' := [(0, .ref h0), (1, .int x1), (2, .int x2), (3, .int x3)]) [0, 1, 2, 3] rfl ?_
        exact w_X9_decimal_32 C hZ hR hN _ _ _ _ _ hf
  · replace hf := sv_if_t c5 hf
    refine sv_ldc C kw_562 dX9_decimal_8 ?_
    exact sv_iret C (by cases hf; exact hZ) dX9_decimal_10
def f_X9_measured (B : md_B) (x1 : Int32) (x2 : Int32) (t3 : List Int32) : Option (Int32 × md_B) :=
  (f_X9_one B x2 t3).bind (fun q3 =>
    if x1 = (-2147483648) then
      some (x1, q3.2)
    else
      if q3.1 = (-2147483648) then
        (f_X9_bad q3.2).bind (fun q22 =>
          some (q22.1, q22.2))
      else
        some (x1, q3.2))
set_option maxHeartbeats 4000000 in
set_option maxRecDepth 100000 in
theorem m_X9_measured (l : Launch) (E : sv_E) (h0 : Nat) (ad : Nat → Nat) (sz : Nat) (k3 v3 : Nat) (B : md_B) (x1 : Int32) (x2 : Int32) (t3 : List Int32) (q : Int32 × md_B) (hf : f_X9_measured B x1 x2 t3 = some q) : sv_Met l E yX9_measured cX9_measured 5 (some .int) 5 109 [(k3, v3, t3)] [.ref h0, .int x1, .int x2, .ref k3] (md_w E h0 ad B) sz (some (.int q.1)) (md_w E h0 ad q.2) sz 0 0 := by
  refine sv_ofJ (by decide) (Nat.le_of_ble_eq_true rfl) ?_
  intro X hX hN hnm hR C hZ
  replace C : sv_C E X cX9_measured RX9 [(k3, v3, t3)] := C
  show sv_J E X (md_w E h0 ad B) sz 0 0 0 [(0, .ref h0), (1, .int x1), (2, .int x2), (3, .ref k3)] []
  rw [f_X9_measured] at hf
  refine sv_aload_n 0 C dX9_measured_0 rfl rfl ?_
  refine sv_iload_n 2 C dX9_measured_1 rfl rfl ?_
  refine sv_aload_n 3 C dX9_measured_2 rfl rfl ?_
  obtain ⟨q3, hc3, hf⟩ := sv_bind_some hf
  refine sv_callV0 C mv_X9_190 (m_X9_one (sv_l X) E h0 ad sz k3 v3 _ _ _ _ hc3) sv_sx1 0 rfl rfl rfl rfl (Nat.le_of_ble_eq_true rfl) ⟨by rw [hR]; decide, by rw [hR]; decide⟩ ⟨by rw [hR]; decide, by rw [hR]; decide⟩ dX9_measured_3 ?_
  refine sv_istore (lv' := [(4, .int q3.1), (0, .ref h0), (1, .int x1), (2, .int x2), (3, .ref k3)]) C dX9_measured_6 (by rw [hN]; decide) rfl ?_
  refine sv_iload_n 2 C dX9_measured_8 rfl rfl ?_
  refine sv_ldc C kw_562 dX9_measured_9 ?_
  refine sv_icmp_eq (tgt := 28) C dX9_measured_11 (by decide) (fun c11 => ?_) (fun c11 => ?_)
  · replace hf := sv_if_t c11 hf
    refine sv_iload_n 2 C dX9_measured_28 rfl rfl ?_
    exact sv_iret C (by cases hf; exact hZ) dX9_measured_29
  · replace hf := sv_if_f c11 hf
    refine sv_iload 0 C dX9_measured_14 rfl ?_
    refine sv_ldc C kw_562 dX9_measured_16 ?_
    refine sv_icmp_ne (tgt := 28) C dX9_measured_18 (by decide) (fun c18 => ?_) (fun c18 => ?_)
    · replace hf := sv_if_f c18 hf
      refine sv_iload_n 2 C dX9_measured_28 rfl rfl ?_
      exact sv_iret C (by cases hf; exact hZ) dX9_measured_29
    · replace hf := sv_if_t c18 hf
      refine sv_aload_n 1 C dX9_measured_21 rfl rfl ?_
      obtain ⟨q22, hc22, hf⟩ := sv_bind_some hf
      refine sv_callV0 C mv_X9_166 (m_X9_bad (sv_l X) E h0 ad sz _ _ hc22) sv_sx0 0 rfl rfl rfl rfl (Nat.le_of_ble_eq_true rfl) ⟨by rw [hR]; decide, by rw [hR]; decide⟩ ⟨by rw [hR]; decide, by rw [hR]; decide⟩ dX9_measured_22 ?_
      refine sv_goto (tgt := 29) C dX9_measured_25 (by decide) ?_
      exact sv_iret C (by cases hf; exact hZ) dX9_measured_29
def f_X9_gga_149 (B : md_B) (s0 : Int32) (s1 : Int32) : Option (md_B) :=
  sv_g (sv_inb s1 18) (
    (f_X9_decimal (md_pa B 15 s1 s0) 8 2 2 0).bind (fun q161 =>
      (f_X9_decimal (md_pa q161.2 15 5 q161.1) 9 1 5 1).bind (fun q178 =>
        (f_X9_measured q178.2 q178.1 10 ([77])).bind (fun q185 =>
          (f_X9_decimal (md_pa q185.2 15 6 q185.1) 11 1 4 1).bind (fun q202 =>
            (f_X9_measured q202.2 q202.1 12 ([77])).bind (fun q209 =>
              (f_X9_decimal (md_pa q209.2 15 7 q209.1) 13 1 4 0).bind (fun q225 =>
                (f_X9_number (md_pa q225.2 15 8 q225.1) 14 4).bind (fun q239 =>
                  some (md_pa q239.2 15 9 q239.1)))))))))
def f_X9_gga_129 (B : md_B) (s0 : Int32) : Option (md_B) :=
  (f_X9_bad B).bind (fun q130 =>
    f_X9_gga_149 q130.2 q130.1 s0)
def f_X9_gga_84 (B : md_B) : Option (md_B) :=
  (f_X9_size B 7).bind (fun q92 =>
    if q92.1 = 0 then
      f_X9_gga_149 q92.2 (-2147483648) 4
    else
      (f_X9_size q92.2 7).bind (fun q106 =>
        if 2 < q106.1 then
          f_X9_gga_129 q106.2 4
        else
          (f_X9_digits q106.2 7 0).bind (fun q117 =>
            (f_X9_size q117.2 7).bind (fun q123 =>
              if q117.1 = q123.1 then
                (f_X9_size q123.2 7).bind (fun q143 =>
                  (f_X9_whole q143.2 7 0 q143.1).bind (fun q146 =>
                    f_X9_gga_149 q146.2 q146.1 4))
              else
                f_X9_gga_129 q123.2 4))))
def f_X9_gga_79 (B : md_B) : Option (md_B) :=
  f_X9_gga_84 (md_pf B 14 0)
def f_X9_gga (B : md_B) : Option (md_B) :=
  (f_X9_time B 1).bind (fun q7 =>
    (f_X9_place (md_pa q7.2 15 0 q7.1) 2 4 90 ([78, 83])).bind (fun q23 =>
      (f_X9_place (md_pa q23.2 15 1 q23.1) 4 5 180 ([69, 87])).bind (fun q40 =>
        (f_X9_number (md_pa q40.2 15 2 q40.1) 6 1).bind (fun q53 =>
          if ((md_pa q53.2 15 3 q53.1).2 15 (3 : Int32).toNatClampNeg) = (-2147483648) then
            f_X9_gga_79 (md_pa q53.2 15 3 q53.1)
          else
            if ((md_pa q53.2 15 3 q53.1).2 15 (3 : Int32).toNatClampNeg) ≤ 8 then
              f_X9_gga_84 (md_pa q53.2 15 3 q53.1)
            else
              f_X9_gga_79 (md_pa q53.2 15 3 q53.1)))))
set_option maxHeartbeats 4000000 in
set_option maxRecDepth 100000 in
theorem w_X9_gga_149 {E : sv_E} {X : sv_X} {sz : Nat} {q : md_B} {h0 : Nat} {ad : Nat → Nat} (C : sv_C E X cX9_gga RX9 []) (hZ : sv_Z E X none none (md_w E h0 ad q) sz 0 0) (hR : sv_R X = { frames := 7, cells := 0, slots := 0, locals := 161 }) (hN : sv_nL X = 1) (B : md_B) (s0 : Int32) (s1 : Int32) (hf : f_X9_gga_149 B s0 s1 = some q) : sv_J E X (md_w E h0 ad B) sz 0 0 149 [(0, .ref h0)] [.int s0, .int s1, .ref (ad 15)] := by
  rw [f_X9_gga_149] at hf
  obtain ⟨g149, hf⟩ := sv_g_some hf
  refine md_iast C 6 rfl g149 dX9_gga_149 ?_
  refine sv_aload_n 0 C dX9_gga_150 rfl rfl ?_
  refine md_getr C fl_X9_32 (by decide) dX9_gga_151 ?_
  refine sv_iconst (v := 5) C dX9_gga_154 (by decide) ?_
  refine sv_aload_n 0 C dX9_gga_155 rfl rfl ?_
  refine sv_bipush (v := 8) C dX9_gga_156 (by decide) ?_
  refine sv_iconst (v := 2) C dX9_gga_158 (by decide) ?_
  refine sv_iconst (v := 2) C dX9_gga_159 (by decide) ?_
  refine sv_iconst (v := 0) C dX9_gga_160 (by decide) ?_
  obtain ⟨q161, hc161, hf⟩ := sv_bind_some hf
  refine sv_callV0 C mv_X9_222 (m_X9_decimal (sv_l X) E h0 ad sz _ _ _ _ _ _ hc161) sv_sx0 0 rfl rfl rfl rfl (Nat.le_of_ble_eq_true rfl) ⟨by rw [hR]; decide, by rw [hR]; decide⟩ ⟨by rw [hR]; decide, by rw [hR]; decide⟩ dX9_gga_161 ?_
  refine md_iast C 6 rfl (by decide) dX9_gga_164 ?_
  refine sv_aload_n 0 C dX9_gga_165 rfl rfl ?_
  refine md_getr C fl_X9_32 (by decide) dX9_gga_166 ?_
  refine sv_bipush (v := 6) C dX9_gga_169 (by decide) ?_
  refine sv_aload_n 0 C dX9_gga_171 rfl rfl ?_
  refine sv_aload_n 0 C dX9_gga_172 rfl rfl ?_
  refine sv_bipush (v := 9) C dX9_gga_173 (by decide) ?_
  refine sv_iconst (v := 1) C dX9_gga_175 (by decide) ?_
  refine sv_iconst (v := 5) C dX9_gga_176 (by decide) ?_
  refine sv_iconst (v := 1) C dX9_gga_177 (by decide) ?_
  obtain ⟨q178, hc178, hf⟩ := sv_bind_some hf
  refine sv_callV0 C mv_X9_222 (m_X9_decimal (sv_l X) E h0 ad sz _ _ _ _ _ _ hc178) sv_sx0 0 rfl rfl rfl rfl (Nat.le_of_ble_eq_true rfl) ⟨by rw [hR]; decide, by rw [hR]; decide⟩ ⟨by rw [hR]; decide, by rw [hR]; decide⟩ dX9_gga_178 ?_
  refine sv_bipush (v := 10) C dX9_gga_181 (by decide) ?_
  refine sv_ldcS (i := 26) C (by rfl) dX9_gga_183 ?_
  obtain ⟨q185, hc185, hf⟩ := sv_bind_some hf
  refine sv_callV0 C mv_X9_228 (m_X9_measured (sv_l X) E h0 ad sz (E.2.2.1 26) (E.2.2.2.1 26) _ _ _ _ _ hc185) (sv_sxi (i := 26) (by rfl)) 0 rfl rfl rfl rfl (Nat.le_of_ble_eq_true rfl) ⟨by rw [hR]; decide, by rw [hR]; decide⟩ ⟨by rw [hR]; decide, by rw [hR]; decide⟩ dX9_gga_185 ?_
  refine md_iast C 6 rfl (by decide) dX9_gga_188 ?_
  refine sv_aload_n 0 C dX9_gga_189 rfl rfl ?_
  refine md_getr C fl_X9_32 (by decide) dX9_gga_190 ?_
  refine sv_bipush (v := 7) C dX9_gga_193 (by decide) ?_
  refine sv_aload_n 0 C dX9_gga_195 rfl rfl ?_
  refine sv_aload_n 0 C dX9_gga_196 rfl rfl ?_
  refine sv_bipush (v := 11) C dX9_gga_197 (by decide) ?_
  refine sv_iconst (v := 1) C dX9_gga_199 (by decide) ?_
  refine sv_iconst (v := 4) C dX9_gga_200 (by decide) ?_
  refine sv_iconst (v := 1) C dX9_gga_201 (by decide) ?_
  obtain ⟨q202, hc202, hf⟩ := sv_bind_some hf
  refine sv_callV0 C mv_X9_222 (m_X9_decimal (sv_l X) E h0 ad sz _ _ _ _ _ _ hc202) sv_sx0 0 rfl rfl rfl rfl (Nat.le_of_ble_eq_true rfl) ⟨by rw [hR]; decide, by rw [hR]; decide⟩ ⟨by rw [hR]; decide, by rw [hR]; decide⟩ dX9_gga_202 ?_
  refine sv_bipush (v := 12) C dX9_gga_205 (by decide) ?_
  refine sv_ldcS (i := 26) C (by rfl) dX9_gga_207 ?_
  obtain ⟨q209, hc209, hf⟩ := sv_bind_some hf
  refine sv_callV0 C mv_X9_228 (m_X9_measured (sv_l X) E h0 ad sz (E.2.2.1 26) (E.2.2.2.1 26) _ _ _ _ _ hc209) (sv_sxi (i := 26) (by rfl)) 0 rfl rfl rfl rfl (Nat.le_of_ble_eq_true rfl) ⟨by rw [hR]; decide, by rw [hR]; decide⟩ ⟨by rw [hR]; decide, by rw [hR]; decide⟩ dX9_gga_209 ?_
  refine md_iast C 6 rfl (by decide) dX9_gga_212 ?_
  refine sv_aload_n 0 C dX9_gga_213 rfl rfl ?_
  refine md_getr C fl_X9_32 (by decide) dX9_gga_214 ?_
  refine sv_bipush (v := 8) C dX9_gga_217 (by decide) ?_
  refine sv_aload_n 0 C dX9_gga_219 rfl rfl ?_
  refine sv_bipush (v := 13) C dX9_gga_220 (by decide) ?_
  refine sv_iconst (v := 1) C dX9_gga_222 (by decide) ?_
  refine sv_iconst (v := 4) C dX9_gga_223 (by decide) ?_
  refine sv_iconst (v := 0) C dX9_gga_224 (by decide) ?_
  obtain ⟨q225, hc225, hf⟩ := sv_bind_some hf
  refine sv_callV0 C mv_X9_222 (m_X9_decimal (sv_l X) E h0 ad sz _ _ _ _ _ _ hc225) sv_sx0 0 rfl rfl rfl rfl (Nat.le_of_ble_eq_true rfl) ⟨by rw [hR]; decide, by rw [hR]; decide⟩ ⟨by rw [hR]; decide, by rw [hR]; decide⟩ dX9_gga_225 ?_
  refine md_iast C 6 rfl (by decide) dX9_gga_228 ?_
  refine sv_aload_n 0 C dX9_gga_229 rfl rfl ?_
  refine md_getr C fl_X9_32 (by decide) dX9_gga_230 ?_
  refine sv_bipush (v := 9) C dX9_gga_233 (by decide) ?_
  refine sv_aload_n 0 C dX9_gga_235 rfl rfl ?_
  refine sv_bipush (v := 14) C dX9_gga_236 (by decide) ?_
  refine sv_iconst (v := 4) C dX9_gga_238 (by decide) ?_
  obtain ⟨q239, hc239, hf⟩ := sv_bind_some hf
  refine sv_callV0 C mv_X9_180 (m_X9_number (sv_l X) E h0 ad sz _ _ _ _ hc239) sv_sx0 0 rfl rfl rfl rfl (Nat.le_of_ble_eq_true rfl) ⟨by rw [hR]; decide, by rw [hR]; decide⟩ ⟨by rw [hR]; decide, by rw [hR]; decide⟩ dX9_gga_239 ?_
  refine md_iast C 6 rfl (by decide) dX9_gga_242 ?_
  exact sv_vret C (by cases hf; exact hZ) dX9_gga_243
set_option maxHeartbeats 4000000 in
set_option maxRecDepth 100000 in
theorem w_X9_gga_129 {E : sv_E} {X : sv_X} {sz : Nat} {q : md_B} {h0 : Nat} {ad : Nat → Nat} (C : sv_C E X cX9_gga RX9 []) (hZ : sv_Z E X none none (md_w E h0 ad q) sz 0 0) (hR : sv_R X = { frames := 7, cells := 0, slots := 0, locals := 161 }) (hN : sv_nL X = 1) (B : md_B) (s0 : Int32) (hf : f_X9_gga_129 B s0 = some q) : sv_J E X (md_w E h0 ad B) sz 0 0 129 [(0, .ref h0)] [.int s0, .ref (ad 15)] := by
  rw [f_X9_gga_129] at hf
  refine sv_aload_n 0 C dX9_gga_129 rfl rfl ?_
  obtain ⟨q130, hc130, hf⟩ := sv_bind_some hf
  refine sv_callV0 C mv_X9_166 (m_X9_bad (sv_l X) E h0 ad sz _ _ hc130) sv_sx0 0 rfl rfl rfl rfl (Nat.le_of_ble_eq_true rfl) ⟨by rw [hR]; decide, by rw [hR]; decide⟩ ⟨by rw [hR]; decide, by rw [hR]; decide⟩ dX9_gga_130 ?_
  refine sv_goto (tgt := 149) C dX9_gga_133 (by decide) ?_
  refine sv_sub (lv' := [(0, .ref h0)]) [0] rfl ?_
  exact w_X9_gga_149 C hZ hR hN _ _ _ hf
set_option maxHeartbeats 4000000 in
set_option maxRecDepth 100000 in
theorem w_X9_gga_84 {E : sv_E} {X : sv_X} {sz : Nat} {q : md_B} {h0 : Nat} {ad : Nat → Nat} (C : sv_C E X cX9_gga RX9 []) (hZ : sv_Z E X none none (md_w E h0 ad q) sz 0 0) (hR : sv_R X = { frames := 7, cells := 0, slots := 0, locals := 161 }) (hN : sv_nL X = 1) (B : md_B) (hf : f_X9_gga_84 B = some q) : sv_J E X (md_w E h0 ad B) sz 0 0 84 [(0, .ref h0)] [] := by
  rw [f_X9_gga_84] at hf
  refine sv_aload_n 0 C dX9_gga_84 rfl rfl ?_
  refine md_getr C fl_X9_32 (by decide) dX9_gga_85 ?_
  refine sv_iconst (v := 4) C dX9_gga_88 (by decide) ?_
  refine sv_aload_n 0 C dX9_gga_89 rfl rfl ?_
  refine sv_bipush (v := 7) C dX9_gga_90 (by decide) ?_
  obtain ⟨q92, hc92, hf⟩ := sv_bind_some hf
  refine sv_callV0 C mv_X9_153 (m_X9_size (sv_l X) E h0 ad sz _ _ _ hc92) sv_sx0 0 rfl rfl rfl rfl (Nat.le_of_ble_eq_true rfl) ⟨by rw [hR]; decide, by rw [hR]; decide⟩ ⟨by rw [hR]; decide, by rw [hR]; decide⟩ dX9_gga_92 ?_
  refine sv_if_ne (tgt := 103) C dX9_gga_95 (by decide) (fun c95 => ?_) (fun c95 => ?_)
  · replace hf := sv_if_f c95 hf
    refine sv_aload_n 0 C dX9_gga_103 rfl rfl ?_
    refine sv_bipush (v := 7) C dX9_gga_104 (by decide) ?_
    obtain ⟨q106, hc106, hf⟩ := sv_bind_some hf
    refine sv_callV0 C mv_X9_153 (m_X9_size (sv_l X) E h0 ad sz _ _ _ hc106) sv_sx0 0 rfl rfl rfl rfl (Nat.le_of_ble_eq_true rfl) ⟨by rw [hR]; decide, by rw [hR]; decide⟩ ⟨by rw [hR]; decide, by rw [hR]; decide⟩ dX9_gga_106 ?_
    refine sv_iconst (v := 2) C dX9_gga_109 (by decide) ?_
    refine sv_icmp_gt (tgt := 129) C dX9_gga_110 (by decide) (fun c110 => ?_) (fun c110 => ?_)
    · replace hf := sv_if_t c110 hf
      refine sv_sub (lv' := [(0, .ref h0)]) [0] rfl ?_
      exact w_X9_gga_129 C hZ hR hN _ _ hf
    · replace hf := sv_if_f c110 hf
      refine sv_aload_n 0 C dX9_gga_113 rfl rfl ?_
      refine sv_bipush (v := 7) C dX9_gga_114 (by decide) ?_
      refine sv_iconst (v := 0) C dX9_gga_116 (by decide) ?_
      obtain ⟨q117, hc117, hf⟩ := sv_bind_some hf
      refine sv_callV0 C mv_X9_163 (m_X9_digits (sv_l X) E h0 ad sz _ _ _ _ hc117) sv_sx0 0 rfl rfl rfl rfl (Nat.le_of_ble_eq_true rfl) ⟨by rw [hR]; decide, by rw [hR]; decide⟩ ⟨by rw [hR]; decide, by rw [hR]; decide⟩ dX9_gga_117 ?_
      refine sv_aload_n 0 C dX9_gga_120 rfl rfl ?_
      refine sv_bipush (v := 7) C dX9_gga_121 (by decide) ?_
      obtain ⟨q123, hc123, hf⟩ := sv_bind_some hf
      refine sv_callV0 C mv_X9_153 (m_X9_size (sv_l X) E h0 ad sz _ _ _ hc123) sv_sx0 0 rfl rfl rfl rfl (Nat.le_of_ble_eq_true rfl) ⟨by rw [hR]; decide, by rw [hR]; decide⟩ ⟨by rw [hR]; decide, by rw [hR]; decide⟩ dX9_gga_123 ?_
      refine sv_icmp_eq (tgt := 136) C dX9_gga_126 (by decide) (fun c126 => ?_) (fun c126 => ?_)
      · replace hf := sv_if_t c126 hf
        refine sv_aload_n 0 C dX9_gga_136 rfl rfl ?_
        refine sv_bipush (v := 7) C dX9_gga_137 (by decide) ?_
        refine sv_iconst (v := 0) C dX9_gga_139 (by decide) ?_
        refine sv_aload_n 0 C dX9_gga_140 rfl rfl ?_
        refine sv_bipush (v := 7) C dX9_gga_141 (by decide) ?_
        obtain ⟨q143, hc143, hf⟩ := sv_bind_some hf
        refine sv_callV0 C mv_X9_153 (m_X9_size (sv_l X) E h0 ad sz _ _ _ hc143) sv_sx0 0 rfl rfl rfl rfl (Nat.le_of_ble_eq_true rfl) ⟨by rw [hR]; decide, by rw [hR]; decide⟩ ⟨by rw [hR]; decide, by rw [hR]; decide⟩ dX9_gga_143 ?_
        obtain ⟨q146, hc146, hf⟩ := sv_bind_some hf
        refine sv_callV0 C mv_X9_173 (m_X9_whole (sv_l X) E h0 ad sz _ _ _ _ _ hc146) sv_sx0 0 rfl rfl rfl rfl (Nat.le_of_ble_eq_true rfl) ⟨by rw [hR]; decide, by rw [hR]; decide⟩ ⟨by rw [hR]; decide, by rw [hR]; decide⟩ dX9_gga_146 ?_
        refine sv_sub (lv' := [(0, .ref h0)]) [0] rfl ?_
        exact w_X9_gga_149 C hZ hR hN _ _ _ hf
      · replace hf := sv_if_f c126 hf
        refine sv_sub (lv' := [(0, .ref h0)]) [0] rfl ?_
        exact w_X9_gga_129 C hZ hR hN _ _ hf
  · replace hf := sv_if_t c95 hf
    refine sv_ldc C kw_562 dX9_gga_98 ?_
    refine sv_goto (tgt := 149) C dX9_gga_100 (by decide) ?_
    refine sv_sub (lv' := [(0, .ref h0)]) [0] rfl ?_
    exact w_X9_gga_149 C hZ hR hN _ _ _ hf
set_option maxHeartbeats 4000000 in
set_option maxRecDepth 100000 in
theorem w_X9_gga_79 {E : sv_E} {X : sv_X} {sz : Nat} {q : md_B} {h0 : Nat} {ad : Nat → Nat} (C : sv_C E X cX9_gga RX9 []) (hZ : sv_Z E X none none (md_w E h0 ad q) sz 0 0) (hR : sv_R X = { frames := 7, cells := 0, slots := 0, locals := 161 }) (hN : sv_nL X = 1) (B : md_B) (hf : f_X9_gga_79 B = some q) : sv_J E X (md_w E h0 ad B) sz 0 0 79 [(0, .ref h0)] [] := by
  rw [f_X9_gga_79] at hf
  refine sv_aload_n 0 C dX9_gga_79 rfl rfl ?_
  refine sv_iconst (v := 0) C dX9_gga_80 (by decide) ?_
  refine md_puti C fl_X9_149 (by decide) (by decide) (by decide) dX9_gga_81 ?_
  refine sv_sub (lv' := [(0, .ref h0)]) [0] rfl ?_
  exact w_X9_gga_84 C hZ hR hN _ hf
set_option maxHeartbeats 4000000 in
set_option maxRecDepth 100000 in
theorem m_X9_gga (l : Launch) (E : sv_E) (h0 : Nat) (ad : Nat → Nat) (sz : Nat) (B : md_B) (q : md_B) (hf : f_X9_gga B = some q) : sv_Met l E yX9_gga cX9_gga 1 none 7 161 [] [.ref h0] (md_w E h0 ad B) sz none (md_w E h0 ad q) sz 0 0 := by
  refine sv_ofJ (by decide) (Nat.le_of_ble_eq_true rfl) ?_
  intro X hX hN hnm hR C hZ
  replace C : sv_C E X cX9_gga RX9 [] := C
  show sv_J E X (md_w E h0 ad B) sz 0 0 0 [(0, .ref h0)] []
  rw [f_X9_gga] at hf
  refine sv_aload_n 0 C dX9_gga_0 rfl rfl ?_
  refine md_getr C fl_X9_32 (by decide) dX9_gga_1 ?_
  refine sv_iconst (v := 0) C dX9_gga_4 (by decide) ?_
  refine sv_aload_n 0 C dX9_gga_5 rfl rfl ?_
  refine sv_iconst (v := 1) C dX9_gga_6 (by decide) ?_
  obtain ⟨q7, hc7, hf⟩ := sv_bind_some hf
  refine sv_callV0 C mv_X9_211 (m_X9_time (sv_l X) E h0 ad sz _ _ _ hc7) sv_sx0 0 rfl rfl rfl rfl (Nat.le_of_ble_eq_true rfl) ⟨by rw [hR]; decide, by rw [hR]; decide⟩ ⟨by rw [hR]; decide, by rw [hR]; decide⟩ dX9_gga_7 ?_
  refine md_iast C 6 rfl (by decide) dX9_gga_10 ?_
  refine sv_aload_n 0 C dX9_gga_11 rfl rfl ?_
  refine md_getr C fl_X9_32 (by decide) dX9_gga_12 ?_
  refine sv_iconst (v := 1) C dX9_gga_15 (by decide) ?_
  refine sv_aload_n 0 C dX9_gga_16 rfl rfl ?_
  refine sv_iconst (v := 2) C dX9_gga_17 (by decide) ?_
  refine sv_iconst (v := 4) C dX9_gga_18 (by decide) ?_
  refine sv_bipush (v := 90) C dX9_gga_19 (by decide) ?_
  refine sv_ldcS (i := 24) C (by rfl) dX9_gga_21 ?_
  obtain ⟨q23, hc23, hf⟩ := sv_bind_some hf
  refine sv_callV0 C mv_X9_216 (m_X9_place (sv_l X) E h0 ad sz (E.2.2.1 24) (E.2.2.2.1 24) _ _ _ _ _ _ hc23) (sv_sxi (i := 24) (by rfl)) 0 rfl rfl rfl rfl (Nat.le_of_ble_eq_true rfl) ⟨by rw [hR]; decide, by rw [hR]; decide⟩ ⟨by rw [hR]; decide, by rw [hR]; decide⟩ dX9_gga_23 ?_
  refine md_iast C 6 rfl (by decide) dX9_gga_26 ?_
  refine sv_aload_n 0 C dX9_gga_27 rfl rfl ?_
  refine md_getr C fl_X9_32 (by decide) dX9_gga_28 ?_
  refine sv_iconst (v := 2) C dX9_gga_31 (by decide) ?_
  refine sv_aload_n 0 C dX9_gga_32 rfl rfl ?_
  refine sv_iconst (v := 4) C dX9_gga_33 (by decide) ?_
  refine sv_iconst (v := 5) C dX9_gga_34 (by decide) ?_
  refine sv_sipush (v := 180) C dX9_gga_35 (by decide) ?_
  refine sv_ldcS (i := 25) C (by rfl) dX9_gga_38 ?_
  obtain ⟨q40, hc40, hf⟩ := sv_bind_some hf
  refine sv_callV0 C mv_X9_216 (m_X9_place (sv_l X) E h0 ad sz (E.2.2.1 25) (E.2.2.2.1 25) _ _ _ _ _ _ hc40) (sv_sxi (i := 25) (by rfl)) 0 rfl rfl rfl rfl (Nat.le_of_ble_eq_true rfl) ⟨by rw [hR]; decide, by rw [hR]; decide⟩ ⟨by rw [hR]; decide, by rw [hR]; decide⟩ dX9_gga_40 ?_
  refine md_iast C 6 rfl (by decide) dX9_gga_43 ?_
  refine sv_aload_n 0 C dX9_gga_44 rfl rfl ?_
  refine md_getr C fl_X9_32 (by decide) dX9_gga_45 ?_
  refine sv_iconst (v := 3) C dX9_gga_48 (by decide) ?_
  refine sv_aload_n 0 C dX9_gga_49 rfl rfl ?_
  refine sv_bipush (v := 6) C dX9_gga_50 (by decide) ?_
  refine sv_iconst (v := 1) C dX9_gga_52 (by decide) ?_
  obtain ⟨q53, hc53, hf⟩ := sv_bind_some hf
  refine sv_callV0 C mv_X9_180 (m_X9_number (sv_l X) E h0 ad sz _ _ _ _ hc53) sv_sx0 0 rfl rfl rfl rfl (Nat.le_of_ble_eq_true rfl) ⟨by rw [hR]; decide, by rw [hR]; decide⟩ ⟨by rw [hR]; decide, by rw [hR]; decide⟩ dX9_gga_53 ?_
  refine md_iast C 6 rfl (by decide) dX9_gga_56 ?_
  refine sv_aload_n 0 C dX9_gga_57 rfl rfl ?_
  refine md_getr C fl_X9_32 (by decide) dX9_gga_58 ?_
  refine sv_iconst (v := 3) C dX9_gga_61 (by decide) ?_
  refine md_iald C 6 rfl (by decide) dX9_gga_62 ?_
  refine sv_ldc C kw_562 dX9_gga_63 ?_
  refine sv_icmp_eq (tgt := 79) C dX9_gga_65 (by decide) (fun c65 => ?_) (fun c65 => ?_)
  · replace hf := sv_if_t c65 hf
    refine sv_sub (lv' := [(0, .ref h0)]) [0] rfl ?_
    exact w_X9_gga_79 C hZ hR hN _ hf
  · replace hf := sv_if_f c65 hf
    refine sv_aload_n 0 C dX9_gga_68 rfl rfl ?_
    refine md_getr C fl_X9_32 (by decide) dX9_gga_69 ?_
    refine sv_iconst (v := 3) C dX9_gga_72 (by decide) ?_
    refine md_iald C 6 rfl (by decide) dX9_gga_73 ?_
    refine sv_bipush (v := 8) C dX9_gga_74 (by decide) ?_
    refine sv_icmp_le (tgt := 84) C dX9_gga_76 (by decide) (fun c76 => ?_) (fun c76 => ?_)
    · replace hf := sv_if_t c76 hf
      refine sv_sub (lv' := [(0, .ref h0)]) [0] rfl ?_
      exact w_X9_gga_84 C hZ hR hN _ hf
    · replace hf := sv_if_f c76 hf
      refine sv_sub (lv' := [(0, .ref h0)]) [0] rfl ?_
      exact w_X9_gga_79 C hZ hR hN _ hf
def f_X9_below (B : md_B) (x1 : Int32) (x2 : Int32) : Option (Int32 × md_B) :=
  if x1 = (-2147483648) then
    some (x1, B)
  else
    if x1 ≤ x2 then
      some (x1, B)
    else
      (f_X9_bad B).bind (fun q12 =>
        some (q12.1, q12.2))
set_option maxHeartbeats 4000000 in
set_option maxRecDepth 100000 in
theorem m_X9_below (l : Launch) (E : sv_E) (h0 : Nat) (ad : Nat → Nat) (sz : Nat) (B : md_B) (x1 : Int32) (x2 : Int32) (q : Int32 × md_B) (hf : f_X9_below B x1 x2 = some q) : sv_Met l E yX9_below cX9_below 3 (some .int) 1 20 [] [.ref h0, .int x1, .int x2] (md_w E h0 ad B) sz (some (.int q.1)) (md_w E h0 ad q.2) sz 0 0 := by
  refine sv_ofJ (by decide) (Nat.le_of_ble_eq_true rfl) ?_
  intro X hX hN hnm hR C hZ
  replace C : sv_C E X cX9_below RX9 [] := C
  show sv_J E X (md_w E h0 ad B) sz 0 0 0 [(0, .ref h0), (1, .int x1), (2, .int x2)] []
  rw [f_X9_below] at hf
  refine sv_iload_n 1 C dX9_below_0 rfl rfl ?_
  refine sv_ldc C kw_562 dX9_below_1 ?_
  refine sv_icmp_eq (tgt := 18) C dX9_below_3 (by decide) (fun c3 => ?_) (fun c3 => ?_)
  · replace hf := sv_if_t c3 hf
    refine sv_iload_n 1 C dX9_below_18 rfl rfl ?_
    exact sv_iret C (by cases hf; exact hZ) dX9_below_19
  · replace hf := sv_if_f c3 hf
    refine sv_iload_n 1 C dX9_below_6 rfl rfl ?_
    refine sv_iload_n 2 C dX9_below_7 rfl rfl ?_
    refine sv_icmp_le (tgt := 18) C dX9_below_8 (by decide) (fun c8 => ?_) (fun c8 => ?_)
    · replace hf := sv_if_t c8 hf
      refine sv_iload_n 1 C dX9_below_18 rfl rfl ?_
      exact sv_iret C (by cases hf; exact hZ) dX9_below_19
    · replace hf := sv_if_f c8 hf
      refine sv_aload_n 0 C dX9_below_11 rfl rfl ?_
      obtain ⟨q12, hc12, hf⟩ := sv_bind_some hf
      refine sv_callV0 C mv_X9_166 (m_X9_bad (sv_l X) E h0 ad sz _ _ hc12) sv_sx0 0 rfl rfl rfl rfl (Nat.le_of_ble_eq_true rfl) ⟨by rw [hR]; decide, by rw [hR]; decide⟩ ⟨by rw [hR]; decide, by rw [hR]; decide⟩ dX9_below_12 ?_
      refine sv_goto (tgt := 19) C dX9_below_15 (by decide) ?_
      exact sv_iret C (by cases hf; exact hZ) dX9_below_19
def f_X9_date_57 (B : md_B) : Option (Int32 × md_B) :=
  (f_X9_bad B).bind (fun q58 =>
    some (q58.1, q58.2))
def f_X9_date (B : md_B) (x1 : Int32) : Option (Int32 × md_B) :=
  (f_X9_number B x1 6).bind (fun q4 =>
    if q4.1 = (-2147483648) then
      some ((-2147483648), q4.2)
    else
      (f_X9_in q4.2 ((q4.1 / 10000).toInt64) 1 31).bind (fun q38 =>
        if q38.1 = 0 then
          f_X9_date_57 q38.2
        else
          (f_X9_in q38.2 (((q4.1 / 100) - (q4.1 / 100) / 100 * 100).toInt64) 1 12).bind (fun q51 =>
            if q51.1 = 0 then
              f_X9_date_57 q51.2
            else
              some (((q4.1 / 10000) + (100 * ((q4.1 / 100) - (q4.1 / 100) / 100 * 100))) + (10000 * (q4.1 - q4.1 / 100 * 100)), q51.2))))
set_option maxHeartbeats 4000000 in
set_option maxRecDepth 100000 in
theorem w_X9_date_57 {E : sv_E} {X : sv_X} {sz : Nat} {q : Int32 × md_B} {h0 : Nat} {ad : Nat → Nat} (C : sv_C E X cX9_date RX9 []) (hZ : sv_Z E X (some .int) (some (.int q.1)) (md_w E h0 ad q.2) sz 0 0) (hR : sv_R X = { frames := 4, cells := 0, slots := 0, locals := 90 }) (hN : sv_nL X = 5) (B : md_B) (hf : f_X9_date_57 B = some q) : sv_J E X (md_w E h0 ad B) sz 0 0 57 [(0, .ref h0)] [] := by
  rw [f_X9_date_57] at hf
  refine sv_aload_n 0 C dX9_date_57 rfl rfl ?_
  obtain ⟨q58, hc58, hf⟩ := sv_bind_some hf
  refine sv_callV0 C mv_X9_166 (m_X9_bad (sv_l X) E h0 ad sz _ _ hc58) sv_sx0 0 rfl rfl rfl rfl (Nat.le_of_ble_eq_true rfl) ⟨by rw [hR]; decide, by rw [hR]; decide⟩ ⟨by rw [hR]; decide, by rw [hR]; decide⟩ dX9_date_58 ?_
  refine sv_goto (tgt := 80) C dX9_date_61 (by decide) ?_
  exact sv_iret C (by cases hf; exact hZ) dX9_date_80
set_option maxHeartbeats 4000000 in
set_option maxRecDepth 100000 in
theorem m_X9_date (l : Launch) (E : sv_E) (h0 : Nat) (ad : Nat → Nat) (sz : Nat) (B : md_B) (x1 : Int32) (q : Int32 × md_B) (hf : f_X9_date B x1 = some q) : sv_Met l E yX9_date cX9_date 5 (some .int) 4 90 [] [.ref h0, .int x1] (md_w E h0 ad B) sz (some (.int q.1)) (md_w E h0 ad q.2) sz 0 0 := by
  refine sv_ofJ (by decide) (Nat.le_of_ble_eq_true rfl) ?_
  intro X hX hN hnm hR C hZ
  replace C : sv_C E X cX9_date RX9 [] := C
  show sv_J E X (md_w E h0 ad B) sz 0 0 0 [(0, .ref h0), (1, .int x1)] []
  rw [f_X9_date] at hf
  refine sv_aload_n 0 C dX9_date_0 rfl rfl ?_
  refine sv_iload_n 1 C dX9_date_1 rfl rfl ?_
  refine sv_bipush (v := 6) C dX9_date_2 (by decide) ?_
  obtain ⟨q4, hc4, hf⟩ := sv_bind_some hf
  refine sv_callV0 C mv_X9_180 (m_X9_number (sv_l X) E h0 ad sz _ _ _ _ hc4) sv_sx0 0 rfl rfl rfl rfl (Nat.le_of_ble_eq_true rfl) ⟨by rw [hR]; decide, by rw [hR]; decide⟩ ⟨by rw [hR]; decide, by rw [hR]; decide⟩ dX9_date_4 ?_
  refine sv_istore_n (lv' := [(2, .int q4.1), (0, .ref h0), (1, .int x1)]) C dX9_date_7 rfl (by rw [hN]; decide) rfl ?_
  refine sv_iload_n 0 C dX9_date_8 rfl rfl ?_
  refine sv_ldc C kw_562 dX9_date_9 ?_
  refine sv_icmp_ne (tgt := 17) C dX9_date_11 (by decide) (fun c11 => ?_) (fun c11 => ?_)
  · replace hf := sv_if_f c11 hf
    refine sv_iload_n 0 C dX9_date_17 rfl rfl ?_
    refine sv_sipush (v := 10000) C dX9_date_18 (by decide) ?_
    refine sv_idiv C dX9_date_21 (by decide) ?_
    refine sv_istore_n (lv' := [(3, .int (q4.1 / 10000)), (2, .int q4.1), (0, .ref h0), (1, .int x1)]) C dX9_date_22 rfl (by rw [hN]; decide) rfl ?_
    refine sv_iload_n 1 C dX9_date_23 rfl rfl ?_
    refine sv_bipush (v := 100) C dX9_date_24 (by decide) ?_
    refine sv_idiv C dX9_date_26 (by decide) ?_
    refine sv_bipush (v := 100) C dX9_date_27 (by decide) ?_
    refine sv_irem C dX9_date_29 (by decide) ?_
    refine sv_istore (lv' := [(4, .int ((q4.1 / 100) - (q4.1 / 100) / 100 * 100)), (3, .int (q4.1 / 10000)), (2, .int q4.1), (0, .ref h0), (1, .int x1)]) C dX9_date_30 (by rw [hN]; decide) rfl ?_
    refine sv_iload_n 1 C dX9_date_32 rfl rfl ?_
    refine sv_i2l C dX9_date_33 ?_
    refine sv_lconst (v := 1) C dX9_date_34 (by decide) ?_
    refine sv_ldc2 C kw_661 dX9_date_35 ?_
    obtain ⟨q38, hc38, hf⟩ := sv_bind_some hf
    refine sv_callS0 C ms_X9_74 (m_X9_in (sv_l X) E h0 ad sz _ _ _ _ _ hc38) sv_sx0 rfl rfl (Nat.le_of_ble_eq_true rfl) ⟨by rw [hR]; decide, by rw [hR]; decide⟩ ⟨by rw [hR]; decide, by rw [hR]; decide⟩ dX9_date_38 ?_
    refine sv_if_eq (tgt := 57) C dX9_date_41 (by decide) (fun c41 => ?_) (fun c41 => ?_)
    · replace hf := sv_if_t c41 hf
      refine sv_sub (lv' := [(0, .ref h0)]) [3] rfl ?_
      exact w_X9_date_57 C hZ hR hN _ hf
    · replace hf := sv_if_f c41 hf
      refine sv_iload 0 C dX9_date_44 rfl ?_
      refine sv_i2l C dX9_date_46 ?_
      refine sv_lconst (v := 1) C dX9_date_47 (by decide) ?_
      refine sv_ldc2 C kw_662 dX9_date_48 ?_
      obtain ⟨q51, hc51, hf⟩ := sv_bind_some hf
      refine sv_callS0 C ms_X9_74 (m_X9_in (sv_l X) E h0 ad sz _ _ _ _ _ hc51) sv_sx0 rfl rfl (Nat.le_of_ble_eq_true rfl) ⟨by rw [hR]; decide, by rw [hR]; decide⟩ ⟨by rw [hR]; decide, by rw [hR]; decide⟩ dX9_date_51 ?_
      refine sv_if_ne (tgt := 64) C dX9_date_54 (by decide) (fun c54 => ?_) (fun c54 => ?_)
      · replace hf := sv_if_f c54 hf
        refine sv_iload_n 1 C dX9_date_64 rfl rfl ?_
        refine sv_bipush (v := 100) C dX9_date_65 (by decide) ?_
        refine sv_iload 0 C dX9_date_67 rfl ?_
        refine sv_imul C dX9_date_69 ?_
        refine sv_iadd C dX9_date_70 ?_
        refine sv_sipush (v := 10000) C dX9_date_71 (by decide) ?_
        refine sv_iload_n 2 C dX9_date_74 rfl rfl ?_
        refine sv_bipush (v := 100) C dX9_date_75 (by decide) ?_
        refine sv_irem C dX9_date_77 (by decide) ?_
        refine sv_imul C dX9_date_78 ?_
        refine sv_iadd C dX9_date_79 ?_
        exact sv_iret C (by cases hf; exact hZ) dX9_date_80
      · replace hf := sv_if_t c54 hf
        refine sv_sub (lv' := [(0, .ref h0)]) [3] rfl ?_
        exact w_X9_date_57 C hZ hR hN _ hf
  · replace hf := sv_if_t c11 hf
    refine sv_ldc C kw_562 dX9_date_14 ?_
    exact sv_iret C (by cases hf; exact hZ) dX9_date_16
def f_X9_rmc_191 (B : md_B) (s0 : Int32) (s1 : Int32) : Option (md_B) :=
  sv_g (sv_inb s1 18) (
    some (md_pa B 15 s1 s0))
def f_X9_rmc_47 (B : md_B) (s0 : Int32) (s1 : Int32) : Option (md_B) :=
  sv_g (sv_inb s1 18) (
    (f_X9_place (md_pa B 15 s1 s0) 3 4 90 ([78, 83])).bind (fun q60 =>
      (f_X9_place (md_pa q60.2 15 1 q60.1) 5 5 180 ([69, 87])).bind (fun q77 =>
        (f_X9_decimal (md_pa q77.2 15 2 q77.1) 7 2 4 0).bind (fun q93 =>
          (f_X9_decimal (md_pa q93.2 15 11 q93.1) 8 2 3 0).bind (fun q110 =>
            (f_X9_below q110.2 q110.1 35999).bind (fun q115 =>
              (f_X9_date (md_pa q115.2 15 12 q115.1) 9).bind (fun q128 =>
                (f_X9_decimal (md_pa q128.2 15 13 q128.1) 10 1 3 0).bind (fun q146 =>
                  (f_X9_below q146.2 q146.1 1800).bind (fun q152 =>
                    (f_X9_sided q152.2 q152.1 11 ([69, 87])).bind (fun q159 =>
                      if ((md_pa q159.2 15 14 q159.1).1 13) = 13 then
                        (f_X9_one (md_pa q159.2 15 14 q159.1) 12 ([65, 68, 69, 77, 78, 83])).bind (fun q183 =>
                          f_X9_rmc_191 q183.2 q183.1 17)
                      else
                        f_X9_rmc_191 (md_pa q159.2 15 14 q159.1) (-2147483648) 17))))))))))
def f_X9_rmc_30 (B : md_B) (x1 : Int32) : Option (md_B) :=
  if x1 = 65 then
    f_X9_rmc_47 B 1 10
  else
    f_X9_rmc_47 B 0 10
def f_X9_rmc (B : md_B) : Option (md_B) :=
  (f_X9_time B 1).bind (fun q7 =>
    (f_X9_one (md_pa q7.2 15 0 q7.1) 2 ([65, 86])).bind (fun q15 =>
      if q15.1 = (-2147483648) then
        f_X9_rmc_30 (md_pf q15.2 14 0) q15.1
      else
        f_X9_rmc_30 q15.2 q15.1))
set_option maxHeartbeats 4000000 in
set_option maxRecDepth 100000 in
theorem w_X9_rmc_191 {E : sv_E} {X : sv_X} {sz : Nat} {q : md_B} {h0 : Nat} {ad : Nat → Nat} (C : sv_C E X cX9_rmc RX9 []) (hZ : sv_Z E X none none (md_w E h0 ad q) sz 0 0) (hR : sv_R X = { frames := 7, cells := 0, slots := 0, locals := 161 }) (hN : sv_nL X = 2) (B : md_B) (s0 : Int32) (s1 : Int32) (hf : f_X9_rmc_191 B s0 s1 = some q) : sv_J E X (md_w E h0 ad B) sz 0 0 191 [] [.int s0, .int s1, .ref (ad 15)] := by
  rw [f_X9_rmc_191] at hf
  obtain ⟨g191, hf⟩ := sv_g_some hf
  refine md_iast C 6 rfl g191 dX9_rmc_191 ?_
  exact sv_vret C (by cases hf; exact hZ) dX9_rmc_192
set_option maxHeartbeats 4000000 in
set_option maxRecDepth 100000 in
theorem w_X9_rmc_47 {E : sv_E} {X : sv_X} {sz : Nat} {q : md_B} {h0 : Nat} {ad : Nat → Nat} (C : sv_C E X cX9_rmc RX9 []) (hZ : sv_Z E X none none (md_w E h0 ad q) sz 0 0) (hR : sv_R X = { frames := 7, cells := 0, slots := 0, locals := 161 }) (hN : sv_nL X = 2) (B : md_B) (s0 : Int32) (s1 : Int32) (hf : f_X9_rmc_47 B s0 s1 = some q) : sv_J E X (md_w E h0 ad B) sz 0 0 47 [(0, .ref h0)] [.int s0, .int s1, .ref (ad 15)] := by
  rw [f_X9_rmc_47] at hf
  obtain ⟨g47, hf⟩ := sv_g_some hf
  refine md_iast C 6 rfl g47 dX9_rmc_47 ?_
  refine sv_aload_n 0 C dX9_rmc_48 rfl rfl ?_
  refine md_getr C fl_X9_32 (by decide) dX9_rmc_49 ?_
  refine sv_iconst (v := 1) C dX9_rmc_52 (by decide) ?_
  refine sv_aload_n 0 C dX9_rmc_53 rfl rfl ?_
  refine sv_iconst (v := 3) C dX9_rmc_54 (by decide) ?_
  refine sv_iconst (v := 4) C dX9_rmc_55 (by decide) ?_
  refine sv_bipush (v := 90) C dX9_rmc_56 (by decide) ?_
  refine sv_ldcS (i := 24) C (by rfl) dX9_rmc_58 ?_
  obtain ⟨q60, hc60, hf⟩ := sv_bind_some hf
  refine sv_callV0 C mv_X9_216 (m_X9_place (sv_l X) E h0 ad sz (E.2.2.1 24) (E.2.2.2.1 24) _ _ _ _ _ _ hc60) (sv_sxi (i := 24) (by rfl)) 0 rfl rfl rfl rfl (Nat.le_of_ble_eq_true rfl) ⟨by rw [hR]; decide, by rw [hR]; decide⟩ ⟨by rw [hR]; decide, by rw [hR]; decide⟩ dX9_rmc_60 ?_
  refine md_iast C 6 rfl (by decide) dX9_rmc_63 ?_
  refine sv_aload_n 0 C dX9_rmc_64 rfl rfl ?_
  refine md_getr C fl_X9_32 (by decide) dX9_rmc_65 ?_
  refine sv_iconst (v := 2) C dX9_rmc_68 (by decide) ?_
  refine sv_aload_n 0 C dX9_rmc_69 rfl rfl ?_
  refine sv_iconst (v := 5) C dX9_rmc_70 (by decide) ?_
  refine sv_iconst (v := 5) C dX9_rmc_71 (by decide) ?_
  refine sv_sipush (v := 180) C dX9_rmc_72 (by decide) ?_
  refine sv_ldcS (i := 25) C (by rfl) dX9_rmc_75 ?_
  obtain ⟨q77, hc77, hf⟩ := sv_bind_some hf
  refine sv_callV0 C mv_X9_216 (m_X9_place (sv_l X) E h0 ad sz (E.2.2.1 25) (E.2.2.2.1 25) _ _ _ _ _ _ hc77) (sv_sxi (i := 25) (by rfl)) 0 rfl rfl rfl rfl (Nat.le_of_ble_eq_true rfl) ⟨by rw [hR]; decide, by rw [hR]; decide⟩ ⟨by rw [hR]; decide, by rw [hR]; decide⟩ dX9_rmc_77 ?_
  refine md_iast C 6 rfl (by decide) dX9_rmc_80 ?_
  refine sv_aload_n 0 C dX9_rmc_81 rfl rfl ?_
  refine md_getr C fl_X9_32 (by decide) dX9_rmc_82 ?_
  refine sv_bipush (v := 11) C dX9_rmc_85 (by decide) ?_
  refine sv_aload_n 0 C dX9_rmc_87 rfl rfl ?_
  refine sv_bipush (v := 7) C dX9_rmc_88 (by decide) ?_
  refine sv_iconst (v := 2) C dX9_rmc_90 (by decide) ?_
  refine sv_iconst (v := 4) C dX9_rmc_91 (by decide) ?_
  refine sv_iconst (v := 0) C dX9_rmc_92 (by decide) ?_
  obtain ⟨q93, hc93, hf⟩ := sv_bind_some hf
  refine sv_callV0 C mv_X9_222 (m_X9_decimal (sv_l X) E h0 ad sz _ _ _ _ _ _ hc93) sv_sx0 0 rfl rfl rfl rfl (Nat.le_of_ble_eq_true rfl) ⟨by rw [hR]; decide, by rw [hR]; decide⟩ ⟨by rw [hR]; decide, by rw [hR]; decide⟩ dX9_rmc_93 ?_
  refine md_iast C 6 rfl (by decide) dX9_rmc_96 ?_
  refine sv_aload_n 0 C dX9_rmc_97 rfl rfl ?_
  refine md_getr C fl_X9_32 (by decide) dX9_rmc_98 ?_
  refine sv_bipush (v := 12) C dX9_rmc_101 (by decide) ?_
  refine sv_aload_n 0 C dX9_rmc_103 rfl rfl ?_
  refine sv_aload_n 0 C dX9_rmc_104 rfl rfl ?_
  refine sv_bipush (v := 8) C dX9_rmc_105 (by decide) ?_
  refine sv_iconst (v := 2) C dX9_rmc_107 (by decide) ?_
  refine sv_iconst (v := 3) C dX9_rmc_108 (by decide) ?_
  refine sv_iconst (v := 0) C dX9_rmc_109 (by decide) ?_
  obtain ⟨q110, hc110, hf⟩ := sv_bind_some hf
  refine sv_callV0 C mv_X9_222 (m_X9_decimal (sv_l X) E h0 ad sz _ _ _ _ _ _ hc110) sv_sx0 0 rfl rfl rfl rfl (Nat.le_of_ble_eq_true rfl) ⟨by rw [hR]; decide, by rw [hR]; decide⟩ ⟨by rw [hR]; decide, by rw [hR]; decide⟩ dX9_rmc_110 ?_
  refine sv_ldc C kw_663 dX9_rmc_113 ?_
  obtain ⟨q115, hc115, hf⟩ := sv_bind_some hf
  refine sv_callV0 C mv_X9_234 (m_X9_below (sv_l X) E h0 ad sz _ _ _ _ hc115) sv_sx0 0 rfl rfl rfl rfl (Nat.le_of_ble_eq_true rfl) ⟨by rw [hR]; decide, by rw [hR]; decide⟩ ⟨by rw [hR]; decide, by rw [hR]; decide⟩ dX9_rmc_115 ?_
  refine md_iast C 6 rfl (by decide) dX9_rmc_118 ?_
  refine sv_aload_n 0 C dX9_rmc_119 rfl rfl ?_
  refine md_getr C fl_X9_32 (by decide) dX9_rmc_120 ?_
  refine sv_bipush (v := 13) C dX9_rmc_123 (by decide) ?_
  refine sv_aload_n 0 C dX9_rmc_125 rfl rfl ?_
  refine sv_bipush (v := 9) C dX9_rmc_126 (by decide) ?_
  obtain ⟨q128, hc128, hf⟩ := sv_bind_some hf
  refine sv_callV0 C mv_X9_237 (m_X9_date (sv_l X) E h0 ad sz _ _ _ hc128) sv_sx0 0 rfl rfl rfl rfl (Nat.le_of_ble_eq_true rfl) ⟨by rw [hR]; decide, by rw [hR]; decide⟩ ⟨by rw [hR]; decide, by rw [hR]; decide⟩ dX9_rmc_128 ?_
  refine md_iast C 6 rfl (by decide) dX9_rmc_131 ?_
  refine sv_aload_n 0 C dX9_rmc_132 rfl rfl ?_
  refine md_getr C fl_X9_32 (by decide) dX9_rmc_133 ?_
  refine sv_bipush (v := 14) C dX9_rmc_136 (by decide) ?_
  refine sv_aload_n 0 C dX9_rmc_138 rfl rfl ?_
  refine sv_aload_n 0 C dX9_rmc_139 rfl rfl ?_
  refine sv_aload_n 0 C dX9_rmc_140 rfl rfl ?_
  refine sv_bipush (v := 10) C dX9_rmc_141 (by decide) ?_
  refine sv_iconst (v := 1) C dX9_rmc_143 (by decide) ?_
  refine sv_iconst (v := 3) C dX9_rmc_144 (by decide) ?_
  refine sv_iconst (v := 0) C dX9_rmc_145 (by decide) ?_
  obtain ⟨q146, hc146, hf⟩ := sv_bind_some hf
  refine sv_callV0 C mv_X9_222 (m_X9_decimal (sv_l X) E h0 ad sz _ _ _ _ _ _ hc146) sv_sx0 0 rfl rfl rfl rfl (Nat.le_of_ble_eq_true rfl) ⟨by rw [hR]; decide, by rw [hR]; decide⟩ ⟨by rw [hR]; decide, by rw [hR]; decide⟩ dX9_rmc_146 ?_
  refine sv_sipush (v := 1800) C dX9_rmc_149 (by decide) ?_
  obtain ⟨q152, hc152, hf⟩ := sv_bind_some hf
  refine sv_callV0 C mv_X9_234 (m_X9_below (sv_l X) E h0 ad sz _ _ _ _ hc152) sv_sx0 0 rfl rfl rfl rfl (Nat.le_of_ble_eq_true rfl) ⟨by rw [hR]; decide, by rw [hR]; decide⟩ ⟨by rw [hR]; decide, by rw [hR]; decide⟩ dX9_rmc_152 ?_
  refine sv_bipush (v := 11) C dX9_rmc_155 (by decide) ?_
  refine sv_ldcS (i := 25) C (by rfl) dX9_rmc_157 ?_
  obtain ⟨q159, hc159, hf⟩ := sv_bind_some hf
  refine sv_callV0 C mv_X9_195 (m_X9_sided (sv_l X) E h0 ad sz (E.2.2.1 25) (E.2.2.2.1 25) _ _ _ _ _ hc159) (sv_sxi (i := 25) (by rfl)) 0 rfl rfl rfl rfl (Nat.le_of_ble_eq_true rfl) ⟨by rw [hR]; decide, by rw [hR]; decide⟩ ⟨by rw [hR]; decide, by rw [hR]; decide⟩ dX9_rmc_159 ?_
  refine md_iast C 6 rfl (by decide) dX9_rmc_162 ?_
  refine sv_aload_n 0 C dX9_rmc_163 rfl rfl ?_
  refine md_getr C fl_X9_32 (by decide) dX9_rmc_164 ?_
  refine sv_bipush (v := 17) C dX9_rmc_167 (by decide) ?_
  refine sv_aload_n 0 C dX9_rmc_169 rfl rfl ?_
  refine md_geti C fl_X9_113 (by decide) dX9_rmc_170 ?_
  refine sv_bipush (v := 13) C dX9_rmc_173 (by decide) ?_
  refine sv_icmp_ne (tgt := 189) C dX9_rmc_175 (by decide) (fun c175 => ?_) (fun c175 => ?_)
  · replace hf := sv_if_f c175 hf
    refine sv_ldc C kw_562 dX9_rmc_189 ?_
    refine sv_sub (lv' := []) [] rfl ?_
    exact w_X9_rmc_191 C hZ hR hN _ _ _ hf
  · replace hf := sv_if_t c175 hf
    refine sv_aload_n 0 C dX9_rmc_178 rfl rfl ?_
    refine sv_bipush (v := 12) C dX9_rmc_179 (by decide) ?_
    refine sv_ldcS (i := 28) C (by rfl) dX9_rmc_181 ?_
    obtain ⟨q183, hc183, hf⟩ := sv_bind_some hf
    refine sv_callV0 C mv_X9_190 (m_X9_one (sv_l X) E h0 ad sz (E.2.2.1 28) (E.2.2.2.1 28) _ _ _ _ hc183) (sv_sxi (i := 28) (by rfl)) 0 rfl rfl rfl rfl (Nat.le_of_ble_eq_true rfl) ⟨by rw [hR]; decide, by rw [hR]; decide⟩ ⟨by rw [hR]; decide, by rw [hR]; decide⟩ dX9_rmc_183 ?_
    refine sv_goto (tgt := 191) C dX9_rmc_186 (by decide) ?_
    refine sv_sub (lv' := []) [] rfl ?_
    exact w_X9_rmc_191 C hZ hR hN _ _ _ hf
set_option maxHeartbeats 4000000 in
set_option maxRecDepth 100000 in
theorem w_X9_rmc_30 {E : sv_E} {X : sv_X} {sz : Nat} {q : md_B} {h0 : Nat} {ad : Nat → Nat} (C : sv_C E X cX9_rmc RX9 []) (hZ : sv_Z E X none none (md_w E h0 ad q) sz 0 0) (hR : sv_R X = { frames := 7, cells := 0, slots := 0, locals := 161 }) (hN : sv_nL X = 2) (B : md_B) (x1 : Int32) (hf : f_X9_rmc_30 B x1 = some q) : sv_J E X (md_w E h0 ad B) sz 0 0 30 [(0, .ref h0), (1, .int x1)] [] := by
  rw [f_X9_rmc_30] at hf
  refine sv_aload_n 0 C dX9_rmc_30 rfl rfl ?_
  refine md_getr C fl_X9_32 (by decide) dX9_rmc_31 ?_
  refine sv_bipush (v := 10) C dX9_rmc_34 (by decide) ?_
  refine sv_iload_n 1 C dX9_rmc_36 rfl rfl ?_
  refine sv_bipush (v := 65) C dX9_rmc_37 (by decide) ?_
  refine sv_icmp_ne (tgt := 46) C dX9_rmc_39 (by decide) (fun c39 => ?_) (fun c39 => ?_)
  · replace hf := sv_if_f c39 hf
    refine sv_iconst (v := 0) C dX9_rmc_46 (by decide) ?_
    refine sv_sub (lv' := [(0, .ref h0)]) [0] rfl ?_
    exact w_X9_rmc_47 C hZ hR hN _ _ _ hf
  · replace hf := sv_if_t c39 hf
    refine sv_iconst (v := 1) C dX9_rmc_42 (by decide) ?_
    refine sv_goto (tgt := 47) C dX9_rmc_43 (by decide) ?_
    refine sv_sub (lv' := [(0, .ref h0)]) [0] rfl ?_
    exact w_X9_rmc_47 C hZ hR hN _ _ _ hf
set_option maxHeartbeats 4000000 in
set_option maxRecDepth 100000 in
theorem m_X9_rmc (l : Launch) (E : sv_E) (h0 : Nat) (ad : Nat → Nat) (sz : Nat) (B : md_B) (q : md_B) (hf : f_X9_rmc B = some q) : sv_Met l E yX9_rmc cX9_rmc 2 none 7 161 [] [.ref h0] (md_w E h0 ad B) sz none (md_w E h0 ad q) sz 0 0 := by
  refine sv_ofJ (by decide) (Nat.le_of_ble_eq_true rfl) ?_
  intro X hX hN hnm hR C hZ
  replace C : sv_C E X cX9_rmc RX9 [] := C
  show sv_J E X (md_w E h0 ad B) sz 0 0 0 [(0, .ref h0)] []
  rw [f_X9_rmc] at hf
  refine sv_aload_n 0 C dX9_rmc_0 rfl rfl ?_
  refine md_getr C fl_X9_32 (by decide) dX9_rmc_1 ?_
  refine sv_iconst (v := 0) C dX9_rmc_4 (by decide) ?_
  refine sv_aload_n 0 C dX9_rmc_5 rfl rfl ?_
  refine sv_iconst (v := 1) C dX9_rmc_6 (by decide) ?_
  obtain ⟨q7, hc7, hf⟩ := sv_bind_some hf
  refine sv_callV0 C mv_X9_211 (m_X9_time (sv_l X) E h0 ad sz _ _ _ hc7) sv_sx0 0 rfl rfl rfl rfl (Nat.le_of_ble_eq_true rfl) ⟨by rw [hR]; decide, by rw [hR]; decide⟩ ⟨by rw [hR]; decide, by rw [hR]; decide⟩ dX9_rmc_7 ?_
  refine md_iast C 6 rfl (by decide) dX9_rmc_10 ?_
  refine sv_aload_n 0 C dX9_rmc_11 rfl rfl ?_
  refine sv_iconst (v := 2) C dX9_rmc_12 (by decide) ?_
  refine sv_ldcS (i := 27) C (by rfl) dX9_rmc_13 ?_
  obtain ⟨q15, hc15, hf⟩ := sv_bind_some hf
  refine sv_callV0 C mv_X9_190 (m_X9_one (sv_l X) E h0 ad sz (E.2.2.1 27) (E.2.2.2.1 27) _ _ _ _ hc15) (sv_sxi (i := 27) (by rfl)) 0 rfl rfl rfl rfl (Nat.le_of_ble_eq_true rfl) ⟨by rw [hR]; decide, by rw [hR]; decide⟩ ⟨by rw [hR]; decide, by rw [hR]; decide⟩ dX9_rmc_15 ?_
  refine sv_istore_n (lv' := [(1, .int q15.1), (0, .ref h0)]) C dX9_rmc_18 rfl (by rw [hN]; decide) rfl ?_
  refine sv_iload_n 0 C dX9_rmc_19 rfl rfl ?_
  refine sv_ldc C kw_562 dX9_rmc_20 ?_
  refine sv_icmp_ne (tgt := 30) C dX9_rmc_22 (by decide) (fun c22 => ?_) (fun c22 => ?_)
  · replace hf := sv_if_f c22 hf
    refine sv_sub (lv' := [(0, .ref h0), (1, .int q15.1)]) [1, 0] rfl ?_
    exact w_X9_rmc_30 C hZ hR hN _ _ hf
  · replace hf := sv_if_t c22 hf
    refine sv_aload_n 1 C dX9_rmc_25 rfl rfl ?_
    refine sv_iconst (v := 0) C dX9_rmc_26 (by decide) ?_
    refine md_puti C fl_X9_149 (by decide) (by decide) (by decide) dX9_rmc_27 ?_
    refine sv_sub (lv' := [(0, .ref h0), (1, .int q15.1)]) [1, 0] rfl ?_
    exact w_X9_rmc_30 C hZ hR hN _ _ hf
def f_X9_vtg_131 (B : md_B) (s0 : Int32) (s1 : Int32) : Option (md_B) :=
  sv_g (sv_inb s1 18) (
    some (md_pa B 15 s1 s0))
def f_X9_vtg (B : md_B) : Option (md_B) :=
  (f_X9_decimal B 1 2 3 0).bind (fun q13 =>
    (f_X9_below q13.2 q13.1 35999).bind (fun q18 =>
      (f_X9_measured q18.2 q18.1 2 ([84])).bind (fun q24 =>
        (f_X9_decimal (md_pa q24.2 15 12 q24.1) 3 2 3 0).bind (fun q41 =>
          (f_X9_below q41.2 q41.1 35999).bind (fun q46 =>
            (f_X9_measured q46.2 q46.1 4 ([77])).bind (fun q52 =>
              (f_X9_decimal (md_pa q52.2 15 15 q52.1) 5 2 4 0).bind (fun q68 =>
                (f_X9_measured q68.2 q68.1 6 ([78])).bind (fun q75 =>
                  (f_X9_decimal (md_pa q75.2 15 11 q75.1) 7 2 4 0).bind (fun q92 =>
                    (f_X9_measured q92.2 q92.1 8 ([75])).bind (fun q99 =>
                      if ((md_pa q99.2 15 16 q99.1).1 13) = 10 then
                        (f_X9_one (md_pa q99.2 15 16 q99.1) 9 ([65, 68, 69, 77, 78, 83])).bind (fun q123 =>
                          f_X9_vtg_131 q123.2 q123.1 17)
                      else
                        f_X9_vtg_131 (md_pa q99.2 15 16 q99.1) (-2147483648) 17))))))))))
set_option maxHeartbeats 4000000 in
set_option maxRecDepth 100000 in
theorem w_X9_vtg_131 {E : sv_E} {X : sv_X} {sz : Nat} {q : md_B} {h0 : Nat} {ad : Nat → Nat} (C : sv_C E X cX9_vtg RX9 []) (hZ : sv_Z E X none none (md_w E h0 ad q) sz 0 0) (hR : sv_R X = { frames := 6, cells := 0, slots := 0, locals := 133 }) (hN : sv_nL X = 1) (B : md_B) (s0 : Int32) (s1 : Int32) (hf : f_X9_vtg_131 B s0 s1 = some q) : sv_J E X (md_w E h0 ad B) sz 0 0 131 [] [.int s0, .int s1, .ref (ad 15)] := by
  rw [f_X9_vtg_131] at hf
  obtain ⟨g131, hf⟩ := sv_g_some hf
  refine md_iast C 6 rfl g131 dX9_vtg_131 ?_
  exact sv_vret C (by cases hf; exact hZ) dX9_vtg_132
set_option maxHeartbeats 4000000 in
set_option maxRecDepth 100000 in
theorem m_X9_vtg (l : Launch) (E : sv_E) (h0 : Nat) (ad : Nat → Nat) (sz : Nat) (B : md_B) (q : md_B) (hf : f_X9_vtg B = some q) : sv_Met l E yX9_vtg cX9_vtg 1 none 6 133 [] [.ref h0] (md_w E h0 ad B) sz none (md_w E h0 ad q) sz 0 0 := by
  refine sv_ofJ (by decide) (Nat.le_of_ble_eq_true rfl) ?_
  intro X hX hN hnm hR C hZ
  replace C : sv_C E X cX9_vtg RX9 [] := C
  show sv_J E X (md_w E h0 ad B) sz 0 0 0 [(0, .ref h0)] []
  rw [f_X9_vtg] at hf
  refine sv_aload_n 0 C dX9_vtg_0 rfl rfl ?_
  refine md_getr C fl_X9_32 (by decide) dX9_vtg_1 ?_
  refine sv_bipush (v := 12) C dX9_vtg_4 (by decide) ?_
  refine sv_aload_n 0 C dX9_vtg_6 rfl rfl ?_
  refine sv_aload_n 0 C dX9_vtg_7 rfl rfl ?_
  refine sv_aload_n 0 C dX9_vtg_8 rfl rfl ?_
  refine sv_iconst (v := 1) C dX9_vtg_9 (by decide) ?_
  refine sv_iconst (v := 2) C dX9_vtg_10 (by decide) ?_
  refine sv_iconst (v := 3) C dX9_vtg_11 (by decide) ?_
  refine sv_iconst (v := 0) C dX9_vtg_12 (by decide) ?_
  obtain ⟨q13, hc13, hf⟩ := sv_bind_some hf
  refine sv_callV0 C mv_X9_222 (m_X9_decimal (sv_l X) E h0 ad sz _ _ _ _ _ _ hc13) sv_sx0 0 rfl rfl rfl rfl (Nat.le_of_ble_eq_true rfl) ⟨by rw [hR]; decide, by rw [hR]; decide⟩ ⟨by rw [hR]; decide, by rw [hR]; decide⟩ dX9_vtg_13 ?_
  refine sv_ldc C kw_663 dX9_vtg_16 ?_
  obtain ⟨q18, hc18, hf⟩ := sv_bind_some hf
  refine sv_callV0 C mv_X9_234 (m_X9_below (sv_l X) E h0 ad sz _ _ _ _ hc18) sv_sx0 0 rfl rfl rfl rfl (Nat.le_of_ble_eq_true rfl) ⟨by rw [hR]; decide, by rw [hR]; decide⟩ ⟨by rw [hR]; decide, by rw [hR]; decide⟩ dX9_vtg_18 ?_
  refine sv_iconst (v := 2) C dX9_vtg_21 (by decide) ?_
  refine sv_ldcS (i := 29) C (by rfl) dX9_vtg_22 ?_
  obtain ⟨q24, hc24, hf⟩ := sv_bind_some hf
  refine sv_callV0 C mv_X9_228 (m_X9_measured (sv_l X) E h0 ad sz (E.2.2.1 29) (E.2.2.2.1 29) _ _ _ _ _ hc24) (sv_sxi (i := 29) (by rfl)) 0 rfl rfl rfl rfl (Nat.le_of_ble_eq_true rfl) ⟨by rw [hR]; decide, by rw [hR]; decide⟩ ⟨by rw [hR]; decide, by rw [hR]; decide⟩ dX9_vtg_24 ?_
  refine md_iast C 6 rfl (by decide) dX9_vtg_27 ?_
  refine sv_aload_n 0 C dX9_vtg_28 rfl rfl ?_
  refine md_getr C fl_X9_32 (by decide) dX9_vtg_29 ?_
  refine sv_bipush (v := 15) C dX9_vtg_32 (by decide) ?_
  refine sv_aload_n 0 C dX9_vtg_34 rfl rfl ?_
  refine sv_aload_n 0 C dX9_vtg_35 rfl rfl ?_
  refine sv_aload_n 0 C dX9_vtg_36 rfl rfl ?_
  refine sv_iconst (v := 3) C dX9_vtg_37 (by decide) ?_
  refine sv_iconst (v := 2) C dX9_vtg_38 (by decide) ?_
  refine sv_iconst (v := 3) C dX9_vtg_39 (by decide) ?_
  refine sv_iconst (v := 0) C dX9_vtg_40 (by decide) ?_
  obtain ⟨q41, hc41, hf⟩ := sv_bind_some hf
  refine sv_callV0 C mv_X9_222 (m_X9_decimal (sv_l X) E h0 ad sz _ _ _ _ _ _ hc41) sv_sx0 0 rfl rfl rfl rfl (Nat.le_of_ble_eq_true rfl) ⟨by rw [hR]; decide, by rw [hR]; decide⟩ ⟨by rw [hR]; decide, by rw [hR]; decide⟩ dX9_vtg_41 ?_
  refine sv_ldc C kw_663 dX9_vtg_44 ?_
  obtain ⟨q46, hc46, hf⟩ := sv_bind_some hf
  refine sv_callV0 C mv_X9_234 (m_X9_below (sv_l X) E h0 ad sz _ _ _ _ hc46) sv_sx0 0 rfl rfl rfl rfl (Nat.le_of_ble_eq_true rfl) ⟨by rw [hR]; decide, by rw [hR]; decide⟩ ⟨by rw [hR]; decide, by rw [hR]; decide⟩ dX9_vtg_46 ?_
  refine sv_iconst (v := 4) C dX9_vtg_49 (by decide) ?_
  refine sv_ldcS (i := 26) C (by rfl) dX9_vtg_50 ?_
  obtain ⟨q52, hc52, hf⟩ := sv_bind_some hf
  refine sv_callV0 C mv_X9_228 (m_X9_measured (sv_l X) E h0 ad sz (E.2.2.1 26) (E.2.2.2.1 26) _ _ _ _ _ hc52) (sv_sxi (i := 26) (by rfl)) 0 rfl rfl rfl rfl (Nat.le_of_ble_eq_true rfl) ⟨by rw [hR]; decide, by rw [hR]; decide⟩ ⟨by rw [hR]; decide, by rw [hR]; decide⟩ dX9_vtg_52 ?_
  refine md_iast C 6 rfl (by decide) dX9_vtg_55 ?_
  refine sv_aload_n 0 C dX9_vtg_56 rfl rfl ?_
  refine md_getr C fl_X9_32 (by decide) dX9_vtg_57 ?_
  refine sv_bipush (v := 11) C dX9_vtg_60 (by decide) ?_
  refine sv_aload_n 0 C dX9_vtg_62 rfl rfl ?_
  refine sv_aload_n 0 C dX9_vtg_63 rfl rfl ?_
  refine sv_iconst (v := 5) C dX9_vtg_64 (by decide) ?_
  refine sv_iconst (v := 2) C dX9_vtg_65 (by decide) ?_
  refine sv_iconst (v := 4) C dX9_vtg_66 (by decide) ?_
  refine sv_iconst (v := 0) C dX9_vtg_67 (by decide) ?_
  obtain ⟨q68, hc68, hf⟩ := sv_bind_some hf
  refine sv_callV0 C mv_X9_222 (m_X9_decimal (sv_l X) E h0 ad sz _ _ _ _ _ _ hc68) sv_sx0 0 rfl rfl rfl rfl (Nat.le_of_ble_eq_true rfl) ⟨by rw [hR]; decide, by rw [hR]; decide⟩ ⟨by rw [hR]; decide, by rw [hR]; decide⟩ dX9_vtg_68 ?_
  refine sv_bipush (v := 6) C dX9_vtg_71 (by decide) ?_
  refine sv_ldcS (i := 30) C (by rfl) dX9_vtg_73 ?_
  obtain ⟨q75, hc75, hf⟩ := sv_bind_some hf
  refine sv_callV0 C mv_X9_228 (m_X9_measured (sv_l X) E h0 ad sz (E.2.2.1 30) (E.2.2.2.1 30) _ _ _ _ _ hc75) (sv_sxi (i := 30) (by rfl)) 0 rfl rfl rfl rfl (Nat.le_of_ble_eq_true rfl) ⟨by rw [hR]; decide, by rw [hR]; decide⟩ ⟨by rw [hR]; decide, by rw [hR]; decide⟩ dX9_vtg_75 ?_
  refine md_iast C 6 rfl (by decide) dX9_vtg_78 ?_
  refine sv_aload_n 0 C dX9_vtg_79 rfl rfl ?_
  refine md_getr C fl_X9_32 (by decide) dX9_vtg_80 ?_
  refine sv_bipush (v := 16) C dX9_vtg_83 (by decide) ?_
  refine sv_aload_n 0 C dX9_vtg_85 rfl rfl ?_
  refine sv_aload_n 0 C dX9_vtg_86 rfl rfl ?_
  refine sv_bipush (v := 7) C dX9_vtg_87 (by decide) ?_
  refine sv_iconst (v := 2) C dX9_vtg_89 (by decide) ?_
  refine sv_iconst (v := 4) C dX9_vtg_90 (by decide) ?_
  refine sv_iconst (v := 0) C dX9_vtg_91 (by decide) ?_
  obtain ⟨q92, hc92, hf⟩ := sv_bind_some hf
  refine sv_callV0 C mv_X9_222 (m_X9_decimal (sv_l X) E h0 ad sz _ _ _ _ _ _ hc92) sv_sx0 0 rfl rfl rfl rfl (Nat.le_of_ble_eq_true rfl) ⟨by rw [hR]; decide, by rw [hR]; decide⟩ ⟨by rw [hR]; decide, by rw [hR]; decide⟩ dX9_vtg_92 ?_
  refine sv_bipush (v := 8) C dX9_vtg_95 (by decide) ?_
  refine sv_ldcS (i := 31) C (by rfl) dX9_vtg_97 ?_
  obtain ⟨q99, hc99, hf⟩ := sv_bind_some hf
  refine sv_callV0 C mv_X9_228 (m_X9_measured (sv_l X) E h0 ad sz (E.2.2.1 31) (E.2.2.2.1 31) _ _ _ _ _ hc99) (sv_sxi (i := 31) (by rfl)) 0 rfl rfl rfl rfl (Nat.le_of_ble_eq_true rfl) ⟨by rw [hR]; decide, by rw [hR]; decide⟩ ⟨by rw [hR]; decide, by rw [hR]; decide⟩ dX9_vtg_99 ?_
  refine md_iast C 6 rfl (by decide) dX9_vtg_102 ?_
  refine sv_aload_n 0 C dX9_vtg_103 rfl rfl ?_
  refine md_getr C fl_X9_32 (by decide) dX9_vtg_104 ?_
  refine sv_bipush (v := 17) C dX9_vtg_107 (by decide) ?_
  refine sv_aload_n 0 C dX9_vtg_109 rfl rfl ?_
  refine md_geti C fl_X9_113 (by decide) dX9_vtg_110 ?_
  refine sv_bipush (v := 10) C dX9_vtg_113 (by decide) ?_
  refine sv_icmp_ne (tgt := 129) C dX9_vtg_115 (by decide) (fun c115 => ?_) (fun c115 => ?_)
  · replace hf := sv_if_f c115 hf
    refine sv_ldc C kw_562 dX9_vtg_129 ?_
    refine sv_sub (lv' := []) [] rfl ?_
    exact w_X9_vtg_131 C hZ hR hN _ _ _ hf
  · replace hf := sv_if_t c115 hf
    refine sv_aload_n 0 C dX9_vtg_118 rfl rfl ?_
    refine sv_bipush (v := 9) C dX9_vtg_119 (by decide) ?_
    refine sv_ldcS (i := 28) C (by rfl) dX9_vtg_121 ?_
    obtain ⟨q123, hc123, hf⟩ := sv_bind_some hf
    refine sv_callV0 C mv_X9_190 (m_X9_one (sv_l X) E h0 ad sz (E.2.2.1 28) (E.2.2.2.1 28) _ _ _ _ hc123) (sv_sxi (i := 28) (by rfl)) 0 rfl rfl rfl rfl (Nat.le_of_ble_eq_true rfl) ⟨by rw [hR]; decide, by rw [hR]; decide⟩ ⟨by rw [hR]; decide, by rw [hR]; decide⟩ dX9_vtg_123 ?_
    refine sv_goto (tgt := 131) C dX9_vtg_126 (by decide) ?_
    refine sv_sub (lv' := []) [] rfl ?_
    exact w_X9_vtg_131 C hZ hR hN _ _ _ hf
def f_X9_part_198 (k146 : md_B → Int32 → Option (md_B)) (B : md_B) (x3 : Int32) : Option (md_B) :=
  k146 B (x3 + 1)
def f_X9_part_146 : Nat → md_B → Int32 → Option (md_B)
  | 0, _, _ => none
  | n + 1, B, x3 =>
    (f_X9_size B 5).bind (fun q149 =>
      if q149.1 ≤ x3 then
        some (q149.2)
      else
        (f_X9_at q149.2 5 x3).bind (fun q158 =>
          (f_X9_in q158.2 q158.1.toInt64 48 87).bind (fun q168 =>
            if q168.1 = 0 then
              (f_X9_at q168.2 5 x3).bind (fun q177 =>
                (f_X9_in q177.2 q177.1.toInt64 96 119).bind (fun q187 =>
                  if q187.1 = 0 then
                    f_X9_part_198 (f_X9_part_146 n) (md_pf q187.2 14 0) x3
                  else
                    f_X9_part_198 (f_X9_part_146 n) q187.2 x3))
            else
              f_X9_part_198 (f_X9_part_146 n) q168.2 x3)))
def f_X9_part_144 (B : md_B) : Option (md_B) :=
  f_X9_part_146 sv_fu B 0
def f_X9_part_139 (B : md_B) : Option (md_B) :=
  f_X9_part_144 (md_pf B 14 0)
def f_X9_part_40 (B : md_B) (s0 : Int32) : Option (md_B) :=
  (f_X9_one (md_pf B 19 s0) 4 ([65, 66, 49, 50])).bind (fun q48 =>
    (f_X9_number q48.2 6 1).bind (fun q57 =>
      if ((md_pf q57.2 20 q57.1).1 17) = (-2147483648) then
        f_X9_part_139 (md_pf q57.2 20 q57.1)
      else
        if ((md_pf q57.2 20 q57.1).1 18) = (-2147483648) then
          f_X9_part_139 (md_pf q57.2 20 q57.1)
        else
          if ((md_pf q57.2 20 q57.1).1 20) = (-2147483648) then
            f_X9_part_139 (md_pf q57.2 20 q57.1)
          else
            if ((md_pf q57.2 20 q57.1).1 17) < 1 then
              f_X9_part_139 (md_pf q57.2 20 q57.1)
            else
              (f_X9_in (md_pf q57.2 20 q57.1) (((md_pf q57.2 20 q57.1).1 18).toInt64) 1 (((md_pf q57.2 20 q57.1).1 17).toInt64)).bind (fun q109 =>
                if q109.1 = 0 then
                  f_X9_part_139 q109.2
                else
                  if 5 < (q109.2.1 20) then
                    f_X9_part_139 q109.2
                  else
                    (f_X9_size q109.2 5).bind (fun q125 =>
                      (f_X9_in q125.2 q125.1.toInt64 1 60).bind (fun q133 =>
                        if q133.1 = 0 then
                          f_X9_part_139 q133.2
                        else
                          f_X9_part_144 q133.2)))))
def f_X9_part (B : md_B) : Option (md_B) :=
  (f_X9_number B 1 1).bind (fun q4 =>
    (f_X9_number (md_pf q4.2 17 q4.1) 2 1).bind (fun q14 =>
      (f_X9_number (md_pf q14.2 18 q14.1) 3 1).bind (fun q23 =>
        if q23.1 = (-2147483648) then
          f_X9_part_40 q23.2 10
        else
          f_X9_part_40 q23.2 q23.1)))
set_option maxHeartbeats 4000000 in
set_option maxRecDepth 100000 in
theorem w_X9_part_198 {E : sv_E} {X : sv_X} {sz : Nat} {q : md_B} {h0 : Nat} {ad : Nat → Nat} (C : sv_C E X cX9_part RX9 []) (hZ : sv_Z E X none none (md_w E h0 ad q) sz 0 0) (hR : sv_R X = { frames := 5, cells := 0, slots := 0, locals := 109 }) (hN : sv_nL X = 4) {k146 : md_B → Int32 → Option (md_B)} (hk146 : ∀ (B : md_B) (x3 : Int32), k146 B x3 = some q → sv_J E X (md_w E h0 ad B) sz 0 0 146 [(0, .ref h0), (3, .int x3)] []) (B : md_B) (x3 : Int32) (hf : f_X9_part_198 k146 B x3 = some q) : sv_J E X (md_w E h0 ad B) sz 0 0 198 [(0, .ref h0), (3, .int x3)] [] := by
  rw [f_X9_part_198] at hf
  refine sv_iinc (v := x3 + 1) (lv' := [(3, .int (x3 + 1)), (0, .ref h0)]) 1 C dX9_part_198 rfl rfl (by rw [hN]; decide) rfl ?_
  refine sv_goto (tgt := 146) C dX9_part_201 (by decide) ?_
  refine sv_sub (lv' := [(0, .ref h0), (3, .int (x3 + 1))]) [1, 0] rfl ?_
  exact hk146 _ _ hf
set_option maxHeartbeats 4000000 in
set_option maxRecDepth 100000 in
theorem w_X9_part_146 {E : sv_E} {X : sv_X} {sz : Nat} {q : md_B} {h0 : Nat} {ad : Nat → Nat} (C : sv_C E X cX9_part RX9 []) (hZ : sv_Z E X none none (md_w E h0 ad q) sz 0 0) (hR : sv_R X = { frames := 5, cells := 0, slots := 0, locals := 109 }) (hN : sv_nL X = 4) : ∀ (n : Nat) (B : md_B) (x3 : Int32), f_X9_part_146 n B x3 = some q → sv_J E X (md_w E h0 ad B) sz 0 0 146 [(0, .ref h0), (3, .int x3)] [] := by
  intro n
  induction n with
  | zero =>
    intro B x3 hf
    rw [f_X9_part_146] at hf
    cases hf
  | succ n ih =>
    intro B x3 hf
    rw [f_X9_part_146] at hf
    refine sv_iload_n 1 C dX9_part_146 rfl rfl ?_
    refine sv_aload_n 0 C dX9_part_147 rfl rfl ?_
    refine sv_iconst (v := 5) C dX9_part_148 (by decide) ?_
    obtain ⟨q149, hc149, hf⟩ := sv_bind_some hf
    refine sv_callV0 C mv_X9_153 (m_X9_size (sv_l X) E h0 ad sz _ _ _ hc149) sv_sx0 0 rfl rfl rfl rfl (Nat.le_of_ble_eq_true rfl) ⟨by rw [hR]; decide, by rw [hR]; decide⟩ ⟨by rw [hR]; decide, by rw [hR]; decide⟩ dX9_part_149 ?_
    refine sv_icmp_ge (tgt := 204) C dX9_part_152 (by decide) (fun c152 => ?_) (fun c152 => ?_)
    · replace hf := sv_if_t c152 hf
      exact sv_vret C (by cases hf; exact hZ) dX9_part_204
    · replace hf := sv_if_f c152 hf
      refine sv_aload_n 0 C dX9_part_155 rfl rfl ?_
      refine sv_iconst (v := 5) C dX9_part_156 (by decide) ?_
      refine sv_iload_n 1 C dX9_part_157 rfl rfl ?_
      obtain ⟨q158, hc158, hf⟩ := sv_bind_some hf
      refine sv_callV0 C mv_X9_156 (m_X9_at (sv_l X) E h0 ad sz _ _ _ _ hc158) sv_sx0 0 rfl rfl rfl rfl (Nat.le_of_ble_eq_true rfl) ⟨by rw [hR]; decide, by rw [hR]; decide⟩ ⟨by rw [hR]; decide, by rw [hR]; decide⟩ dX9_part_158 ?_
      refine sv_i2l C dX9_part_161 ?_
      refine sv_ldc2 C kw_590 dX9_part_162 ?_
      refine sv_ldc2 C kw_678 dX9_part_165 ?_
      obtain ⟨q168, hc168, hf⟩ := sv_bind_some hf
      refine sv_callS0 C ms_X9_74 (m_X9_in (sv_l X) E h0 ad sz _ _ _ _ _ hc168) sv_sx0 rfl rfl (Nat.le_of_ble_eq_true rfl) ⟨by rw [hR]; decide, by rw [hR]; decide⟩ ⟨by rw [hR]; decide, by rw [hR]; decide⟩ dX9_part_168 ?_
      refine sv_if_ne (tgt := 198) C dX9_part_171 (by decide) (fun c171 => ?_) (fun c171 => ?_)
      · replace hf := sv_if_f c171 hf
        refine sv_sub (lv' := [(0, .ref h0), (3, .int x3)]) [0, 1] rfl ?_
        exact w_X9_part_198 C hZ hR hN ih _ _ hf
      · replace hf := sv_if_t c171 hf
        refine sv_aload_n 0 C dX9_part_174 rfl rfl ?_
        refine sv_iconst (v := 5) C dX9_part_175 (by decide) ?_
        refine sv_iload_n 1 C dX9_part_176 rfl rfl ?_
        obtain ⟨q177, hc177, hf⟩ := sv_bind_some hf
        refine sv_callV0 C mv_X9_156 (m_X9_at (sv_l X) E h0 ad sz _ _ _ _ hc177) sv_sx0 0 rfl rfl rfl rfl (Nat.le_of_ble_eq_true rfl) ⟨by rw [hR]; decide, by rw [hR]; decide⟩ ⟨by rw [hR]; decide, by rw [hR]; decide⟩ dX9_part_177 ?_
        refine sv_i2l C dX9_part_180 ?_
        refine sv_ldc2 C kw_679 dX9_part_181 ?_
        refine sv_ldc2 C kw_680 dX9_part_184 ?_
        obtain ⟨q187, hc187, hf⟩ := sv_bind_some hf
        refine sv_callS0 C ms_X9_74 (m_X9_in (sv_l X) E h0 ad sz _ _ _ _ _ hc187) sv_sx0 rfl rfl (Nat.le_of_ble_eq_true rfl) ⟨by rw [hR]; decide, by rw [hR]; decide⟩ ⟨by rw [hR]; decide, by rw [hR]; decide⟩ dX9_part_187 ?_
        refine sv_if_ne (tgt := 198) C dX9_part_190 (by decide) (fun c190 => ?_) (fun c190 => ?_)
        · replace hf := sv_if_f c190 hf
          refine sv_sub (lv' := [(0, .ref h0), (3, .int x3)]) [0, 1] rfl ?_
          exact w_X9_part_198 C hZ hR hN ih _ _ hf
        · replace hf := sv_if_t c190 hf
          refine sv_aload_n 0 C dX9_part_193 rfl rfl ?_
          refine sv_iconst (v := 0) C dX9_part_194 (by decide) ?_
          refine md_puti C fl_X9_149 (by decide) (by decide) (by decide) dX9_part_195 ?_
          refine sv_sub (lv' := [(0, .ref h0), (3, .int x3)]) [0, 1] rfl ?_
          exact w_X9_part_198 C hZ hR hN ih _ _ hf
set_option maxHeartbeats 4000000 in
set_option maxRecDepth 100000 in
theorem w_X9_part_144 {E : sv_E} {X : sv_X} {sz : Nat} {q : md_B} {h0 : Nat} {ad : Nat → Nat} (C : sv_C E X cX9_part RX9 []) (hZ : sv_Z E X none none (md_w E h0 ad q) sz 0 0) (hR : sv_R X = { frames := 5, cells := 0, slots := 0, locals := 109 }) (hN : sv_nL X = 4) (B : md_B) (hf : f_X9_part_144 B = some q) : sv_J E X (md_w E h0 ad B) sz 0 0 144 [(0, .ref h0)] [] := by
  rw [f_X9_part_144] at hf
  refine sv_iconst (v := 0) C dX9_part_144 (by decide) ?_
  refine sv_istore_n (lv' := [(3, .int 0), (0, .ref h0)]) C dX9_part_145 rfl (by rw [hN]; decide) rfl ?_
  refine sv_sub (lv' := [(0, .ref h0), (3, .int 0)]) [1, 0] rfl ?_
  exact w_X9_part_146 C hZ hR hN sv_fu _ _ hf
set_option maxHeartbeats 4000000 in
set_option maxRecDepth 100000 in
theorem w_X9_part_139 {E : sv_E} {X : sv_X} {sz : Nat} {q : md_B} {h0 : Nat} {ad : Nat → Nat} (C : sv_C E X cX9_part RX9 []) (hZ : sv_Z E X none none (md_w E h0 ad q) sz 0 0) (hR : sv_R X = { frames := 5, cells := 0, slots := 0, locals := 109 }) (hN : sv_nL X = 4) (B : md_B) (hf : f_X9_part_139 B = some q) : sv_J E X (md_w E h0 ad B) sz 0 0 139 [(0, .ref h0)] [] := by
  rw [f_X9_part_139] at hf
  refine sv_aload_n 0 C dX9_part_139 rfl rfl ?_
  refine sv_iconst (v := 0) C dX9_part_140 (by decide) ?_
  refine md_puti C fl_X9_149 (by decide) (by decide) (by decide) dX9_part_141 ?_
  refine sv_sub (lv' := [(0, .ref h0)]) [0] rfl ?_
  exact w_X9_part_144 C hZ hR hN _ hf
set_option maxHeartbeats 4000000 in
set_option maxRecDepth 100000 in
theorem w_X9_part_40 {E : sv_E} {X : sv_X} {sz : Nat} {q : md_B} {h0 : Nat} {ad : Nat → Nat} (C : sv_C E X cX9_part RX9 []) (hZ : sv_Z E X none none (md_w E h0 ad q) sz 0 0) (hR : sv_R X = { frames := 5, cells := 0, slots := 0, locals := 109 }) (hN : sv_nL X = 4) (B : md_B) (s0 : Int32) (hf : f_X9_part_40 B s0 = some q) : sv_J E X (md_w E h0 ad B) sz 0 0 40 [(0, .ref h0)] [.int s0, .ref h0] := by
  rw [f_X9_part_40] at hf
  refine md_puti C fl_X9_254 (by decide) rfl rfl dX9_part_40 ?_
  refine sv_aload_n 0 C dX9_part_43 rfl rfl ?_
  refine sv_iconst (v := 4) C dX9_part_44 (by decide) ?_
  refine sv_ldcSw (i := 32) C (by rfl) dX9_part_45 ?_
  obtain ⟨q48, hc48, hf⟩ := sv_bind_some hf
  refine sv_callV0 C mv_X9_190 (m_X9_one (sv_l X) E h0 ad sz (E.2.2.1 32) (E.2.2.2.1 32) _ _ _ _ hc48) (sv_sxi (i := 32) (by rfl)) 0 rfl rfl rfl rfl (Nat.le_of_ble_eq_true rfl) ⟨by rw [hR]; decide, by rw [hR]; decide⟩ ⟨by rw [hR]; decide, by rw [hR]; decide⟩ dX9_part_48 ?_
  refine sv_istore_n (lv' := [(2, .int q48.1), (0, .ref h0)]) C dX9_part_51 rfl (by rw [hN]; decide) rfl ?_
  refine sv_aload_n 1 C dX9_part_52 rfl rfl ?_
  refine sv_aload_n 1 C dX9_part_53 rfl rfl ?_
  refine sv_bipush (v := 6) C dX9_part_54 (by decide) ?_
  refine sv_iconst (v := 1) C dX9_part_56 (by decide) ?_
  obtain ⟨q57, hc57, hf⟩ := sv_bind_some hf
  refine sv_callV0 C mv_X9_180 (m_X9_number (sv_l X) E h0 ad sz _ _ _ _ hc57) sv_sx0 0 rfl rfl rfl rfl (Nat.le_of_ble_eq_true rfl) ⟨by rw [hR]; decide, by rw [hR]; decide⟩ ⟨by rw [hR]; decide, by rw [hR]; decide⟩ dX9_part_57 ?_
  refine md_puti C fl_X9_259 (by decide) rfl rfl dX9_part_60 ?_
  refine sv_aload_n 1 C dX9_part_63 rfl rfl ?_
  refine md_geti C fl_X9_248 (by decide) dX9_part_64 ?_
  refine sv_ldc C kw_562 dX9_part_67 ?_
  refine sv_icmp_eq (tgt := 139) C dX9_part_69 (by decide) (fun c69 => ?_) (fun c69 => ?_)
  · replace hf := sv_if_t c69 hf
    refine sv_sub (lv' := [(0, .ref h0)]) [1] rfl ?_
    exact w_X9_part_139 C hZ hR hN _ hf
  · replace hf := sv_if_f c69 hf
    refine sv_aload_n 1 C dX9_part_72 rfl rfl ?_
    refine md_geti C fl_X9_251 (by decide) dX9_part_73 ?_
    refine sv_ldc C kw_562 dX9_part_76 ?_
    refine sv_icmp_eq (tgt := 139) C dX9_part_78 (by decide) (fun c78 => ?_) (fun c78 => ?_)
    · replace hf := sv_if_t c78 hf
      refine sv_sub (lv' := [(0, .ref h0)]) [1] rfl ?_
      exact w_X9_part_139 C hZ hR hN _ hf
    · replace hf := sv_if_f c78 hf
      refine sv_aload_n 1 C dX9_part_81 rfl rfl ?_
      refine md_geti C fl_X9_259 (by decide) dX9_part_82 ?_
      refine sv_ldc C kw_562 dX9_part_85 ?_
      refine sv_icmp_eq (tgt := 139) C dX9_part_87 (by decide) (fun c87 => ?_) (fun c87 => ?_)
      · replace hf := sv_if_t c87 hf
        refine sv_sub (lv' := [(0, .ref h0)]) [1] rfl ?_
        exact w_X9_part_139 C hZ hR hN _ hf
      · replace hf := sv_if_f c87 hf
        refine sv_aload_n 1 C dX9_part_90 rfl rfl ?_
        refine md_geti C fl_X9_248 (by decide) dX9_part_91 ?_
        refine sv_iconst (v := 1) C dX9_part_94 (by decide) ?_
        refine sv_icmp_lt (tgt := 139) C dX9_part_95 (by decide) (fun c95 => ?_) (fun c95 => ?_)
        · replace hf := sv_if_t c95 hf
          refine sv_sub (lv' := [(0, .ref h0)]) [1] rfl ?_
          exact w_X9_part_139 C hZ hR hN _ hf
        · replace hf := sv_if_f c95 hf
          refine sv_aload_n 1 C dX9_part_98 rfl rfl ?_
          refine md_geti C fl_X9_251 (by decide) dX9_part_99 ?_
          refine sv_i2l C dX9_part_102 ?_
          refine sv_lconst (v := 1) C dX9_part_103 (by decide) ?_
          refine sv_aload_n 1 C dX9_part_104 rfl rfl ?_
          refine md_geti C fl_X9_248 (by decide) dX9_part_105 ?_
          refine sv_i2l C dX9_part_108 ?_
          obtain ⟨q109, hc109, hf⟩ := sv_bind_some hf
          refine sv_callS0 C ms_X9_74 (m_X9_in (sv_l X) E h0 ad sz _ _ _ _ _ hc109) sv_sx0 rfl rfl (Nat.le_of_ble_eq_true rfl) ⟨by rw [hR]; decide, by rw [hR]; decide⟩ ⟨by rw [hR]; decide, by rw [hR]; decide⟩ dX9_part_109 ?_
          refine sv_if_eq (tgt := 139) C dX9_part_112 (by decide) (fun c112 => ?_) (fun c112 => ?_)
          · replace hf := sv_if_t c112 hf
            refine sv_sub (lv' := [(0, .ref h0)]) [1] rfl ?_
            exact w_X9_part_139 C hZ hR hN _ hf
          · replace hf := sv_if_f c112 hf
            refine sv_aload_n 1 C dX9_part_115 rfl rfl ?_
            refine md_geti C fl_X9_259 (by decide) dX9_part_116 ?_
            refine sv_iconst (v := 5) C dX9_part_119 (by decide) ?_
            refine sv_icmp_gt (tgt := 139) C dX9_part_120 (by decide) (fun c120 => ?_) (fun c120 => ?_)
            · replace hf := sv_if_t c120 hf
              refine sv_sub (lv' := [(0, .ref h0)]) [1] rfl ?_
              exact w_X9_part_139 C hZ hR hN _ hf
            · replace hf := sv_if_f c120 hf
              refine sv_aload_n 1 C dX9_part_123 rfl rfl ?_
              refine sv_iconst (v := 5) C dX9_part_124 (by decide) ?_
              obtain ⟨q125, hc125, hf⟩ := sv_bind_some hf
              refine sv_callV0 C mv_X9_153 (m_X9_size (sv_l X) E h0 ad sz _ _ _ hc125) sv_sx0 0 rfl rfl rfl rfl (Nat.le_of_ble_eq_true rfl) ⟨by rw [hR]; decide, by rw [hR]; decide⟩ ⟨by rw [hR]; decide, by rw [hR]; decide⟩ dX9_part_125 ?_
              refine sv_i2l C dX9_part_128 ?_
              refine sv_lconst (v := 1) C dX9_part_129 (by decide) ?_
              refine sv_ldc2 C kw_677 dX9_part_130 ?_
              obtain ⟨q133, hc133, hf⟩ := sv_bind_some hf
              refine sv_callS0 C ms_X9_74 (m_X9_in (sv_l X) E h0 ad sz _ _ _ _ _ hc133) sv_sx0 rfl rfl (Nat.le_of_ble_eq_true rfl) ⟨by rw [hR]; decide, by rw [hR]; decide⟩ ⟨by rw [hR]; decide, by rw [hR]; decide⟩ dX9_part_133 ?_
              refine sv_if_ne (tgt := 144) C dX9_part_136 (by decide) (fun c136 => ?_) (fun c136 => ?_)
              · replace hf := sv_if_f c136 hf
                refine sv_sub (lv' := [(0, .ref h0)]) [1] rfl ?_
                exact w_X9_part_144 C hZ hR hN _ hf
              · replace hf := sv_if_t c136 hf
                refine sv_sub (lv' := [(0, .ref h0)]) [1] rfl ?_
                exact w_X9_part_139 C hZ hR hN _ hf
set_option maxHeartbeats 4000000 in
set_option maxRecDepth 100000 in
theorem m_X9_part (l : Launch) (E : sv_E) (h0 : Nat) (ad : Nat → Nat) (sz : Nat) (B : md_B) (q : md_B) (hf : f_X9_part B = some q) : sv_Met l E yX9_part cX9_part 4 none 5 109 [] [.ref h0] (md_w E h0 ad B) sz none (md_w E h0 ad q) sz 0 0 := by
  refine sv_ofJ (by decide) (Nat.le_of_ble_eq_true rfl) ?_
  intro X hX hN hnm hR C hZ
  replace C : sv_C E X cX9_part RX9 [] := C
  show sv_J E X (md_w E h0 ad B) sz 0 0 0 [(0, .ref h0)] []
  rw [f_X9_part] at hf
  refine sv_aload_n 0 C dX9_part_0 rfl rfl ?_
  refine sv_aload_n 0 C dX9_part_1 rfl rfl ?_
  refine sv_iconst (v := 1) C dX9_part_2 (by decide) ?_
  refine sv_iconst (v := 1) C dX9_part_3 (by decide) ?_
  obtain ⟨q4, hc4, hf⟩ := sv_bind_some hf
  refine sv_callV0 C mv_X9_180 (m_X9_number (sv_l X) E h0 ad sz _ _ _ _ hc4) sv_sx0 0 rfl rfl rfl rfl (Nat.le_of_ble_eq_true rfl) ⟨by rw [hR]; decide, by rw [hR]; decide⟩ ⟨by rw [hR]; decide, by rw [hR]; decide⟩ dX9_part_4 ?_
  refine md_puti C fl_X9_248 (by decide) rfl rfl dX9_part_7 ?_
  refine sv_aload_n 0 C dX9_part_10 rfl rfl ?_
  refine sv_aload_n 0 C dX9_part_11 rfl rfl ?_
  refine sv_iconst (v := 2) C dX9_part_12 (by decide) ?_
  refine sv_iconst (v := 1) C dX9_part_13 (by decide) ?_
  obtain ⟨q14, hc14, hf⟩ := sv_bind_some hf
  refine sv_callV0 C mv_X9_180 (m_X9_number (sv_l X) E h0 ad sz _ _ _ _ hc14) sv_sx0 0 rfl rfl rfl rfl (Nat.le_of_ble_eq_true rfl) ⟨by rw [hR]; decide, by rw [hR]; decide⟩ ⟨by rw [hR]; decide, by rw [hR]; decide⟩ dX9_part_14 ?_
  refine md_puti C fl_X9_251 (by decide) rfl rfl dX9_part_17 ?_
  refine sv_aload_n 0 C dX9_part_20 rfl rfl ?_
  refine sv_iconst (v := 3) C dX9_part_21 (by decide) ?_
  refine sv_iconst (v := 1) C dX9_part_22 (by decide) ?_
  obtain ⟨q23, hc23, hf⟩ := sv_bind_some hf
  refine sv_callV0 C mv_X9_180 (m_X9_number (sv_l X) E h0 ad sz _ _ _ _ hc23) sv_sx0 0 rfl rfl rfl rfl (Nat.le_of_ble_eq_true rfl) ⟨by rw [hR]; decide, by rw [hR]; decide⟩ ⟨by rw [hR]; decide, by rw [hR]; decide⟩ dX9_part_23 ?_
  refine sv_istore_n (lv' := [(1, .int q23.1), (0, .ref h0)]) C dX9_part_26 rfl (by rw [hN]; decide) rfl ?_
  refine sv_aload_n 1 C dX9_part_27 rfl rfl ?_
  refine sv_iload_n 0 C dX9_part_28 rfl rfl ?_
  refine sv_ldc C kw_562 dX9_part_29 ?_
  refine sv_icmp_ne (tgt := 39) C dX9_part_31 (by decide) (fun c31 => ?_) (fun c31 => ?_)
  · replace hf := sv_if_f c31 hf
    refine sv_iload_n 0 C dX9_part_39 rfl rfl ?_
    refine sv_sub (lv' := [(0, .ref h0)]) [1] rfl ?_
    exact w_X9_part_40 C hZ hR hN _ _ hf
  · replace hf := sv_if_t c31 hf
    refine sv_bipush (v := 10) C dX9_part_34 (by decide) ?_
    refine sv_goto (tgt := 40) C dX9_part_36 (by decide) ?_
    refine sv_sub (lv' := [(0, .ref h0)]) [1] rfl ?_
    exact w_X9_part_40 C hZ hR hN _ _ hf
def f_X9_fits_119 (B : md_B) : Option (Int32 × md_B) :=
  sv_g (decide (vp_nar .boolean (B.1 14) = (B.1 14))) (
    some (B.1 14, B))
def f_X9_fits_70 (B : md_B) : Option (Int32 × md_B) :=
  (f_X9_rmc B).bind (fun q71 =>
    f_X9_fits_119 q71)
def f_X9_fits_97 (B : md_B) : Option (Int32 × md_B) :=
  (f_X9_vtg B).bind (fun q98 =>
    f_X9_fits_119 q98)
def f_X9_fits (B : md_B) (x1 : Int32) : Option (Int32 × md_B) :=
  if x1 = 0 then
    if ((md_pf B 14 1).1 13) = 15 then
      (f_X9_gga (md_pf B 14 1)).bind (fun q44 =>
        f_X9_fits_119 q44)
    else
      some (0, md_pf B 14 1)
  else if x1 = 1 then
    if ((md_pf B 14 1).1 13) = 12 then
      f_X9_fits_70 (md_pf B 14 1)
    else
      if ((md_pf B 14 1).1 13) = 13 then
        f_X9_fits_70 (md_pf B 14 1)
      else
        some (0, md_pf B 14 1)
  else if x1 = 2 then
    if ((md_pf B 14 1).1 13) = 9 then
      f_X9_fits_97 (md_pf B 14 1)
    else
      if ((md_pf B 14 1).1 13) = 10 then
        f_X9_fits_97 (md_pf B 14 1)
      else
        some (0, md_pf B 14 1)
  else 
    if ((md_pf B 14 1).1 13) = 7 then
      (f_X9_part (md_pf B 14 1)).bind (fun q116 =>
        f_X9_fits_119 q116)
    else
      some (0, md_pf B 14 1)
set_option maxHeartbeats 4000000 in
set_option maxRecDepth 100000 in
theorem w_X9_fits_119 {E : sv_E} {X : sv_X} {sz : Nat} {q : Int32 × md_B} {h0 : Nat} {ad : Nat → Nat} (C : sv_C E X cX9_fits RX9 []) (hZ : sv_Z E X (some .boolean) (some (.int q.1)) (md_w E h0 ad q.2) sz 0 0) (hR : sv_R X = { frames := 8, cells := 0, slots := 0, locals := 182 }) (hN : sv_nL X = 2) (B : md_B) (hf : f_X9_fits_119 B = some q) : sv_J E X (md_w E h0 ad B) sz 0 0 119 [(0, .ref h0)] [] := by
  rw [f_X9_fits_119] at hf
  refine sv_aload_n 0 C dX9_fits_119 rfl rfl ?_
  refine md_geti C fl_X9_149 (by decide) dX9_fits_120 ?_
  obtain ⟨g123, hf⟩ := sv_g_some hf
  exact sv_zret (ty := .boolean) C (sv_nz (of_decide_eq_true g123)) (by cases hf; exact hZ) dX9_fits_123
set_option maxHeartbeats 4000000 in
set_option maxRecDepth 100000 in
theorem w_X9_fits_70 {E : sv_E} {X : sv_X} {sz : Nat} {q : Int32 × md_B} {h0 : Nat} {ad : Nat → Nat} (C : sv_C E X cX9_fits RX9 []) (hZ : sv_Z E X (some .boolean) (some (.int q.1)) (md_w E h0 ad q.2) sz 0 0) (hR : sv_R X = { frames := 8, cells := 0, slots := 0, locals := 182 }) (hN : sv_nL X = 2) (B : md_B) (hf : f_X9_fits_70 B = some q) : sv_J E X (md_w E h0 ad B) sz 0 0 70 [(0, .ref h0)] [] := by
  rw [f_X9_fits_70] at hf
  refine sv_aload_n 0 C dX9_fits_70 rfl rfl ?_
  obtain ⟨q71, hc71, hf⟩ := sv_bind_some hf
  refine sv_callV0 C mv_X9_202 (m_X9_rmc (sv_l X) E h0 ad sz _ _ hc71) sv_sx0 0 rfl rfl rfl rfl (Nat.le_of_ble_eq_true rfl) ⟨by rw [hR]; decide, by rw [hR]; decide⟩ ⟨by rw [hR]; decide, by rw [hR]; decide⟩ dX9_fits_71 ?_
  refine sv_goto (tgt := 119) C dX9_fits_74 (by decide) ?_
  refine sv_sub (lv' := [(0, .ref h0)]) [0] rfl ?_
  exact w_X9_fits_119 C hZ hR hN _ hf
set_option maxHeartbeats 4000000 in
set_option maxRecDepth 100000 in
theorem w_X9_fits_97 {E : sv_E} {X : sv_X} {sz : Nat} {q : Int32 × md_B} {h0 : Nat} {ad : Nat → Nat} (C : sv_C E X cX9_fits RX9 []) (hZ : sv_Z E X (some .boolean) (some (.int q.1)) (md_w E h0 ad q.2) sz 0 0) (hR : sv_R X = { frames := 8, cells := 0, slots := 0, locals := 182 }) (hN : sv_nL X = 2) (B : md_B) (hf : f_X9_fits_97 B = some q) : sv_J E X (md_w E h0 ad B) sz 0 0 97 [(0, .ref h0)] [] := by
  rw [f_X9_fits_97] at hf
  refine sv_aload_n 0 C dX9_fits_97 rfl rfl ?_
  obtain ⟨q98, hc98, hf⟩ := sv_bind_some hf
  refine sv_callV0 C mv_X9_205 (m_X9_vtg (sv_l X) E h0 ad sz _ _ hc98) sv_sx0 0 rfl rfl rfl rfl (Nat.le_of_ble_eq_true rfl) ⟨by rw [hR]; decide, by rw [hR]; decide⟩ ⟨by rw [hR]; decide, by rw [hR]; decide⟩ dX9_fits_98 ?_
  refine sv_goto (tgt := 119) C dX9_fits_101 (by decide) ?_
  refine sv_sub (lv' := [(0, .ref h0)]) [0] rfl ?_
  exact w_X9_fits_119 C hZ hR hN _ hf
set_option maxHeartbeats 4000000 in
set_option maxRecDepth 100000 in
theorem m_X9_fits (l : Launch) (E : sv_E) (h0 : Nat) (ad : Nat → Nat) (sz : Nat) (B : md_B) (x1 : Int32) (q : Int32 × md_B) (hf : f_X9_fits B x1 = some q) : sv_Met l E yX9_fits cX9_fits 2 (some .boolean) 8 182 [] [.ref h0, .int x1] (md_w E h0 ad B) sz (some (.int q.1)) (md_w E h0 ad q.2) sz 0 0 := by
  refine sv_ofJ (by decide) (Nat.le_of_ble_eq_true rfl) ?_
  intro X hX hN hnm hR C hZ
  replace C : sv_C E X cX9_fits RX9 [] := C
  show sv_J E X (md_w E h0 ad B) sz 0 0 0 [(0, .ref h0), (1, .int x1)] []
  rw [f_X9_fits] at hf
  refine sv_aload_n 0 C dX9_fits_0 rfl rfl ?_
  refine sv_iconst (v := 1) C dX9_fits_1 (by decide) ?_
  refine md_puti C fl_X9_149 (by decide) (by decide) (by decide) dX9_fits_2 ?_
  refine sv_iload_n 1 C dX9_fits_5 rfl rfl ?_
  by_cases c6_0 : x1 = 0
  · replace hf := sv_if_t c6_0 hf
    refine sv_tswI (v := 0) (tgt := 32) C dX9_fits_6 c6_0 (by decide) (by decide) rfl (by decide) ?_
    refine sv_aload_n 0 C dX9_fits_32 rfl rfl ?_
    refine md_geti C fl_X9_113 (by decide) dX9_fits_33 ?_
    refine sv_bipush (v := 15) C dX9_fits_36 (by decide) ?_
    refine sv_icmp_eq (tgt := 43) C dX9_fits_38 (by decide) (fun c38 => ?_) (fun c38 => ?_)
    · replace hf := sv_if_t c38 hf
      refine sv_aload_n 0 C dX9_fits_43 rfl rfl ?_
      obtain ⟨q44, hc44, hf⟩ := sv_bind_some hf
      refine sv_callV0 C mv_X9_199 (m_X9_gga (sv_l X) E h0 ad sz _ _ hc44) sv_sx0 0 rfl rfl rfl rfl (Nat.le_of_ble_eq_true rfl) ⟨by rw [hR]; decide, by rw [hR]; decide⟩ ⟨by rw [hR]; decide, by rw [hR]; decide⟩ dX9_fits_44 ?_
      refine sv_goto (tgt := 119) C dX9_fits_47 (by decide) ?_
      refine sv_sub (lv' := [(0, .ref h0)]) [0] rfl ?_
      exact w_X9_fits_119 C hZ hR hN _ hf
    · replace hf := sv_if_f c38 hf
      refine sv_iconst (v := 0) C dX9_fits_41 (by decide) ?_
      exact sv_zret (ty := .boolean) C (by decide) (by cases hf; exact hZ) dX9_fits_42
  · replace hf := sv_if_f c6_0 hf
    by_cases c6_1 : x1 = 1
    · replace hf := sv_if_t c6_1 hf
      refine sv_tswI (v := 1) (tgt := 50) C dX9_fits_6 c6_1 (by decide) (by decide) rfl (by decide) ?_
      refine sv_aload_n 0 C dX9_fits_50 rfl rfl ?_
      refine md_geti C fl_X9_113 (by decide) dX9_fits_51 ?_
      refine sv_bipush (v := 12) C dX9_fits_54 (by decide) ?_
      refine sv_icmp_eq (tgt := 70) C dX9_fits_56 (by decide) (fun c56 => ?_) (fun c56 => ?_)
      · replace hf := sv_if_t c56 hf
        refine sv_sub (lv' := [(0, .ref h0)]) [0] rfl ?_
        exact w_X9_fits_70 C hZ hR hN _ hf
      · replace hf := sv_if_f c56 hf
        refine sv_aload_n 0 C dX9_fits_59 rfl rfl ?_
        refine md_geti C fl_X9_113 (by decide) dX9_fits_60 ?_
        refine sv_bipush (v := 13) C dX9_fits_63 (by decide) ?_
        refine sv_icmp_eq (tgt := 70) C dX9_fits_65 (by decide) (fun c65 => ?_) (fun c65 => ?_)
        · replace hf := sv_if_t c65 hf
          refine sv_sub (lv' := [(0, .ref h0)]) [0] rfl ?_
          exact w_X9_fits_70 C hZ hR hN _ hf
        · replace hf := sv_if_f c65 hf
          refine sv_iconst (v := 0) C dX9_fits_68 (by decide) ?_
          exact sv_zret (ty := .boolean) C (by decide) (by cases hf; exact hZ) dX9_fits_69
    · replace hf := sv_if_f c6_1 hf
      by_cases c6_2 : x1 = 2
      · replace hf := sv_if_t c6_2 hf
        refine sv_tswI (v := 2) (tgt := 77) C dX9_fits_6 c6_2 (by decide) (by decide) rfl (by decide) ?_
        refine sv_aload_n 0 C dX9_fits_77 rfl rfl ?_
        refine md_geti C fl_X9_113 (by decide) dX9_fits_78 ?_
        refine sv_bipush (v := 9) C dX9_fits_81 (by decide) ?_
        refine sv_icmp_eq (tgt := 97) C dX9_fits_83 (by decide) (fun c83 => ?_) (fun c83 => ?_)
        · replace hf := sv_if_t c83 hf
          refine sv_sub (lv' := [(0, .ref h0)]) [0] rfl ?_
          exact w_X9_fits_97 C hZ hR hN _ hf
        · replace hf := sv_if_f c83 hf
          refine sv_aload_n 0 C dX9_fits_86 rfl rfl ?_
          refine md_geti C fl_X9_113 (by decide) dX9_fits_87 ?_
          refine sv_bipush (v := 10) C dX9_fits_90 (by decide) ?_
          refine sv_icmp_eq (tgt := 97) C dX9_fits_92 (by decide) (fun c92 => ?_) (fun c92 => ?_)
          · replace hf := sv_if_t c92 hf
            refine sv_sub (lv' := [(0, .ref h0)]) [0] rfl ?_
            exact w_X9_fits_97 C hZ hR hN _ hf
          · replace hf := sv_if_f c92 hf
            refine sv_iconst (v := 0) C dX9_fits_95 (by decide) ?_
            exact sv_zret (ty := .boolean) C (by decide) (by cases hf; exact hZ) dX9_fits_96
      · replace hf := sv_if_f c6_2 hf
        have n6_0 : x1.toInt ≠ 0 := fun e => c6_0 (Int32.toInt_inj.mp (e.trans (by decide)))
        have n6_1 : x1.toInt ≠ 1 := fun e => c6_1 (Int32.toInt_inj.mp (e.trans (by decide)))
        have n6_2 : x1.toInt ≠ 2 := fun e => c6_2 (Int32.toInt_inj.mp (e.trans (by decide)))
        refine sv_tswO (tgt := 104) C dX9_fits_6 (by omega) (by decide) ?_
        refine sv_aload_n 0 C dX9_fits_104 rfl rfl ?_
        refine md_geti C fl_X9_113 (by decide) dX9_fits_105 ?_
        refine sv_bipush (v := 7) C dX9_fits_108 (by decide) ?_
        refine sv_icmp_eq (tgt := 115) C dX9_fits_110 (by decide) (fun c110 => ?_) (fun c110 => ?_)
        · replace hf := sv_if_t c110 hf
          refine sv_aload_n 0 C dX9_fits_115 rfl rfl ?_
          obtain ⟨q116, hc116, hf⟩ := sv_bind_some hf
          refine sv_callV0 C mv_X9_208 (m_X9_part (sv_l X) E h0 ad sz _ _ hc116) sv_sx0 0 rfl rfl rfl rfl (Nat.le_of_ble_eq_true rfl) ⟨by rw [hR]; decide, by rw [hR]; decide⟩ ⟨by rw [hR]; decide, by rw [hR]; decide⟩ dX9_fits_116 ?_
          refine sv_sub (lv' := [(0, .ref h0)]) [0] rfl ?_
          exact w_X9_fits_119 C hZ hR hN _ hf
        · replace hf := sv_if_f c110 hf
          refine sv_iconst (v := 0) C dX9_fits_113 (by decide) ?_
          exact sv_zret (ty := .boolean) C (by decide) (by cases hf; exact hZ) dX9_fits_114
