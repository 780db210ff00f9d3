/-! ===== the law's four wrappers ===== -/
abbrev sv_ow (E : sv_E) (o : Nat) (f : Nat → Int64) (w : va_W) : va_W := [(o, .inl (E.2.1 3, 1, .inr (.inl f)))] ++ w
abbrev sv_of (f : Nat → Int64) (k v : Int32) : Nat → Int64 := if k = 0 then vp_updL f 0 v.toInt64 else f
set_option maxHeartbeats 4000000 in
set_option maxRecDepth 100000 in
theorem m_L_fix (l : Launch) (hl : l.stackTraces = false) (E : sv_E) (T : gh_T) (sz : Nat) (V : gh_V) (a0 : Nat) (x1 : Int32) (o : Nat) (f : Nat → Int64) (q : Int32 × Int32 × gh_V) (hf : f_X8_fix T V a0 x1 = some q) (hT : gh_ok T) (o_a0 : gh_is T a0 8) (hq2 : q.1 ≠ 2) : sv_MetW l E yL_fix cL_fix 4 (some .int) [(0, 9, 12, 13)] 7 111 [.ref a0, .int x1, .ref o] (sv_ow E o f (gh_w E T V)) sz (some (.int q.1)) (sv_ow E o (sv_of f q.1 q.2.1) (gh_w E T q.2.2)) := by
  refine sv_ofJW (by decide) (Nat.le_of_ble_eq_true rfl) ?_
  intro X hX hN htb hR C HX hZ
  replace C : sv_C E X cL_fix RL [] := C
  show sv_J E X (sv_ow E o f (gh_w E T V)) sz 0 0 0 [(0, .ref a0), (1, .int x1), (2, .ref o)] []
  refine sv_aload_n 2 C dL_fix_0 rfl rfl ?_
  refine sv_iconst (v := 0) C dL_fix_1 (by decide) ?_
  refine sv_aload_n 0 C dL_fix_2 rfl rfl ?_
  refine sv_iload_n 1 C dL_fix_3 rfl rfl ?_
  obtain ⟨k8, hk8⟩ := gh_obj (E := E) (V := V) o_a0 (by decide)
  refine sv_callX (w1 := [(o, .inl (E.2.1 3, 1, .inr (.inl f)))]) (rest := [.int 0, .ref o]) C HX mv_L_7 (m_X8_fix (sv_l X) (hX ▸ hl) E T sz V a0 x1 q hf hT o_a0) k8 hk8 rfl rfl rfl (Nat.le_of_ble_eq_true rfl) ⟨by rw [hR]; exact Nat.le_of_ble_eq_true rfl, by rw [hR]; exact Nat.le_of_ble_eq_true rfl⟩ ⟨by rw [hR]; exact Nat.le_of_ble_eq_true rfl, by rw [hR]; exact Nat.le_of_ble_eq_true rfl⟩ dL_fix_4 (fun hk0 => ?_) _ _ htb (by rfl) (by decide) kw_817 (fun hk1 z a hz => ?_) (fun hk2 => ?_)
  · rw [hk0] at hZ
    show sv_J E X (sv_ow E o f (gh_w E T q.2.2)) sz 1 6 7 [(0, .ref a0), (1, .int x1), (2, .ref o)] [.int q.2.1, .int 0, .ref o]
    refine sv_i2l C dL_fix_7 ?_
    refine sv_last (i := 0) C 0 rfl (by decide) dL_fix_8 ?_
    refine sv_goto (tgt := 15) C dL_fix_9 (by decide) ?_
    refine sv_iconst (v := 0) C dL_fix_15 (by decide) ?_
    exact sv_iretE C (Nat.le_refl _) (Nat.le_refl _) (Nat.le_refl _) hZ dL_fix_16
  · rw [hk1] at hZ
    refine sv_sub (lv' := []) [] rfl ?_
    show sv_J E X (sv_ow E o f (gh_w E T q.2.2)) z 1 6 12 [] [.ref a]
    refine sv_astore_n C dL_fix_12 rfl (by rw [hN]; decide) rfl ?_
    refine sv_iconst (v := 1) C dL_fix_13 (by decide) ?_
    exact sv_iretE C hz (Nat.le_refl _) (Nat.le_refl _) hZ dL_fix_14
  · exact absurd hk2 hq2
set_option maxHeartbeats 4000000 in
set_option maxRecDepth 100000 in
theorem m_L_vessel (l : Launch) (hl : l.stackTraces = false) (E : sv_E) (T : gh_T) (sz : Nat) (V : gh_V) (a0 : Nat) (x1 : Int32) (x2 : Int32) (o : Nat) (f : Nat → Int64) (q : Int32 × Int32 × gh_V) (hf : f_X8_vessel T V a0 x1 x2 = some q) (hT : gh_ok T) (o_a0 : gh_is T a0 8) (hq2 : q.1 ≠ 2) : sv_MetW l E yL_vessel cL_vessel 5 (some .int) [(0, 10, 13, 13)] 7 113 [.ref a0, .int x1, .int x2, .ref o] (sv_ow E o f (gh_w E T V)) sz (some (.int q.1)) (sv_ow E o (sv_of f q.1 q.2.1) (gh_w E T q.2.2)) := by
  refine sv_ofJW (by decide) (Nat.le_of_ble_eq_true rfl) ?_
  intro X hX hN htb hR C HX hZ
  replace C : sv_C E X cL_vessel RL [] := C
  show sv_J E X (sv_ow E o f (gh_w E T V)) sz 0 0 0 [(0, .ref a0), (1, .int x1), (2, .int x2), (3, .ref o)] []
  refine sv_aload_n 3 C dL_vessel_0 rfl rfl ?_
  refine sv_iconst (v := 0) C dL_vessel_1 (by decide) ?_
  refine sv_aload_n 0 C dL_vessel_2 rfl rfl ?_
  refine sv_iload_n 1 C dL_vessel_3 rfl rfl ?_
  refine sv_iload_n 2 C dL_vessel_4 rfl rfl ?_
  obtain ⟨k8, hk8⟩ := gh_obj (E := E) (V := V) o_a0 (by decide)
  refine sv_callX (w1 := [(o, .inl (E.2.1 3, 1, .inr (.inl f)))]) (rest := [.int 0, .ref o]) C HX mv_L_15 (m_X8_vessel (sv_l X) (hX ▸ hl) E T sz V a0 x1 x2 q hf hT o_a0) k8 hk8 rfl rfl rfl (Nat.le_of_ble_eq_true rfl) ⟨by rw [hR]; exact Nat.le_of_ble_eq_true rfl, by rw [hR]; exact Nat.le_of_ble_eq_true rfl⟩ ⟨by rw [hR]; exact Nat.le_of_ble_eq_true rfl, by rw [hR]; exact Nat.le_of_ble_eq_true rfl⟩ dL_vessel_5 (fun hk0 => ?_) _ _ htb (by rfl) (by decide) kw_817 (fun hk1 z a hz => ?_) (fun hk2 => ?_)
  · rw [hk0] at hZ
    show sv_J E X (sv_ow E o f (gh_w E T q.2.2)) sz 1 6 8 [(0, .ref a0), (1, .int x1), (2, .int x2), (3, .ref o)] [.int q.2.1, .int 0, .ref o]
    refine sv_i2l C dL_vessel_8 ?_
    refine sv_last (i := 0) C 0 rfl (by decide) dL_vessel_9 ?_
    refine sv_goto (tgt := 17) C dL_vessel_10 (by decide) ?_
    refine sv_iconst (v := 0) C dL_vessel_17 (by decide) ?_
    exact sv_iretE C (Nat.le_refl _) (Nat.le_refl _) (Nat.le_refl _) hZ dL_vessel_18
  · rw [hk1] at hZ
    refine sv_sub (lv' := []) [] rfl ?_
    show sv_J E X (sv_ow E o f (gh_w E T q.2.2)) z 1 6 13 [] [.ref a]
    refine sv_astore C dL_vessel_13 (by rw [hN]; decide) rfl ?_
    refine sv_iconst (v := 1) C dL_vessel_15 (by decide) ?_
    exact sv_iretE C hz (Nat.le_refl _) (Nat.le_refl _) hZ dL_vessel_16
  · exact absurd hk2 hq2
set_option maxHeartbeats 4000000 in
set_option maxRecDepth 100000 in
theorem m_L_bits (l : Launch) (hl : l.stackTraces = false) (E : sv_E) (T : gh_T) (sz : Nat) (V : gh_V) (a0 : Nat) (x1 : Int32) (x2 : Int32) (o : Nat) (f : Nat → Int64) (q : Int32 × Int32 × gh_V) (hf : f_X8_bits T V a0 x1 x2 = some q) (hT : gh_ok T) (o_a0 : gh_is T a0 8) (hq2 : q.1 ≠ 2) : sv_MetW l E yL_bits cL_bits 5 (some .int) [(0, 10, 13, 13)] 7 112 [.ref a0, .int x1, .int x2, .ref o] (sv_ow E o f (gh_w E T V)) sz (some (.int q.1)) (sv_ow E o (sv_of f q.1 q.2.1) (gh_w E T q.2.2)) := by
  refine sv_ofJW (by decide) (Nat.le_of_ble_eq_true rfl) ?_
  intro X hX hN htb hR C HX hZ
  replace C : sv_C E X cL_bits RL [] := C
  show sv_J E X (sv_ow E o f (gh_w E T V)) sz 0 0 0 [(0, .ref a0), (1, .int x1), (2, .int x2), (3, .ref o)] []
  refine sv_aload_n 3 C dL_bits_0 rfl rfl ?_
  refine sv_iconst (v := 0) C dL_bits_1 (by decide) ?_
  refine sv_aload_n 0 C dL_bits_2 rfl rfl ?_
  refine sv_iload_n 1 C dL_bits_3 rfl rfl ?_
  refine sv_iload_n 2 C dL_bits_4 rfl rfl ?_
  obtain ⟨k8, hk8⟩ := gh_obj (E := E) (V := V) o_a0 (by decide)
  refine sv_callX (w1 := [(o, .inl (E.2.1 3, 1, .inr (.inl f)))]) (rest := [.int 0, .ref o]) C HX mv_L_19 (m_X8_bits (sv_l X) (hX ▸ hl) E T sz V a0 x1 x2 q hf hT o_a0) k8 hk8 rfl rfl rfl (Nat.le_of_ble_eq_true rfl) ⟨by rw [hR]; exact Nat.le_of_ble_eq_true rfl, by rw [hR]; exact Nat.le_of_ble_eq_true rfl⟩ ⟨by rw [hR]; exact Nat.le_of_ble_eq_true rfl, by rw [hR]; exact Nat.le_of_ble_eq_true rfl⟩ dL_bits_5 (fun hk0 => ?_) _ _ htb (by rfl) (by decide) kw_817 (fun hk1 z a hz => ?_) (fun hk2 => ?_)
  · rw [hk0] at hZ
    show sv_J E X (sv_ow E o f (gh_w E T q.2.2)) sz 1 6 8 [(0, .ref a0), (1, .int x1), (2, .int x2), (3, .ref o)] [.int q.2.1, .int 0, .ref o]
    refine sv_i2l C dL_bits_8 ?_
    refine sv_last (i := 0) C 0 rfl (by decide) dL_bits_9 ?_
    refine sv_goto (tgt := 17) C dL_bits_10 (by decide) ?_
    refine sv_iconst (v := 0) C dL_bits_17 (by decide) ?_
    exact sv_iretE C (Nat.le_refl _) (Nat.le_refl _) (Nat.le_refl _) hZ dL_bits_18
  · rw [hk1] at hZ
    refine sv_sub (lv' := []) [] rfl ?_
    show sv_J E X (sv_ow E o f (gh_w E T q.2.2)) z 1 6 13 [] [.ref a]
    refine sv_astore C dL_bits_13 (by rw [hN]; decide) rfl ?_
    refine sv_iconst (v := 1) C dL_bits_15 (by decide) ?_
    exact sv_iretE C hz (Nat.le_refl _) (Nat.le_refl _) hZ dL_bits_16
  · exact absurd hk2 hq2
set_option maxHeartbeats 4000000 in
set_option maxRecDepth 100000 in
theorem m_L_send (l : Launch) (hl : l.stackTraces = false) (E : sv_E) (T : gh_T) (sz : Nat) (V : gh_V) (a0 : Nat) (x1 : Int32) (x2 : Int32) (x3 : Int32) (o : Nat) (f : Nat → Int64) (q : Int32 × Int32 × gh_V) (hf : f_X8_send T V a0 x1 x2 x3 = some q) (hT : gh_ok T) (o_a0 : gh_is T a0 8) : sv_MetW l E yL_send cL_send 6 (some .int) [(0, 12, 15, 13), (0, 12, 19, 26)] 7 159 [.ref a0, .int x1, .int x2, .int x3, .ref o] (sv_ow E o f (gh_w E T V)) sz (some (.int q.1)) (sv_ow E o (sv_of f q.1 q.2.1) (gh_w E T q.2.2)) := by
  refine sv_ofJW (by decide) (Nat.le_of_ble_eq_true rfl) ?_
  intro X hX hN htb hR C HX hZ
  replace C : sv_C E X cL_send RL [] := C
  show sv_J E X (sv_ow E o f (gh_w E T V)) sz 0 0 0 [(0, .ref a0), (1, .int x1), (2, .int x2), (3, .int x3), (4, .ref o)] []
  refine sv_aload 4 C dL_send_0 rfl ?_
  refine sv_iconst (v := 0) C dL_send_2 (by decide) ?_
  refine sv_aload_n 0 C dL_send_3 rfl rfl ?_
  refine sv_iload_n 1 C dL_send_4 rfl rfl ?_
  refine sv_iload_n 2 C dL_send_5 rfl rfl ?_
  refine sv_iload_n 3 C dL_send_6 rfl rfl ?_
  obtain ⟨k8, hk8⟩ := gh_obj (E := E) (V := V) o_a0 (by decide)
  refine sv_callX (w1 := [(o, .inl (E.2.1 3, 1, .inr (.inl f)))]) (rest := [.int 0, .ref o]) C HX mv_L_22 (m_X8_send (sv_l X) (hX ▸ hl) E T sz V a0 x1 x2 x3 q hf hT o_a0) k8 hk8 rfl rfl rfl (Nat.le_of_ble_eq_true rfl) ⟨by rw [hR]; exact Nat.le_of_ble_eq_true rfl, by rw [hR]; exact Nat.le_of_ble_eq_true rfl⟩ ⟨by rw [hR]; exact Nat.le_of_ble_eq_true rfl, by rw [hR]; exact Nat.le_of_ble_eq_true rfl⟩ dL_send_7 (fun hk0 => ?_) _ _ htb (by rfl) (by decide) kw_817 (fun hk1 z a hz => ?_) (fun hk2 => ?_)
  · rw [hk0] at hZ
    show sv_J E X (sv_ow E o f (gh_w E T q.2.2)) sz 1 6 10 [(0, .ref a0), (1, .int x1), (2, .int x2), (3, .int x3), (4, .ref o)] [.int q.2.1, .int 0, .ref o]
    refine sv_i2l C dL_send_10 ?_
    refine sv_last (i := 0) C 0 rfl (by decide) dL_send_11 ?_
    refine sv_goto (tgt := 23) C dL_send_12 (by decide) ?_
    refine sv_iconst (v := 0) C dL_send_23 (by decide) ?_
    exact sv_iretE C (Nat.le_refl _) (Nat.le_refl _) (Nat.le_refl _) hZ dL_send_24
  · rw [hk1] at hZ
    refine sv_sub (lv' := []) [] rfl ?_
    show sv_J E X (sv_ow E o f (gh_w E T q.2.2)) z 1 6 15 [] [.ref a]
    refine sv_astore C dL_send_15 (by rw [hN]; decide) rfl ?_
    refine sv_iconst (v := 1) C dL_send_17 (by decide) ?_
    exact sv_iretE C hz (Nat.le_refl _) (Nat.le_refl _) hZ dL_send_18
  · refine ⟨_, _, rfl, by rfl, by decide, kw_831, fun z a hz => ?_⟩
    rw [hk2] at hZ
    refine sv_sub (lv' := []) [] rfl ?_
    show sv_J E X (sv_ow E o f (gh_w E T q.2.2)) z 1 6 19 [] [.ref a]
    refine sv_astore C dL_send_19 (by rw [hN]; decide) rfl ?_
    refine sv_iconst (v := 2) C dL_send_21 (by decide) ?_
    exact sv_iretE C hz (Nat.le_refl _) (Nat.le_refl _) hZ dL_send_22
