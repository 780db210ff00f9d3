/-! ===== String.charAt, by hand ===== -/
def sv_ch (t : List Int32) (i : Int32) : Int32 := (((t.getD i.toNatClampNeg 0) &&& 255).toUInt32 % 65536).toInt32
def sv_inc (i : Int32) (t : List Int32) : Bool := sv_inb i t.length && decide (i < Int32.ofNat t.length)
theorem m_J3_checkIndex_8e157 (l : Launch) (E : sv_E) (wd : va_W) (sz : Nat) (x0 x1 : Int32) (w : Value) (hw : w = .null ∨ ∃ a, w = .ref a) (h1 : ¬ x0 < 0) (h2 : x0 < x1) : sv_Met l E yJ3_checkIndex_8e157 cJ3_checkIndex_8e157 3 (some .int) 0 0 [] [.int x0, .int x1, w] wd sz (some (.int x0)) wd sz 0 0 := by
  refine sv_ofJ (by decide) (by rcases hw with rfl | ⟨a, rfl⟩ <;> exact Nat.le_of_ble_eq_true rfl) ?_
  intro X hX hN hnm hR C hZ
  replace C : sv_C E X cJ3_checkIndex_8e157 RJ3 [] := C
  have key : sv_J E X wd sz 0 0 0 [(0, .int x0), (1, .int x1)] [] := by
    refine sv_iload_n 0 C dJ3_checkIndex_8e157_0 rfl rfl ?_
    refine sv_if_lt (tgt := 9) C dJ3_checkIndex_8e157_1 (by decide) (fun c => absurd c h1) (fun _ => ?_)
    refine sv_iload_n 0 C dJ3_checkIndex_8e157_4 rfl rfl ?_
    refine sv_iload_n 1 C dJ3_checkIndex_8e157_5 rfl rfl ?_
    refine sv_icmp_lt (tgt := 16) C dJ3_checkIndex_8e157_6 (by decide) (fun _ => ?_) (fun c => absurd h2 c)
    refine sv_iload_n 0 C dJ3_checkIndex_8e157_16 rfl rfl ?_
    exact sv_iret C hZ dJ3_checkIndex_8e157_17
  refine sv_sub [0, 1] ?_ key
  rcases hw with rfl | ⟨a, rfl⟩ <;> rfl
theorem m_J0_checkIndex_df160 (l : Launch) (E : sv_E) (wd : va_W) (sz : Nat) (x0 x1 : Int32) (h1 : ¬ x0 < 0) (h2 : x0 < x1) : sv_Met l E yJ0_checkIndex_df160 cJ0_checkIndex_df160 2 none 1 22 [] [.int x0, .int x1] wd sz none wd sz 0 0 := by
  refine sv_ofJ (by decide) (Nat.le_of_ble_eq_true rfl) ?_
  intro X hX hN hnm hR C hZ
  replace C : sv_C E X cJ0_checkIndex_df160 RJ0 [] := C
  show sv_J E X wd sz 0 0 0 [(0, .int x0), (1, .int x1)] []
  refine sv_iload_n 0 C dJ0_checkIndex_df160_0 rfl rfl ?_
  refine sv_iload_n 1 C dJ0_checkIndex_df160_1 rfl rfl ?_
  refine ss_fmt C kw_29 dJ0_checkIndex_df160_2 ?_ (fun a => ?_)
  · refine sv_callS0 C ms_J0_1059 (m_J3_checkIndex_8e157 (sv_l X) E _ sz x0 x1 _ (Or.inl rfl) h1 h2) sv_sx0 rfl rfl (Nat.le_of_ble_eq_true rfl) ⟨by rw [hR]; decide, by rw [hR]; decide⟩ ⟨by rw [hR]; decide, by rw [hR]; decide⟩ dJ0_checkIndex_df160_5 ?_
    refine sv_pop C dJ0_checkIndex_df160_8 rfl ?_
    exact sv_vret C hZ dJ0_checkIndex_df160_9
  · refine sv_callS0 C ms_J0_1059 (m_J3_checkIndex_8e157 (sv_l X) E _ sz x0 x1 _ (Or.inr ⟨a, rfl⟩) h1 h2) sv_sx0 rfl rfl (Nat.le_of_ble_eq_true rfl) ⟨by rw [hR]; decide, by rw [hR]; decide⟩ ⟨by rw [hR]; decide, by rw [hR]; decide⟩ dJ0_checkIndex_df160_5 ?_
    refine sv_pop C dJ0_checkIndex_df160_8 rfl ?_
    exact sv_vret C hZ dJ0_checkIndex_df160_9
theorem sv_inc_in {i : Int32} {t : List Int32} (h : sv_inc i t = true) : sv_inb i t.length = true ∧ ¬ i < 0 ∧ i < Int32.ofNat t.length := by
  simp only [sv_inc, Bool.and_eq_true, decide_eq_true_eq] at h
  exact ⟨h.1, fun c => sv_inb_in h.1 (Or.inl c), h.2⟩
theorem m_J1_charAt_3b067 (l : Launch) (E : sv_E) (wd : va_W) (sz : Nat) (k0 v0 : Nat) (t0 : List Int32) (x1 : Int32) (h : sv_inc x1 t0 = true) : sv_Met l E yJ1_charAt_3b067 cJ1_charAt_3b067 2 (some .char) 2 43 [(k0, v0, t0)] [.ref v0, .int x1] wd sz (some (.int (sv_ch t0 x1))) wd sz 0 0 := by
  obtain ⟨g, h1, h2⟩ := sv_inc_in h
  refine sv_ofJ (by decide) (Nat.le_of_ble_eq_true rfl) ?_
  intro X hX hN hnm hR C hZ
  replace C : sv_C E X cJ1_charAt_3b067 RJ1 [(k0, v0, t0)] := C
  show sv_J E X wd sz 0 0 0 [(0, .ref v0), (1, .int x1)] []
  refine sv_iload_n 1 C dJ1_charAt_3b067_0 rfl rfl ?_
  refine sv_aload_n 0 C dJ1_charAt_3b067_1 rfl rfl ?_
  refine ss_alen (k := k0) (t := t0) C List.mem_cons_self dJ1_charAt_3b067_2 ?_
  refine sv_callS0 C ms_J1_9 (m_J0_checkIndex_df160 (sv_l X) E _ sz x1 _ h1 h2) sv_sx0 rfl rfl (Nat.le_of_ble_eq_true rfl) ⟨by rw [hR]; decide, by rw [hR]; decide⟩ ⟨by rw [hR]; decide, by rw [hR]; decide⟩ dJ1_charAt_3b067_3 ?_
  refine sv_aload_n 0 C dJ1_charAt_3b067_6 rfl rfl ?_
  refine sv_iload_n 1 C dJ1_charAt_3b067_7 rfl rfl ?_
  refine ss_bald (k := k0) (t := t0) C List.mem_cons_self g dJ1_charAt_3b067_8 ?_
  refine sv_sipush (v := 255) C dJ1_charAt_3b067_9 (by decide) ?_
  refine sv_iand C dJ1_charAt_3b067_12 ?_
  refine sv_i2c C dJ1_charAt_3b067_13 ?_
  exact sv_zret (ty := .char) C (pk_nc _) hZ dJ1_charAt_3b067_14
def f_J0_charAt_5068e (t0 : List Int32) (x1 : Int32) : Option Int32 := sv_g (sv_inc x1 t0) (some (sv_ch t0 x1))
theorem m_J0_charAt_5068e (l : Launch) (E : sv_E) (wd : va_W) (sz : Nat) (k0 v0 : Nat) (t0 : List Int32) (x1 : Int32) (q : Int32) (hf : f_J0_charAt_5068e t0 x1 = some q) : sv_Met l E yJ0_charAt_5068e cJ0_charAt_5068e 2 (some .char) 3 64 [(k0, v0, t0)] [.ref k0, .int x1] wd sz (some (.int q)) wd sz 0 0 := by
  obtain ⟨h, hq⟩ := sv_g_some hf
  cases hq
  refine sv_ofJ (by decide) (Nat.le_of_ble_eq_true rfl) ?_
  intro X hX hN hnm hR C hZ
  replace C : sv_C E X cJ0_charAt_5068e RJ0 [(k0, v0, t0)] := C
  show sv_J E X wd sz 0 0 0 [(0, .ref k0), (1, .int x1)] []
  refine sv_aload_n 0 C dJ0_charAt_5068e_0 rfl rfl ?_
  refine ss_callV (v := v0) (t := t0) C mv_J0_492 (m_J0_isLatin1_aae02 (sv_l X) E _ sz k0 v0 t0 1 rfl) sv_sx1 List.mem_cons_self rfl rfl rfl (Nat.le_of_ble_eq_true rfl) ⟨by rw [hR]; decide, by rw [hR]; decide⟩ ⟨by rw [hR]; decide, by rw [hR]; decide⟩ dJ0_charAt_5068e_1 ?_
  refine sv_if_eq (tgt := 16) C dJ0_charAt_5068e_4 (by decide) (fun c => absurd c (by decide)) (fun _ => ?_)
  refine sv_aload_n 0 C dJ0_charAt_5068e_7 rfl rfl ?_
  refine ss_value (v := v0) (t := t0) C List.mem_cons_self kw_52 dJ0_charAt_5068e_8 ?_
  refine sv_iload_n 1 C dJ0_charAt_5068e_11 rfl rfl ?_
  refine sv_callS0 C ms_J0_495 (m_J1_charAt_3b067 (sv_l X) E _ sz k0 v0 t0 x1 h) sv_sx1 rfl rfl (Nat.le_of_ble_eq_true rfl) ⟨by rw [hR]; decide, by rw [hR]; decide⟩ ⟨by rw [hR]; decide, by rw [hR]; decide⟩ dJ0_charAt_5068e_12 ?_
  exact sv_zret (ty := .char) C (pk_nc _) hZ dJ0_charAt_5068e_15
