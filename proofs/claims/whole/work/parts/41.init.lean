/-! ===== the reference's constructor ===== -/
def md_ix (k : Nat) : Nat := match k with
  | 1 => 0 | 3 => 1 | 6 => 2 | 10 => 3 | 11 => 4 | 12 => 5 | 15 => 6 | 16 => 7 | 21 => 8 | 22 => 9 | 23 => 10 | 24 => 11 | 25 => 12 | 29 => 13 | 30 => 14 | 31 => 15 | 35 => 16 | _ => 0
def md_ad (z k : Nat) : Nat := z + md_ix k
def md_fj (z j : Nat) : List Value := (List.range 38).map (fun k => if md_ref k = true then (if md_ix k < j then .ref (z + md_ix k) else .null) else .int 0)
def md_wj (E : sv_E) (h0 z j : Nat) : va_W := (h0, .inr (9, md_fj z j)) :: (md_arr.take j).map (fun q => (z + md_ix q.1, .inl (E.2.1 q.2.1, q.2.2, .inl (fun _ => 0))))
def md_B0 : md_B := (fun _ => 0, fun _ _ => 0)
theorem cl_L_29 {z : Nat} : sv_CL RL 29 9 RX9 38 (md_fj z 0) := ⟨TX9, tyX9, rfl, sv_in9, tyX9_ok, fun j hj => by
  rcases (show j = 0 ∨ j = 1 ∨ j = 2 ∨ j = 3 ∨ j = 4 ∨ j = 5 ∨ j = 6 ∨ j = 7 ∨ j = 8 ∨ j = 9 ∨ j = 10 ∨ j = 11 ∨ j = 12 ∨ j = 13 ∨ j = 14 ∨ j = 15 ∨ j = 16 ∨ j = 17 ∨ j = 18 ∨ j = 19 ∨ j = 20 ∨ j = 21 ∨ j = 22 ∨ j = 23 ∨ j = 24 ∨ j = 25 ∨ j = 26 ∨ j = 27 ∨ j = 28 ∨ j = 29 ∨ j = 30 ∨ j = 31 ∨ j = 32 ∨ j = 33 ∨ j = 34 ∨ j = 35 ∨ j = 36 ∨ j = 37 by omega) with rfl | rfl | rfl | rfl | rfl | rfl | rfl | rfl | rfl | rfl | rfl | rfl | rfl | rfl | rfl | rfl | rfl | rfl | rfl | rfl | rfl | rfl | rfl | rfl | rfl | rfl | rfl | rfl | rfl | rfl | rfl | rfl | rfl | rfl | rfl | rfl | rfl | rfl <;> rfl, kw_840, kw_841, kw_584⟩
set_option maxHeartbeats 8000000 in
set_option maxRecDepth 100000 in
theorem m_X9_init (l : Launch) (E : sv_E) (h0 z : Nat) (q : md_B) (hf : f_X9_forget md_B0 = some q) : sv_Met l E yX9_init cX9_init 1 none 1 21 [] [.ref h0] (md_wj E h0 z 0) z none (md_w E h0 (md_ad z) q) (z + 17) 17 45301 := by
  refine sv_ofJ (by decide) (Nat.le_of_ble_eq_true rfl) ?_
  intro X hX hN hnm hR C hZ
  replace C : sv_C E X cX9_init RX9 [] := C
  show sv_J E X (md_wj E h0 z 0) z 0 0 0 [(0, .ref h0)] []
  refine sv_aload_n 0 C dX9_init_0 rfl rfl ?_
  refine sv_objInit C kw_565 kw_1 kw_2 ⟨by rw [hR]; exact Nat.le_of_ble_eq_true rfl, by rw [hR]; exact Nat.le_of_ble_eq_true rfl⟩ dX9_init_1 ?_
  show sv_J E X (md_wj E h0 z 0) (z + 0) 0 0 4 [(0, .ref h0)] []
  refine sv_aload_n 0 C dX9_init_4 rfl rfl ?_
  refine sv_sipush (v := 2000) C dX9_init_5 (by decide) ?_
  refine md_mk 2000 1 (atype := .int) (ty := .int) (by decide) rfl rfl rfl (fun U cA h => h) C kw_4 (by decide) ⟨by rw [hR]; exact Nat.le_of_ble_eq_true rfl, by rw [hR]; exact Nat.le_of_ble_eq_true rfl⟩ dX9_init_8 ?_
  refine sv_putF C fl_X9_13 rfl hnm 0 rfl rfl rfl (Nat.le_of_ble_eq_true rfl) dX9_init_10 ?_
  show sv_J E X (md_wj E h0 z 1) (z + 1) 1 2000 13 [(0, .ref h0)] []
  refine sv_aload_n 0 C dX9_init_13 rfl rfl ?_
  refine sv_sipush (v := 200) C dX9_init_14 (by decide) ?_
  refine md_mk 200 1 (atype := .int) (ty := .int) (by decide) rfl rfl rfl (fun U cA h => h) C kw_4 (by decide) ⟨by rw [hR]; exact Nat.le_of_ble_eq_true rfl, by rw [hR]; exact Nat.le_of_ble_eq_true rfl⟩ dX9_init_17 ?_
  refine sv_putF C fl_X9_17 rfl hnm 0 rfl rfl rfl (Nat.le_of_ble_eq_true rfl) dX9_init_19 ?_
  show sv_J E X (md_wj E h0 z 2) (z + 2) 2 2200 22 [(0, .ref h0)] []
  refine sv_aload_n 0 C dX9_init_22 rfl rfl ?_
  refine sv_bipush (v := 79) C dX9_init_23 (by decide) ?_
  refine md_mk 79 1 (atype := .int) (ty := .int) (by decide) rfl rfl rfl (fun U cA h => h) C kw_4 (by decide) ⟨by rw [hR]; exact Nat.le_of_ble_eq_true rfl, by rw [hR]; exact Nat.le_of_ble_eq_true rfl⟩ dX9_init_25 ?_
  refine sv_putF C fl_X9_20 rfl hnm 0 rfl rfl rfl (Nat.le_of_ble_eq_true rfl) dX9_init_27 ?_
  show sv_J E X (md_wj E h0 z 3) (z + 3) 3 2279 30 [(0, .ref h0)] []
  refine sv_aload_n 0 C dX9_init_30 rfl rfl ?_
  refine sv_bipush (v := 9) C dX9_init_31 (by decide) ?_
  refine md_mk 9 1 (atype := .int) (ty := .int) (by decide) rfl rfl rfl (fun U cA h => h) C kw_4 (by decide) ⟨by rw [hR]; exact Nat.le_of_ble_eq_true rfl, by rw [hR]; exact Nat.le_of_ble_eq_true rfl⟩ dX9_init_33 ?_
  refine sv_putF C fl_X9_23 rfl hnm 0 rfl rfl rfl (Nat.le_of_ble_eq_true rfl) dX9_init_35 ?_
  show sv_J E X (md_wj E h0 z 4) (z + 4) 4 2288 38 [(0, .ref h0)] []
  refine sv_aload_n 0 C dX9_init_38 rfl rfl ?_
  refine sv_bipush (v := 80) C dX9_init_39 (by decide) ?_
  refine md_mk 80 1 (atype := .int) (ty := .int) (by decide) rfl rfl rfl (fun U cA h => h) C kw_4 (by decide) ⟨by rw [hR]; exact Nat.le_of_ble_eq_true rfl, by rw [hR]; exact Nat.le_of_ble_eq_true rfl⟩ dX9_init_41 ?_
  refine sv_putF C fl_X9_26 rfl hnm 0 rfl rfl rfl (Nat.le_of_ble_eq_true rfl) dX9_init_43 ?_
  show sv_J E X (md_wj E h0 z 5) (z + 5) 5 2368 46 [(0, .ref h0)] []
  refine sv_aload_n 0 C dX9_init_46 rfl rfl ?_
  refine sv_bipush (v := 80) C dX9_init_47 (by decide) ?_
  refine md_mk 80 1 (atype := .int) (ty := .int) (by decide) rfl rfl rfl (fun U cA h => h) C kw_4 (by decide) ⟨by rw [hR]; exact Nat.le_of_ble_eq_true rfl, by rw [hR]; exact Nat.le_of_ble_eq_true rfl⟩ dX9_init_49 ?_
  refine sv_putF C fl_X9_29 rfl hnm 0 rfl rfl rfl (Nat.le_of_ble_eq_true rfl) dX9_init_51 ?_
  show sv_J E X (md_wj E h0 z 6) (z + 6) 6 2448 54 [(0, .ref h0)] []
  refine sv_aload_n 0 C dX9_init_54 rfl rfl ?_
  refine sv_bipush (v := 18) C dX9_init_55 (by decide) ?_
  refine md_mk 18 1 (atype := .int) (ty := .int) (by decide) rfl rfl rfl (fun U cA h => h) C kw_4 (by decide) ⟨by rw [hR]; exact Nat.le_of_ble_eq_true rfl, by rw [hR]; exact Nat.le_of_ble_eq_true rfl⟩ dX9_init_57 ?_
  refine sv_putF C fl_X9_32 rfl hnm 0 rfl rfl rfl (Nat.le_of_ble_eq_true rfl) dX9_init_59 ?_
  show sv_J E X (md_wj E h0 z 7) (z + 7) 7 2466 62 [(0, .ref h0)] []
  refine sv_aload_n 0 C dX9_init_62 rfl rfl ?_
  refine sv_bipush (v := 18) C dX9_init_63 (by decide) ?_
  refine md_mk 18 1 (atype := .int) (ty := .int) (by decide) rfl rfl rfl (fun U cA h => h) C kw_4 (by decide) ⟨by rw [hR]; exact Nat.le_of_ble_eq_true rfl, by rw [hR]; exact Nat.le_of_ble_eq_true rfl⟩ dX9_init_65 ?_
  refine sv_putF C fl_X9_35 rfl hnm 0 rfl rfl rfl (Nat.le_of_ble_eq_true rfl) dX9_init_67 ?_
  show sv_J E X (md_wj E h0 z 8) (z + 8) 8 2484 70 [(0, .ref h0)] []
  refine sv_aload_n 0 C dX9_init_70 rfl rfl ?_
  refine sv_bipush (v := 11) C dX9_init_71 (by decide) ?_
  refine md_mk 11 1 (atype := .int) (ty := .int) (by decide) rfl rfl rfl (fun U cA h => h) C kw_4 (by decide) ⟨by rw [hR]; exact Nat.le_of_ble_eq_true rfl, by rw [hR]; exact Nat.le_of_ble_eq_true rfl⟩ dX9_init_73 ?_
  refine sv_putF C fl_X9_38 rfl hnm 0 rfl rfl rfl (Nat.le_of_ble_eq_true rfl) dX9_init_75 ?_
  show sv_J E X (md_wj E h0 z 9) (z + 9) 9 2495 78 [(0, .ref h0)] []
  refine sv_aload_n 0 C dX9_init_78 rfl rfl ?_
  refine sv_bipush (v := 11) C dX9_init_79 (by decide) ?_
  refine md_mk 11 1 (atype := .int) (ty := .int) (by decide) rfl rfl rfl (fun U cA h => h) C kw_4 (by decide) ⟨by rw [hR]; exact Nat.le_of_ble_eq_true rfl, by rw [hR]; exact Nat.le_of_ble_eq_true rfl⟩ dX9_init_81 ?_
  refine sv_putF C fl_X9_41 rfl hnm 0 rfl rfl rfl (Nat.le_of_ble_eq_true rfl) dX9_init_83 ?_
  show sv_J E X (md_wj E h0 z 10) (z + 10) 10 2506 86 [(0, .ref h0)] []
  refine sv_aload_n 0 C dX9_init_86 rfl rfl ?_
  refine sv_bipush (v := 11) C dX9_init_87 (by decide) ?_
  refine md_mk 11 1 (atype := .int) (ty := .int) (by decide) rfl rfl rfl (fun U cA h => h) C kw_4 (by decide) ⟨by rw [hR]; exact Nat.le_of_ble_eq_true rfl, by rw [hR]; exact Nat.le_of_ble_eq_true rfl⟩ dX9_init_89 ?_
  refine sv_putF C fl_X9_44 rfl hnm 0 rfl rfl rfl (Nat.le_of_ble_eq_true rfl) dX9_init_91 ?_
  show sv_J E X (md_wj E h0 z 11) (z + 11) 11 2517 94 [(0, .ref h0)] []
  refine sv_aload_n 0 C dX9_init_94 rfl rfl ?_
  refine sv_ldc C kw_573 dX9_init_95 ?_
  refine md_mk 35640 2 (atype := .boolean) (ty := .boolean) (by decide) rfl rfl rfl (fun U cA h => h) C kw_574 (by decide) ⟨by rw [hR]; exact Nat.le_of_ble_eq_true rfl, by rw [hR]; exact Nat.le_of_ble_eq_true rfl⟩ dX9_init_97 ?_
  refine sv_putF C fl_X9_48 rfl hnm 0 rfl rfl rfl (Nat.le_of_ble_eq_true rfl) dX9_init_99 ?_
  show sv_J E X (md_wj E h0 z 12) (z + 12) 12 38157 102 [(0, .ref h0)] []
  refine sv_aload_n 0 C dX9_init_102 rfl rfl ?_
  refine sv_sipush (v := 3240) C dX9_init_103 (by decide) ?_
  refine md_mk 3240 2 (atype := .boolean) (ty := .boolean) (by decide) rfl rfl rfl (fun U cA h => h) C kw_574 (by decide) ⟨by rw [hR]; exact Nat.le_of_ble_eq_true rfl, by rw [hR]; exact Nat.le_of_ble_eq_true rfl⟩ dX9_init_106 ?_
  refine sv_putF C fl_X9_52 rfl hnm 0 rfl rfl rfl (Nat.le_of_ble_eq_true rfl) dX9_init_108 ?_
  show sv_J E X (md_wj E h0 z 13) (z + 13) 13 41397 111 [(0, .ref h0)] []
  refine sv_aload_n 0 C dX9_init_111 rfl rfl ?_
  refine sv_sipush (v := 960) C dX9_init_112 (by decide) ?_
  refine md_mk 960 1 (atype := .int) (ty := .int) (by decide) rfl rfl rfl (fun U cA h => h) C kw_4 (by decide) ⟨by rw [hR]; exact Nat.le_of_ble_eq_true rfl, by rw [hR]; exact Nat.le_of_ble_eq_true rfl⟩ dX9_init_115 ?_
  refine sv_putF C fl_X9_55 rfl hnm 0 rfl rfl rfl (Nat.le_of_ble_eq_true rfl) dX9_init_117 ?_
  show sv_J E X (md_wj E h0 z 14) (z + 14) 14 42357 120 [(0, .ref h0)] []
  refine sv_aload_n 0 C dX9_init_120 rfl rfl ?_
  refine sv_sipush (v := 2400) C dX9_init_121 (by decide) ?_
  refine md_mk 2400 1 (atype := .int) (ty := .int) (by decide) rfl rfl rfl (fun U cA h => h) C kw_4 (by decide) ⟨by rw [hR]; exact Nat.le_of_ble_eq_true rfl, by rw [hR]; exact Nat.le_of_ble_eq_true rfl⟩ dX9_init_124 ?_
  refine sv_putF C fl_X9_58 rfl hnm 0 rfl rfl rfl (Nat.le_of_ble_eq_true rfl) dX9_init_126 ?_
  show sv_J E X (md_wj E h0 z 15) (z + 15) 15 44757 129 [(0, .ref h0)] []
  refine sv_aload_n 0 C dX9_init_129 rfl rfl ?_
  refine sv_bipush (v := 120) C dX9_init_130 (by decide) ?_
  refine md_mk 120 1 (atype := .int) (ty := .int) (by decide) rfl rfl rfl (fun U cA h => h) C kw_4 (by decide) ⟨by rw [hR]; exact Nat.le_of_ble_eq_true rfl, by rw [hR]; exact Nat.le_of_ble_eq_true rfl⟩ dX9_init_132 ?_
  refine sv_putF C fl_X9_61 rfl hnm 0 rfl rfl rfl (Nat.le_of_ble_eq_true rfl) dX9_init_134 ?_
  show sv_J E X (md_wj E h0 z 16) (z + 16) 16 44877 137 [(0, .ref h0)] []
  refine sv_aload_n 0 C dX9_init_137 rfl rfl ?_
  refine sv_sipush (v := 424) C dX9_init_138 (by decide) ?_
  refine md_mk 424 2 (atype := .boolean) (ty := .boolean) (by decide) rfl rfl rfl (fun U cA h => h) C kw_574 (by decide) ⟨by rw [hR]; exact Nat.le_of_ble_eq_true rfl, by rw [hR]; exact Nat.le_of_ble_eq_true rfl⟩ dX9_init_141 ?_
  refine sv_putF C fl_X9_64 rfl hnm 0 rfl rfl rfl (Nat.le_of_ble_eq_true rfl) dX9_init_143 ?_
  show sv_J E X (md_wj E h0 z 17) (z + 17) 17 45301 146 [(0, .ref h0)] []
  show sv_J E X (md_w E h0 (md_ad z) md_B0) (z + 17) 17 45301 146 [(0, .ref h0)] []
  refine sv_aload_n 0 C dX9_init_146 rfl rfl ?_
  refine sv_callV0 C mv_X9_67 (m_X9_forget (sv_l X) E h0 (md_ad z) (z + 17) _ q hf) sv_sx0 0 rfl rfl rfl rfl (Nat.le_of_ble_eq_true rfl) ⟨by rw [hR]; exact Nat.le_of_ble_eq_true rfl, by rw [hR]; exact Nat.le_of_ble_eq_true rfl⟩ ⟨by rw [hR]; exact Nat.le_of_ble_eq_true rfl, by rw [hR]; exact Nat.le_of_ble_eq_true rfl⟩ dX9_init_147 ?_
  exact sv_vret C hZ dX9_init_150
