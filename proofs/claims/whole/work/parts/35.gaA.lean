def f_X0_init_14 (a0 : Nat) (T : gh_T) (V : gh_V) (z : Nat) (s0 : Int32) : Option (gh_T × gh_V × Nat) :=
  sv_g (decide (¬ ((((gh_pf V 0 a0 s0).1 0 a0) / 32) + 2) < 0) && decide (((((gh_pf V 0 a0 s0).1 0 a0) / 32) + 2).toNatClampNeg ≤ 103)) (
    some (gh_pr (gh_newa T z 10 ((((gh_pf V 0 a0 s0).1 0 a0) / 32) + 2).toNatClampNeg) 1 a0 (some z), gh_nva (gh_pf V 0 a0 s0) z, z + 1))
def f_X0_init (T : gh_T) (V : gh_V) (z : Nat) (a0 : Nat) (x1 : Int32) : Option (gh_T × gh_V × Nat) :=
  if 0 ≤ x1 then
    f_X0_init_14 a0 T V z x1
  else
    f_X0_init_14 a0 T V z 0
set_option maxHeartbeats 4000000 in
set_option maxRecDepth 100000 in
theorem e_X0_init_14 {q : gh_T × gh_V × Nat} {a0 : Nat} (T : gh_T) (V : gh_V) (z : Nat) (s0 : Int32) (hT : gh_ok T) (hz : gh_fr T z) (o_a0 : gh_is T a0 0) (hf : f_X0_init_14 a0 T V z s0 = some q) : gh_X T z q.1 q.2.2 := by
  have hx := gh_X.rf hT hz
  rw [f_X0_init_14] at hf
  obtain ⟨g27, hf⟩ := sv_g_some hf
  have gl27 := sv_cap_le g27
  have x27 := gh_X.newa (c := 10) (n := ((((gh_pf V 0 a0 s0).1 0 a0) / 32) + 2).toNatClampNeg) hT hz (by decide) (Nat.le_trans gl27 (by decide))
  replace hT := x27.ok
  replace hz := x27.fr
  replace o_a0 := x27.is o_a0
  replace hx := hx.trans x27
  have o_n27 : gh_is (gh_newa T z 10 ((((gh_pf V 0 a0 s0).1 0 a0) / 32) + 2).toNatClampNeg) z 10 := gh_is.mka
  have x29 := gh_X.pr (k := 1) (d := 10) hT hz o_a0 rfl o_n27
  replace hT := x29.ok
  replace hz := x29.fr
  replace o_a0 := x29.is o_a0
  replace o_n27 := x29.is o_n27
  replace hx := hx.trans x29
  cases hf
  exact hx
set_option maxHeartbeats 4000000 in
set_option maxRecDepth 100000 in
theorem w_X0_init_14 {E : sv_E} {X : sv_X} {q : gh_T × gh_V × Nat} {a0 : Nat} (C : sv_C E X cX0_init RX0 []) (hZ : sv_Z E X none none (gh_w E q.1 q.2.1) q.2.2 1 103) (hR : sv_R X = { frames := 1, cells := 1, slots := 103, locals := 20 }) (hN : sv_nL X = 2) (hnm : sv_nm X = "<init>") (T : gh_T) (V : gh_V) (z : Nat) (s0 : Int32) (hT : gh_ok T) (hz : gh_fr T z) (o_a0 : gh_is T a0 0) (hf : f_X0_init_14 a0 T V z s0 = some q) : sv_J E X (gh_w E T V) z 0 0 14 [(0, .ref a0)] [.int s0, .ref a0] := by
  rw [f_X0_init_14] at hf
  refine gh_putiF C fl_X0_7 rfl hnm o_a0 (by decide) (by decide) rfl rfl dX0_init_14 ?_
  refine sv_aload_n 0 C dX0_init_17 rfl rfl ?_
  refine sv_aload_n 0 C dX0_init_18 rfl rfl ?_
  refine gh_geti C fl_X0_7 o_a0 (by decide) (by decide) dX0_init_19 ?_
  refine sv_bipush (v := 32) C dX0_init_22 (by decide) ?_
  refine sv_idiv C dX0_init_24 (by decide) ?_
  refine sv_iconst (v := 2) C dX0_init_25 (by decide) ?_
  refine sv_iadd C dX0_init_26 ?_
  obtain ⟨g27, hf⟩ := sv_g_some hf
  have gl27 := sv_cap_le g27
  have x27 := gh_X.newa (c := 10) (n := ((((gh_pf V 0 a0 s0).1 0 a0) / 32) + 2).toNatClampNeg) hT hz (by decide) (Nat.le_trans gl27 (by decide))
  refine gh_mki C hz kw_4 (sv_cap g27 (by decide)) ⟨by rw [hR]; decide, by rw [hR]; exact Nat.le_trans (Nat.add_le_add_left gl27 _) (by decide)⟩ dX0_init_27 ?_
  refine sv_widen (k := 1) (n := 103) (by decide) (Nat.add_le_add_left gl27 _) ?_
  replace hT := x27.ok
  replace hz := x27.fr
  replace o_a0 := x27.is o_a0
  have o_n27 : gh_is (gh_newa T z 10 ((((gh_pf V 0 a0 s0).1 0 a0) / 32) + 2).toNatClampNeg) z 10 := gh_is.mka
  have x29 := gh_X.pr (k := 1) (d := 10) hT hz o_a0 rfl o_n27
  refine gh_putr (d := 10) C fl_X0_13 rfl hnm o_a0 (by decide) (by decide) rfl rfl dX0_init_29 ?_
  replace hT := x29.ok
  replace hz := x29.fr
  replace o_a0 := x29.is o_a0
  replace o_n27 := x29.is o_n27
  exact sv_vret C (by cases hf; exact hZ) dX0_init_32
set_option maxHeartbeats 4000000 in
set_option maxRecDepth 100000 in
theorem e_X0_init (T : gh_T) (V : gh_V) (z : Nat) (a0 : Nat) (x1 : Int32) (q : gh_T × gh_V × Nat) (hf : f_X0_init T V z a0 x1 = some q) (hT : gh_ok T) (hz : gh_fr T z) (o_a0 : gh_is T a0 0) : gh_X T z q.1 q.2.2 := by
  have hx := gh_X.rf hT hz
  rw [f_X0_init] at hf
  rcases (Decidable.em (0 ≤ x1)) with c6 | c6
  · replace hf := sv_if_t c6 hf
    exact hx.trans (e_X0_init_14 _ _ _ _ hT hz o_a0 hf)
  · replace hf := sv_if_f c6 hf
    exact hx.trans (e_X0_init_14 _ _ _ _ hT hz o_a0 hf)
set_option maxHeartbeats 4000000 in
set_option maxRecDepth 100000 in
theorem m_X0_init (l : Launch) (E : sv_E) (T : gh_T) (V : gh_V) (z : Nat) (a0 : Nat) (x1 : Int32) (q : gh_T × gh_V × Nat) (hf : f_X0_init T V z a0 x1 = some q) (hT : gh_ok T) (hz : gh_fr T z) (o_a0 : gh_is T a0 0) : sv_Met l E yX0_init cX0_init 2 none 1 20 [] [.ref a0, .int x1] (gh_w E T V) z none (gh_w E q.1 q.2.1) q.2.2 1 103 := by
  refine sv_ofJ (by decide) (Nat.le_of_ble_eq_true rfl) ?_
  intro X hX hN hnm hR C hZ
  replace C : sv_C E X cX0_init RX0 [] := C
  show sv_J E X (gh_w E T V) z 0 0 0 [(0, .ref a0), (1, .int x1)] []
  rw [f_X0_init] at hf
  refine sv_aload_n 0 C dX0_init_0 rfl rfl ?_
  refine sv_objInit C kw_0 kw_1 kw_2 ⟨by rw [hR]; decide, by rw [hR]; exact Nat.le_of_ble_eq_true rfl⟩ dX0_init_1 ?_
  refine sv_aload_n 0 C dX0_init_4 rfl rfl ?_
  refine sv_iload_n 1 C dX0_init_5 rfl rfl ?_
  refine sv_if_ge (tgt := 13) C dX0_init_6 (by decide) (fun c6 => ?_) (fun c6 => ?_)
  · replace hf := sv_if_t c6 hf
    refine sv_iload_n 1 C dX0_init_13 rfl rfl ?_
    refine sv_sub (lv' := [(0, .ref a0)]) [0] rfl ?_
    exact w_X0_init_14 C hZ hR hN hnm _ _ _ _ hT hz o_a0 hf
  · replace hf := sv_if_f c6 hf
    refine sv_iconst (v := 0) C dX0_init_9 (by decide) ?_
    refine sv_goto (tgt := 14) C dX0_init_10 (by decide) ?_
    refine sv_sub (lv' := [(0, .ref a0)]) [0] rfl ?_
    exact w_X0_init_14 C hZ hR hN hnm _ _ _ _ hT hz o_a0 hf
def f_X7_init (T : gh_T) (V : gh_V) (z : Nat) (a0 : Nat) : Option (gh_T × gh_V × Nat) :=
  some (gh_pr (gh_newa (gh_pr (gh_newa (gh_pr (gh_newa T z 10 (24 : Int32).toNatClampNeg) 0 a0 (some z)) (z + 1) 10 (3 : Int32).toNatClampNeg) 1 a0 (some (z + 1))) (z + 1 + 1) 9 (60 : Int32).toNatClampNeg) 2 a0 (some (z + 1 + 1)), gh_nva (gh_nva (gh_nva V z) (z + 1)) (z + 1 + 1), z + 1 + 1 + 1)
set_option maxHeartbeats 4000000 in
set_option maxRecDepth 100000 in
theorem e_X7_init (T : gh_T) (V : gh_V) (z : Nat) (a0 : Nat) (q : gh_T × gh_V × Nat) (hf : f_X7_init T V z a0 = some q) (hT : gh_ok T) (hz : gh_fr T z) (o_a0 : gh_is T a0 7) : gh_X T z q.1 q.2.2 := by
  have hx := gh_X.rf hT hz
  rw [f_X7_init] at hf
  have x7 := gh_X.newa (c := 10) (n := (24 : Int32).toNatClampNeg) hT hz (by decide) (by decide)
  replace hT := x7.ok
  replace hz := x7.fr
  replace o_a0 := x7.is o_a0
  replace hx := hx.trans x7
  have o_n7 : gh_is (gh_newa T z 10 (24 : Int32).toNatClampNeg) z 10 := gh_is.mka
  have x9 := gh_X.pr (k := 0) (d := 10) hT hz o_a0 rfl o_n7
  replace hT := x9.ok
  replace hz := x9.fr
  replace o_a0 := x9.is o_a0
  replace o_n7 := x9.is o_n7
  replace hx := hx.trans x9
  have x14 := gh_X.newa (c := 10) (n := (3 : Int32).toNatClampNeg) hT hz (by decide) (by decide)
  replace hT := x14.ok
  replace hz := x14.fr
  replace o_a0 := x14.is o_a0
  replace o_n7 := x14.is o_n7
  replace hx := hx.trans x14
  have o_n14 : gh_is (gh_newa (gh_pr (gh_newa T z 10 (24 : Int32).toNatClampNeg) 0 a0 (some z)) (z + 1) 10 (3 : Int32).toNatClampNeg) (z + 1) 10 := gh_is.mka
  have x16 := gh_X.pr (k := 1) (d := 10) hT hz o_a0 rfl o_n14
  replace hT := x16.ok
  replace hz := x16.fr
  replace o_a0 := x16.is o_a0
  replace o_n7 := x16.is o_n7
  replace o_n14 := x16.is o_n14
  replace hx := hx.trans x16
  have x22 := gh_X.newa (c := 9) (n := (60 : Int32).toNatClampNeg) hT hz (by decide) (by decide)
  replace hT := x22.ok
  replace hz := x22.fr
  replace o_a0 := x22.is o_a0
  replace o_n7 := x22.is o_n7
  replace o_n14 := x22.is o_n14
  replace hx := hx.trans x22
  have o_n22 : gh_is (gh_newa (gh_pr (gh_newa (gh_pr (gh_newa T z 10 (24 : Int32).toNatClampNeg) 0 a0 (some z)) (z + 1) 10 (3 : Int32).toNatClampNeg) 1 a0 (some (z + 1))) (z + 1 + 1) 9 (60 : Int32).toNatClampNeg) (z + 1 + 1) 9 := gh_is.mka
  have x24 := gh_X.pr (k := 2) (d := 9) hT hz o_a0 rfl o_n22
  replace hT := x24.ok
  replace hz := x24.fr
  replace o_a0 := x24.is o_a0
  replace o_n7 := x24.is o_n7
  replace o_n14 := x24.is o_n14
  replace o_n22 := x24.is o_n22
  replace hx := hx.trans x24
  cases hf
  exact hx
set_option maxHeartbeats 4000000 in
set_option maxRecDepth 100000 in
theorem m_X7_init (l : Launch) (E : sv_E) (T : gh_T) (V : gh_V) (z : Nat) (a0 : Nat) (q : gh_T × gh_V × Nat) (hf : f_X7_init T V z a0 = some q) (hT : gh_ok T) (hz : gh_fr T z) (o_a0 : gh_is T a0 7) : sv_Met l E yX7_init cX7_init 1 none 1 20 [] [.ref a0] (gh_w E T V) z none (gh_w E q.1 q.2.1) q.2.2 3 87 := by
  refine sv_ofJ (by decide) (Nat.le_of_ble_eq_true rfl) ?_
  intro X hX hN hnm hR C hZ
  replace C : sv_C E X cX7_init RX7 [] := C
  show sv_J E X (gh_w E T V) z 0 0 0 [(0, .ref a0)] []
  rw [f_X7_init] at hf
  refine sv_aload_n 0 C dX7_init_0 rfl rfl ?_
  refine sv_objInit C kw_206 kw_1 kw_2 ⟨by rw [hR]; decide, by rw [hR]; exact Nat.le_of_ble_eq_true rfl⟩ dX7_init_1 ?_
  refine sv_aload_n 0 C dX7_init_4 rfl rfl ?_
  refine sv_bipush (v := 24) C dX7_init_5 (by decide) ?_
  have x7 := gh_X.newa (c := 10) (n := (24 : Int32).toNatClampNeg) hT hz (by decide) (by decide)
  refine gh_mki C hz kw_4 (by decide) ⟨by rw [hR]; decide, by rw [hR]; decide⟩ dX7_init_7 ?_
  refine sv_widen (k := 1) (n := 24) (by decide) (by decide) ?_
  replace hT := x7.ok
  replace hz := x7.fr
  replace o_a0 := x7.is o_a0
  have o_n7 : gh_is (gh_newa T z 10 (24 : Int32).toNatClampNeg) z 10 := gh_is.mka
  have x9 := gh_X.pr (k := 0) (d := 10) hT hz o_a0 rfl o_n7
  refine gh_putr (d := 10) C fl_X7_11 rfl hnm o_a0 (by decide) (by decide) rfl rfl dX7_init_9 ?_
  replace hT := x9.ok
  replace hz := x9.fr
  replace o_a0 := x9.is o_a0
  replace o_n7 := x9.is o_n7
  refine sv_aload_n 0 C dX7_init_12 rfl rfl ?_
  refine sv_iconst (v := 3) C dX7_init_13 (by decide) ?_
  have x14 := gh_X.newa (c := 10) (n := (3 : Int32).toNatClampNeg) hT hz (by decide) (by decide)
  refine gh_mki C hz kw_4 (by decide) ⟨by rw [hR]; decide, by rw [hR]; decide⟩ dX7_init_14 ?_
  refine sv_widen (k := 2) (n := 27) (by decide) (by decide) ?_
  replace hT := x14.ok
  replace hz := x14.fr
  replace o_a0 := x14.is o_a0
  replace o_n7 := x14.is o_n7
  have o_n14 : gh_is (gh_newa (gh_pr (gh_newa T z 10 (24 : Int32).toNatClampNeg) 0 a0 (some z)) (z + 1) 10 (3 : Int32).toNatClampNeg) (z + 1) 10 := gh_is.mka
  have x16 := gh_X.pr (k := 1) (d := 10) hT hz o_a0 rfl o_n14
  refine gh_putr (d := 10) C fl_X7_15 rfl hnm o_a0 (by decide) (by decide) rfl rfl dX7_init_16 ?_
  replace hT := x16.ok
  replace hz := x16.fr
  replace o_a0 := x16.is o_a0
  replace o_n7 := x16.is o_n7
  replace o_n14 := x16.is o_n14
  refine sv_aload_n 0 C dX7_init_19 rfl rfl ?_
  refine sv_bipush (v := 60) C dX7_init_20 (by decide) ?_
  have x22 := gh_X.newa (c := 9) (n := (60 : Int32).toNatClampNeg) hT hz (by decide) (by decide)
  refine gh_mkb C hz kw_13 (by decide) ⟨by rw [hR]; decide, by rw [hR]; decide⟩ dX7_init_22 ?_
  refine sv_widen (k := 3) (n := 87) (by decide) (by decide) ?_
  replace hT := x22.ok
  replace hz := x22.fr
  replace o_a0 := x22.is o_a0
  replace o_n7 := x22.is o_n7
  replace o_n14 := x22.is o_n14
  have o_n22 : gh_is (gh_newa (gh_pr (gh_newa (gh_pr (gh_newa T z 10 (24 : Int32).toNatClampNeg) 0 a0 (some z)) (z + 1) 10 (3 : Int32).toNatClampNeg) 1 a0 (some (z + 1))) (z + 1 + 1) 9 (60 : Int32).toNatClampNeg) (z + 1 + 1) 9 := gh_is.mka
  have x24 := gh_X.pr (k := 2) (d := 9) hT hz o_a0 rfl o_n22
  refine gh_putr (d := 9) C fl_X7_18 rfl hnm o_a0 (by decide) (by decide) rfl rfl dX7_init_24 ?_
  replace hT := x24.ok
  replace hz := x24.fr
  replace o_a0 := x24.is o_a0
  replace o_n7 := x24.is o_n7
  replace o_n14 := x24.is o_n14
  replace o_n22 := x24.is o_n22
  exact sv_vret C (by cases hf; exact hZ) dX7_init_27
def f_X6_init_14 (a0 : Nat) (T : gh_T) (V : gh_V) (z : Nat) (s0 : Int32) : Option (gh_T × gh_V × Nat) :=
  sv_g (decide (¬ s0 < 0) && decide (s0.toNatClampNeg ≤ 2000)) (
    some (gh_pr (gh_newa T z 9 s0.toNatClampNeg) 0 a0 (some z), gh_nva V z, z + 1))
def f_X6_init (T : gh_T) (V : gh_V) (z : Nat) (a0 : Nat) (x1 : Int32) : Option (gh_T × gh_V × Nat) :=
  if 0 ≤ x1 then
    f_X6_init_14 a0 T V z x1
  else
    f_X6_init_14 a0 T V z 0
set_option maxHeartbeats 4000000 in
set_option maxRecDepth 100000 in
theorem e_X6_init_14 {q : gh_T × gh_V × Nat} {a0 : Nat} (T : gh_T) (V : gh_V) (z : Nat) (s0 : Int32) (hT : gh_ok T) (hz : gh_fr T z) (o_a0 : gh_is T a0 6) (hf : f_X6_init_14 a0 T V z s0 = some q) : gh_X T z q.1 q.2.2 := by
  have hx := gh_X.rf hT hz
  rw [f_X6_init_14] at hf
  obtain ⟨g14, hf⟩ := sv_g_some hf
  have gl14 := sv_cap_le g14
  have x14 := gh_X.newa (c := 9) (n := s0.toNatClampNeg) hT hz (by decide) (Nat.le_trans gl14 (by decide))
  replace hT := x14.ok
  replace hz := x14.fr
  replace o_a0 := x14.is o_a0
  replace hx := hx.trans x14
  have o_n14 : gh_is (gh_newa T z 9 s0.toNatClampNeg) z 9 := gh_is.mka
  have x16 := gh_X.pr (k := 0) (d := 9) hT hz o_a0 rfl o_n14
  replace hT := x16.ok
  replace hz := x16.fr
  replace o_a0 := x16.is o_a0
  replace o_n14 := x16.is o_n14
  replace hx := hx.trans x16
  cases hf
  exact hx
set_option maxHeartbeats 4000000 in
set_option maxRecDepth 100000 in
theorem w_X6_init_14 {E : sv_E} {X : sv_X} {q : gh_T × gh_V × Nat} {a0 : Nat} (C : sv_C E X cX6_init RX6 []) (hZ : sv_Z E X none none (gh_w E q.1 q.2.1) q.2.2 1 2000) (hR : sv_R X = { frames := 1, cells := 1, slots := 2000, locals := 20 }) (hN : sv_nL X = 2) (hnm : sv_nm X = "<init>") (T : gh_T) (V : gh_V) (z : Nat) (s0 : Int32) (hT : gh_ok T) (hz : gh_fr T z) (o_a0 : gh_is T a0 6) (hf : f_X6_init_14 a0 T V z s0 = some q) : sv_J E X (gh_w E T V) z 0 0 14 [] [.int s0, .ref a0] := by
  rw [f_X6_init_14] at hf
  obtain ⟨g14, hf⟩ := sv_g_some hf
  have gl14 := sv_cap_le g14
  have x14 := gh_X.newa (c := 9) (n := s0.toNatClampNeg) hT hz (by decide) (Nat.le_trans gl14 (by decide))
  refine gh_mkb C hz kw_13 (sv_cap g14 (by decide)) ⟨by rw [hR]; decide, by rw [hR]; exact Nat.le_trans (Nat.add_le_add_left gl14 _) (by decide)⟩ dX6_init_14 ?_
  refine sv_widen (k := 1) (n := 2000) (by decide) (Nat.add_le_add_left gl14 _) ?_
  replace hT := x14.ok
  replace hz := x14.fr
  replace o_a0 := x14.is o_a0
  have o_n14 : gh_is (gh_newa T z 9 s0.toNatClampNeg) z 9 := gh_is.mka
  have x16 := gh_X.pr (k := 0) (d := 9) hT hz o_a0 rfl o_n14
  refine gh_putr (d := 9) C fl_X6_9 rfl hnm o_a0 (by decide) (by decide) rfl rfl dX6_init_16 ?_
  replace hT := x16.ok
  replace hz := x16.fr
  replace o_a0 := x16.is o_a0
  replace o_n14 := x16.is o_n14
  exact sv_vret C (by cases hf; exact hZ) dX6_init_19
set_option maxHeartbeats 4000000 in
set_option maxRecDepth 100000 in
theorem e_X6_init (T : gh_T) (V : gh_V) (z : Nat) (a0 : Nat) (x1 : Int32) (q : gh_T × gh_V × Nat) (hf : f_X6_init T V z a0 x1 = some q) (hT : gh_ok T) (hz : gh_fr T z) (o_a0 : gh_is T a0 6) : gh_X T z q.1 q.2.2 := by
  have hx := gh_X.rf hT hz
  rw [f_X6_init] at hf
  rcases (Decidable.em (0 ≤ x1)) with c6 | c6
  · replace hf := sv_if_t c6 hf
    exact hx.trans (e_X6_init_14 _ _ _ _ hT hz o_a0 hf)
  · replace hf := sv_if_f c6 hf
    exact hx.trans (e_X6_init_14 _ _ _ _ hT hz o_a0 hf)
set_option maxHeartbeats 4000000 in
set_option maxRecDepth 100000 in
theorem m_X6_init (l : Launch) (E : sv_E) (T : gh_T) (V : gh_V) (z : Nat) (a0 : Nat) (x1 : Int32) (q : gh_T × gh_V × Nat) (hf : f_X6_init T V z a0 x1 = some q) (hT : gh_ok T) (hz : gh_fr T z) (o_a0 : gh_is T a0 6) : sv_Met l E yX6_init cX6_init 2 none 1 20 [] [.ref a0, .int x1] (gh_w E T V) z none (gh_w E q.1 q.2.1) q.2.2 1 2000 := by
  refine sv_ofJ (by decide) (Nat.le_of_ble_eq_true rfl) ?_
  intro X hX hN hnm hR C hZ
  replace C : sv_C E X cX6_init RX6 [] := C
  show sv_J E X (gh_w E T V) z 0 0 0 [(0, .ref a0), (1, .int x1)] []
  rw [f_X6_init] at hf
  refine sv_aload_n 0 C dX6_init_0 rfl rfl ?_
  refine sv_objInit C kw_318 kw_1 kw_2 ⟨by rw [hR]; decide, by rw [hR]; exact Nat.le_of_ble_eq_true rfl⟩ dX6_init_1 ?_
  refine sv_aload_n 0 C dX6_init_4 rfl rfl ?_
  refine sv_iload_n 1 C dX6_init_5 rfl rfl ?_
  refine sv_if_ge (tgt := 13) C dX6_init_6 (by decide) (fun c6 => ?_) (fun c6 => ?_)
  · replace hf := sv_if_t c6 hf
    refine sv_iload_n 1 C dX6_init_13 rfl rfl ?_
    refine sv_sub (lv' := []) [] rfl ?_
    exact w_X6_init_14 C hZ hR hN hnm _ _ _ _ hT hz o_a0 hf
  · replace hf := sv_if_f c6 hf
    refine sv_iconst (v := 0) C dX6_init_9 (by decide) ?_
    refine sv_goto (tgt := 14) C dX6_init_10 (by decide) ?_
    refine sv_sub (lv' := []) [] rfl ?_
    exact w_X6_init_14 C hZ hR hN hnm _ _ _ _ hT hz o_a0 hf
def f_X5_init (T : gh_T) (V : gh_V) (z : Nat) (a0 : Nat) : Option (gh_T × gh_V × Nat) :=
  some (gh_pr (gh_newa T z 9 (78 : Int32).toNatClampNeg) 0 a0 (some z), gh_nva V z, z + 1)
set_option maxHeartbeats 4000000 in
set_option maxRecDepth 100000 in
theorem e_X5_init (T : gh_T) (V : gh_V) (z : Nat) (a0 : Nat) (q : gh_T × gh_V × Nat) (hf : f_X5_init T V z a0 = some q) (hT : gh_ok T) (hz : gh_fr T z) (o_a0 : gh_is T a0 5) : gh_X T z q.1 q.2.2 := by
  have hx := gh_X.rf hT hz
  rw [f_X5_init] at hf
  have x7 := gh_X.newa (c := 9) (n := (78 : Int32).toNatClampNeg) hT hz (by decide) (by decide)
  replace hT := x7.ok
  replace hz := x7.fr
  replace o_a0 := x7.is o_a0
  replace hx := hx.trans x7
  have o_n7 : gh_is (gh_newa T z 9 (78 : Int32).toNatClampNeg) z 9 := gh_is.mka
  have x9 := gh_X.pr (k := 0) (d := 9) hT hz o_a0 rfl o_n7
  replace hT := x9.ok
  replace hz := x9.fr
  replace o_a0 := x9.is o_a0
  replace o_n7 := x9.is o_n7
  replace hx := hx.trans x9
  cases hf
  exact hx
set_option maxHeartbeats 4000000 in
set_option maxRecDepth 100000 in
theorem m_X5_init (l : Launch) (E : sv_E) (T : gh_T) (V : gh_V) (z : Nat) (a0 : Nat) (q : gh_T × gh_V × Nat) (hf : f_X5_init T V z a0 = some q) (hT : gh_ok T) (hz : gh_fr T z) (o_a0 : gh_is T a0 5) : sv_Met l E yX5_init cX5_init 1 none 1 20 [] [.ref a0] (gh_w E T V) z none (gh_w E q.1 q.2.1) q.2.2 1 78 := by
  refine sv_ofJ (by decide) (Nat.le_of_ble_eq_true rfl) ?_
  intro X hX hN hnm hR C hZ
  replace C : sv_C E X cX5_init RX5 [] := C
  show sv_J E X (gh_w E T V) z 0 0 0 [(0, .ref a0)] []
  rw [f_X5_init] at hf
  refine sv_aload_n 0 C dX5_init_0 rfl rfl ?_
  refine sv_objInit C kw_297 kw_1 kw_2 ⟨by rw [hR]; decide, by rw [hR]; exact Nat.le_of_ble_eq_true rfl⟩ dX5_init_1 ?_
  refine sv_aload_n 0 C dX5_init_4 rfl rfl ?_
  refine sv_bipush (v := 78) C dX5_init_5 (by decide) ?_
  have x7 := gh_X.newa (c := 9) (n := (78 : Int32).toNatClampNeg) hT hz (by decide) (by decide)
  refine gh_mkb C hz kw_13 (by decide) ⟨by rw [hR]; decide, by rw [hR]; decide⟩ dX5_init_7 ?_
  refine sv_widen (k := 1) (n := 78) (by decide) (by decide) ?_
  replace hT := x7.ok
  replace hz := x7.fr
  replace o_a0 := x7.is o_a0
  have o_n7 : gh_is (gh_newa T z 9 (78 : Int32).toNatClampNeg) z 9 := gh_is.mka
  have x9 := gh_X.pr (k := 0) (d := 9) hT hz o_a0 rfl o_n7
  refine gh_putr (d := 9) C fl_X5_11 rfl hnm o_a0 (by decide) (by decide) rfl rfl dX5_init_9 ?_
  replace hT := x9.ok
  replace hz := x9.fr
  replace o_a0 := x9.is o_a0
  replace o_n7 := x9.is o_n7
  exact sv_vret C (by cases hf; exact hZ) dX5_init_12
def f_X1_init (T : gh_T) (V : gh_V) (z : Nat) (a0 : Nat) : Option (gh_T × gh_V × Nat) :=
  some (gh_pr (gh_newa (gh_pr (gh_newa T z 9 (78 : Int32).toNatClampNeg) 0 a0 (some z)) (z + 1) 10 (80 : Int32).toNatClampNeg) 1 a0 (some (z + 1)), gh_nva (gh_nva V z) (z + 1), z + 1 + 1)
set_option maxHeartbeats 4000000 in
set_option maxRecDepth 100000 in
theorem e_X1_init (T : gh_T) (V : gh_V) (z : Nat) (a0 : Nat) (q : gh_T × gh_V × Nat) (hf : f_X1_init T V z a0 = some q) (hT : gh_ok T) (hz : gh_fr T z) (o_a0 : gh_is T a0 1) : gh_X T z q.1 q.2.2 := by
  have hx := gh_X.rf hT hz
  rw [f_X1_init] at hf
  have x7 := gh_X.newa (c := 9) (n := (78 : Int32).toNatClampNeg) hT hz (by decide) (by decide)
  replace hT := x7.ok
  replace hz := x7.fr
  replace o_a0 := x7.is o_a0
  replace hx := hx.trans x7
  have o_n7 : gh_is (gh_newa T z 9 (78 : Int32).toNatClampNeg) z 9 := gh_is.mka
  have x9 := gh_X.pr (k := 0) (d := 9) hT hz o_a0 rfl o_n7
  replace hT := x9.ok
  replace hz := x9.fr
  replace o_a0 := x9.is o_a0
  replace o_n7 := x9.is o_n7
  replace hx := hx.trans x9
  have x15 := gh_X.newa (c := 10) (n := (80 : Int32).toNatClampNeg) hT hz (by decide) (by decide)
  replace hT := x15.ok
  replace hz := x15.fr
  replace o_a0 := x15.is o_a0
  replace o_n7 := x15.is o_n7
  replace hx := hx.trans x15
  have o_n15 : gh_is (gh_newa (gh_pr (gh_newa T z 9 (78 : Int32).toNatClampNeg) 0 a0 (some z)) (z + 1) 10 (80 : Int32).toNatClampNeg) (z + 1) 10 := gh_is.mka
  have x17 := gh_X.pr (k := 1) (d := 10) hT hz o_a0 rfl o_n15
  replace hT := x17.ok
  replace hz := x17.fr
  replace o_a0 := x17.is o_a0
  replace o_n7 := x17.is o_n7
  replace o_n15 := x17.is o_n15
  replace hx := hx.trans x17
  cases hf
  exact hx
set_option maxHeartbeats 4000000 in
set_option maxRecDepth 100000 in
theorem m_X1_init (l : Launch) (E : sv_E) (T : gh_T) (V : gh_V) (z : Nat) (a0 : Nat) (q : gh_T × gh_V × Nat) (hf : f_X1_init T V z a0 = some q) (hT : gh_ok T) (hz : gh_fr T z) (o_a0 : gh_is T a0 1) : sv_Met l E yX1_init cX1_init 1 none 1 20 [] [.ref a0] (gh_w E T V) z none (gh_w E q.1 q.2.1) q.2.2 2 158 := by
  refine sv_ofJ (by decide) (Nat.le_of_ble_eq_true rfl) ?_
  intro X hX hN hnm hR C hZ
  replace C : sv_C E X cX1_init RX1 [] := C
  show sv_J E X (gh_w E T V) z 0 0 0 [(0, .ref a0)] []
  rw [f_X1_init] at hf
  refine sv_aload_n 0 C dX1_init_0 rfl rfl ?_
  refine sv_objInit C kw_12 kw_1 kw_2 ⟨by rw [hR]; decide, by rw [hR]; exact Nat.le_of_ble_eq_true rfl⟩ dX1_init_1 ?_
  refine sv_aload_n 0 C dX1_init_4 rfl rfl ?_
  refine sv_bipush (v := 78) C dX1_init_5 (by decide) ?_
  have x7 := gh_X.newa (c := 9) (n := (78 : Int32).toNatClampNeg) hT hz (by decide) (by decide)
  refine gh_mkb C hz kw_13 (by decide) ⟨by rw [hR]; decide, by rw [hR]; decide⟩ dX1_init_7 ?_
  refine sv_widen (k := 1) (n := 78) (by decide) (by decide) ?_
  replace hT := x7.ok
  replace hz := x7.fr
  replace o_a0 := x7.is o_a0
  have o_n7 : gh_is (gh_newa T z 9 (78 : Int32).toNatClampNeg) z 9 := gh_is.mka
  have x9 := gh_X.pr (k := 0) (d := 9) hT hz o_a0 rfl o_n7
  refine gh_putr (d := 9) C fl_X1_11 rfl hnm o_a0 (by decide) (by decide) rfl rfl dX1_init_9 ?_
  replace hT := x9.ok
  replace hz := x9.fr
  replace o_a0 := x9.is o_a0
  replace o_n7 := x9.is o_n7
  refine sv_aload_n 0 C dX1_init_12 rfl rfl ?_
  refine sv_bipush (v := 80) C dX1_init_13 (by decide) ?_
  have x15 := gh_X.newa (c := 10) (n := (80 : Int32).toNatClampNeg) hT hz (by decide) (by decide)
  refine gh_mki C hz kw_4 (by decide) ⟨by rw [hR]; decide, by rw [hR]; decide⟩ dX1_init_15 ?_
  refine sv_widen (k := 2) (n := 158) (by decide) (by decide) ?_
  replace hT := x15.ok
  replace hz := x15.fr
  replace o_a0 := x15.is o_a0
  replace o_n7 := x15.is o_n7
  have o_n15 : gh_is (gh_newa (gh_pr (gh_newa T z 9 (78 : Int32).toNatClampNeg) 0 a0 (some z)) (z + 1) 10 (80 : Int32).toNatClampNeg) (z + 1) 10 := gh_is.mka
  have x17 := gh_X.pr (k := 1) (d := 10) hT hz o_a0 rfl o_n15
  refine gh_putr (d := 10) C fl_X1_17 rfl hnm o_a0 (by decide) (by decide) rfl rfl dX1_init_17 ?_
  replace hT := x17.ok
  replace hz := x17.fr
  replace o_a0 := x17.is o_a0
  replace o_n7 := x17.is o_n7
  replace o_n15 := x17.is o_n15
  exact sv_vret C (by cases hf; exact hZ) dX1_init_20
def f_X4_init (T : gh_T) (V : gh_V) (z : Nat) (a0 : Nat) : Option (gh_T × gh_V × Nat) :=
  ((gh_pr (gh_newa (gh_pr (gh_newa T z 10 (18 : Int32).toNatClampNeg) 0 a0 (some z)) (z + 1) 10 (18 : Int32).toNatClampNeg) 1 a0 (some (z + 1))).2.2.1 0 a0).bind (fun b21 =>
    (f_J7_fill_53178 (gh_pr (gh_newa (gh_pr (gh_newa T z 10 (18 : Int32).toNatClampNeg) 0 a0 (some z)) (z + 1) 10 (18 : Int32).toNatClampNeg) 1 a0 (some (z + 1))) (gh_nva (gh_nva V z) (z + 1)) b21 (-2147483648)).bind (fun q26 =>
      some (gh_pr (gh_newa (gh_pr (gh_newa T z 10 (18 : Int32).toNatClampNeg) 0 a0 (some z)) (z + 1) 10 (18 : Int32).toNatClampNeg) 1 a0 (some (z + 1)), q26, z + 1 + 1)))
set_option maxHeartbeats 4000000 in
set_option maxRecDepth 100000 in
theorem e_X4_init (T : gh_T) (V : gh_V) (z : Nat) (a0 : Nat) (q : gh_T × gh_V × Nat) (hf : f_X4_init T V z a0 = some q) (hT : gh_ok T) (hz : gh_fr T z) (o_a0 : gh_is T a0 4) : gh_X T z q.1 q.2.2 := by
  have hx := gh_X.rf hT hz
  rw [f_X4_init] at hf
  have x7 := gh_X.newa (c := 10) (n := (18 : Int32).toNatClampNeg) hT hz (by decide) (by decide)
  replace hT := x7.ok
  replace hz := x7.fr
  replace o_a0 := x7.is o_a0
  replace hx := hx.trans x7
  have o_n7 : gh_is (gh_newa T z 10 (18 : Int32).toNatClampNeg) z 10 := gh_is.mka
  have x9 := gh_X.pr (k := 0) (d := 10) hT hz o_a0 rfl o_n7
  replace hT := x9.ok
  replace hz := x9.fr
  replace o_a0 := x9.is o_a0
  replace o_n7 := x9.is o_n7
  replace hx := hx.trans x9
  have x15 := gh_X.newa (c := 10) (n := (18 : Int32).toNatClampNeg) hT hz (by decide) (by decide)
  replace hT := x15.ok
  replace hz := x15.fr
  replace o_a0 := x15.is o_a0
  replace o_n7 := x15.is o_n7
  replace hx := hx.trans x15
  have o_n15 : gh_is (gh_newa (gh_pr (gh_newa T z 10 (18 : Int32).toNatClampNeg) 0 a0 (some z)) (z + 1) 10 (18 : Int32).toNatClampNeg) (z + 1) 10 := gh_is.mka
  have x17 := gh_X.pr (k := 1) (d := 10) hT hz o_a0 rfl o_n15
  replace hT := x17.ok
  replace hz := x17.fr
  replace o_a0 := x17.is o_a0
  replace o_n7 := x17.is o_n7
  replace o_n15 := x17.is o_n15
  replace hx := hx.trans x17
  obtain ⟨b21, hb21, hf⟩ := sv_bind_some hf
  have o_b21 : gh_is (gh_pr (gh_newa (gh_pr (gh_newa T z 10 (18 : Int32).toNatClampNeg) 0 a0 (some z)) (z + 1) 10 (18 : Int32).toNatClampNeg) 1 a0 (some (z + 1))) b21 10 := gh_okr hT o_a0 rfl hb21
  obtain ⟨q26, hc26, hf⟩ := sv_bind_some hf
  cases hf
  exact hx
set_option maxHeartbeats 4000000 in
set_option maxRecDepth 100000 in
theorem m_X4_init (l : Launch) (E : sv_E) (T : gh_T) (V : gh_V) (z : Nat) (a0 : Nat) (q : gh_T × gh_V × Nat) (hf : f_X4_init T V z a0 = some q) (hT : gh_ok T) (hz : gh_fr T z) (o_a0 : gh_is T a0 4) : sv_Met l E yX4_init cX4_init 1 none 1 23 [] [.ref a0] (gh_w E T V) z none (gh_w E q.1 q.2.1) q.2.2 2 36 := by
  refine sv_ofJ (by decide) (Nat.le_of_ble_eq_true rfl) ?_
  intro X hX hN hnm hR C hZ
  replace C : sv_C E X cX4_init RX4 [] := C
  show sv_J E X (gh_w E T V) z 0 0 0 [(0, .ref a0)] []
  rw [f_X4_init] at hf
  refine sv_aload_n 0 C dX4_init_0 rfl rfl ?_
  refine sv_objInit C kw_239 kw_1 kw_2 ⟨by rw [hR]; decide, by rw [hR]; exact Nat.le_of_ble_eq_true rfl⟩ dX4_init_1 ?_
  refine sv_aload_n 0 C dX4_init_4 rfl rfl ?_
  refine sv_bipush (v := 18) C dX4_init_5 (by decide) ?_
  have x7 := gh_X.newa (c := 10) (n := (18 : Int32).toNatClampNeg) hT hz (by decide) (by decide)
  refine gh_mki C hz kw_4 (by decide) ⟨by rw [hR]; decide, by rw [hR]; decide⟩ dX4_init_7 ?_
  refine sv_widen (k := 1) (n := 18) (by decide) (by decide) ?_
  replace hT := x7.ok
  replace hz := x7.fr
  replace o_a0 := x7.is o_a0
  have o_n7 : gh_is (gh_newa T z 10 (18 : Int32).toNatClampNeg) z 10 := gh_is.mka
  have x9 := gh_X.pr (k := 0) (d := 10) hT hz o_a0 rfl o_n7
  refine gh_putr (d := 10) C fl_X4_11 rfl hnm o_a0 (by decide) (by decide) rfl rfl dX4_init_9 ?_
  replace hT := x9.ok
  replace hz := x9.fr
  replace o_a0 := x9.is o_a0
  replace o_n7 := x9.is o_n7
  refine sv_aload_n 0 C dX4_init_12 rfl rfl ?_
  refine sv_bipush (v := 18) C dX4_init_13 (by decide) ?_
  have x15 := gh_X.newa (c := 10) (n := (18 : Int32).toNatClampNeg) hT hz (by decide) (by decide)
  refine gh_mki C hz kw_4 (by decide) ⟨by rw [hR]; decide, by rw [hR]; decide⟩ dX4_init_15 ?_
  refine sv_widen (k := 2) (n := 36) (by decide) (by decide) ?_
  replace hT := x15.ok
  replace hz := x15.fr
  replace o_a0 := x15.is o_a0
  replace o_n7 := x15.is o_n7
  have o_n15 : gh_is (gh_newa (gh_pr (gh_newa T z 10 (18 : Int32).toNatClampNeg) 0 a0 (some z)) (z + 1) 10 (18 : Int32).toNatClampNeg) (z + 1) 10 := gh_is.mka
  have x17 := gh_X.pr (k := 1) (d := 10) hT hz o_a0 rfl o_n15
  refine gh_putr (d := 10) C fl_X4_15 rfl hnm o_a0 (by decide) (by decide) rfl rfl dX4_init_17 ?_
  replace hT := x17.ok
  replace hz := x17.fr
  replace o_a0 := x17.is o_a0
  replace o_n7 := x17.is o_n7
  replace o_n15 := x17.is o_n15
  refine sv_aload_n 0 C dX4_init_20 rfl rfl ?_
  obtain ⟨b21, hb21, hf⟩ := sv_bind_some hf
  have o_b21 : gh_is (gh_pr (gh_newa (gh_pr (gh_newa T z 10 (18 : Int32).toNatClampNeg) 0 a0 (some z)) (z + 1) 10 (18 : Int32).toNatClampNeg) 1 a0 (some (z + 1))) b21 10 := gh_okr hT o_a0 rfl hb21
  refine gh_getr (d := 10) C fl_X4_11 o_a0 (by decide) (by decide) hb21 dX4_init_21 ?_
  refine sv_ldc C kw_242 dX4_init_24 ?_
  obtain ⟨q26, hc26, hf⟩ := sv_bind_some hf
  refine sv_callS0 C ms_X4_19 (m_J7_fill_53178 (sv_l X) E (gh_pr (gh_newa (gh_pr (gh_newa T z 10 (18 : Int32).toNatClampNeg) 0 a0 (some z)) (z + 1) 10 (18 : Int32).toNatClampNeg) 1 a0 (some (z + 1))) (z + 1 + 1) _ _ _ _ hc26 hT o_b21) sv_sx0 rfl rfl (Nat.le_of_ble_eq_true rfl) ⟨by rw [hR]; decide, by rw [hR]; decide⟩ ⟨by rw [hR]; decide, by rw [hR]; decide⟩ dX4_init_26 ?_
  exact sv_vret C (by cases hf; exact hZ) dX4_init_29
def f_X3_init (T : gh_T) (V : gh_V) (z : Nat) (a0 : Nat) : Option (gh_T × gh_V × Nat) :=
  some (gh_pr (gh_newa (gh_pr (gh_newa (gh_pr (gh_newa T z 12 (11 : Int32).toNatClampNeg) 0 a0 (some z)) (z + 1) 10 (11 : Int32).toNatClampNeg) 1 a0 (some (z + 1))) (z + 1 + 1) 10 (11 : Int32).toNatClampNeg) 2 a0 (some (z + 1 + 1)), gh_nva (gh_nva (gh_nva V z) (z + 1)) (z + 1 + 1), z + 1 + 1 + 1)
set_option maxHeartbeats 4000000 in
set_option maxRecDepth 100000 in
theorem e_X3_init (T : gh_T) (V : gh_V) (z : Nat) (a0 : Nat) (q : gh_T × gh_V × Nat) (hf : f_X3_init T V z a0 = some q) (hT : gh_ok T) (hz : gh_fr T z) (o_a0 : gh_is T a0 3) : gh_X T z q.1 q.2.2 := by
  have hx := gh_X.rf hT hz
  rw [f_X3_init] at hf
  have x7 := gh_X.newa (c := 12) (n := (11 : Int32).toNatClampNeg) hT hz (by decide) (by decide)
  replace hT := x7.ok
  replace hz := x7.fr
  replace o_a0 := x7.is o_a0
  replace hx := hx.trans x7
  have o_n7 : gh_is (gh_newa T z 12 (11 : Int32).toNatClampNeg) z 12 := gh_is.mka
  have x10 := gh_X.pr (k := 0) (d := 12) hT hz o_a0 rfl o_n7
  replace hT := x10.ok
  replace hz := x10.fr
  replace o_a0 := x10.is o_a0
  replace o_n7 := x10.is o_n7
  replace hx := hx.trans x10
  have x16 := gh_X.newa (c := 10) (n := (11 : Int32).toNatClampNeg) hT hz (by decide) (by decide)
  replace hT := x16.ok
  replace hz := x16.fr
  replace o_a0 := x16.is o_a0
  replace o_n7 := x16.is o_n7
  replace hx := hx.trans x16
  have o_n16 : gh_is (gh_newa (gh_pr (gh_newa T z 12 (11 : Int32).toNatClampNeg) 0 a0 (some z)) (z + 1) 10 (11 : Int32).toNatClampNeg) (z + 1) 10 := gh_is.mka
  have x18 := gh_X.pr (k := 1) (d := 10) hT hz o_a0 rfl o_n16
  replace hT := x18.ok
  replace hz := x18.fr
  replace o_a0 := x18.is o_a0
  replace o_n7 := x18.is o_n7
  replace o_n16 := x18.is o_n16
  replace hx := hx.trans x18
  have x24 := gh_X.newa (c := 10) (n := (11 : Int32).toNatClampNeg) hT hz (by decide) (by decide)
  replace hT := x24.ok
  replace hz := x24.fr
  replace o_a0 := x24.is o_a0
  replace o_n7 := x24.is o_n7
  replace o_n16 := x24.is o_n16
  replace hx := hx.trans x24
  have o_n24 : gh_is (gh_newa (gh_pr (gh_newa (gh_pr (gh_newa T z 12 (11 : Int32).toNatClampNeg) 0 a0 (some z)) (z + 1) 10 (11 : Int32).toNatClampNeg) 1 a0 (some (z + 1))) (z + 1 + 1) 10 (11 : Int32).toNatClampNeg) (z + 1 + 1) 10 := gh_is.mka
  have x26 := gh_X.pr (k := 2) (d := 10) hT hz o_a0 rfl o_n24
  replace hT := x26.ok
  replace hz := x26.fr
  replace o_a0 := x26.is o_a0
  replace o_n7 := x26.is o_n7
  replace o_n16 := x26.is o_n16
  replace o_n24 := x26.is o_n24
  replace hx := hx.trans x26
  cases hf
  exact hx
set_option maxHeartbeats 4000000 in
set_option maxRecDepth 100000 in
theorem m_X3_init (l : Launch) (E : sv_E) (T : gh_T) (V : gh_V) (z : Nat) (a0 : Nat) (q : gh_T × gh_V × Nat) (hf : f_X3_init T V z a0 = some q) (hT : gh_ok T) (hz : gh_fr T z) (o_a0 : gh_is T a0 3) : sv_Met l E yX3_init cX3_init 1 none 1 20 [] [.ref a0] (gh_w E T V) z none (gh_w E q.1 q.2.1) q.2.2 3 33 := by
  refine sv_ofJ (by decide) (Nat.le_of_ble_eq_true rfl) ?_
  intro X hX hN hnm hR C hZ
  replace C : sv_C E X cX3_init RX3 [] := C
  show sv_J E X (gh_w E T V) z 0 0 0 [(0, .ref a0)] []
  rw [f_X3_init] at hf
  refine sv_aload_n 0 C dX3_init_0 rfl rfl ?_
  refine sv_objInit C kw_225 kw_1 kw_2 ⟨by rw [hR]; decide, by rw [hR]; exact Nat.le_of_ble_eq_true rfl⟩ dX3_init_1 ?_
  refine sv_aload_n 0 C dX3_init_4 rfl rfl ?_
  refine sv_bipush (v := 11) C dX3_init_5 (by decide) ?_
  have x7 := gh_X.newa (c := 12) (n := (11 : Int32).toNatClampNeg) hT hz (by decide) (by decide)
  refine gh_mkq 4 (c := 12) (Or.inl ⟨rfl, rfl⟩) C hz kw_226 (by decide) ⟨by rw [hR]; decide, by rw [hR]; decide⟩ dX3_init_7 ?_
  refine sv_widen (k := 1) (n := 11) (by decide) (by decide) ?_
  replace hT := x7.ok
  replace hz := x7.fr
  replace o_a0 := x7.is o_a0
  have o_n7 : gh_is (gh_newa T z 12 (11 : Int32).toNatClampNeg) z 12 := gh_is.mka
  have x10 := gh_X.pr (k := 0) (d := 12) hT hz o_a0 rfl o_n7
  refine gh_putr (d := 12) C fl_X3_13 rfl hnm o_a0 (by decide) (by decide) rfl rfl dX3_init_10 ?_
  replace hT := x10.ok
  replace hz := x10.fr
  replace o_a0 := x10.is o_a0
  replace o_n7 := x10.is o_n7
  refine sv_aload_n 0 C dX3_init_13 rfl rfl ?_
  refine sv_bipush (v := 11) C dX3_init_14 (by decide) ?_
  have x16 := gh_X.newa (c := 10) (n := (11 : Int32).toNatClampNeg) hT hz (by decide) (by decide)
  refine gh_mki C hz kw_4 (by decide) ⟨by rw [hR]; decide, by rw [hR]; decide⟩ dX3_init_16 ?_
  refine sv_widen (k := 2) (n := 22) (by decide) (by decide) ?_
  replace hT := x16.ok
  replace hz := x16.fr
  replace o_a0 := x16.is o_a0
  replace o_n7 := x16.is o_n7
  have o_n16 : gh_is (gh_newa (gh_pr (gh_newa T z 12 (11 : Int32).toNatClampNeg) 0 a0 (some z)) (z + 1) 10 (11 : Int32).toNatClampNeg) (z + 1) 10 := gh_is.mka
  have x18 := gh_X.pr (k := 1) (d := 10) hT hz o_a0 rfl o_n16
  refine gh_putr (d := 10) C fl_X3_17 rfl hnm o_a0 (by decide) (by decide) rfl rfl dX3_init_18 ?_
  replace hT := x18.ok
  replace hz := x18.fr
  replace o_a0 := x18.is o_a0
  replace o_n7 := x18.is o_n7
  replace o_n16 := x18.is o_n16
  refine sv_aload_n 0 C dX3_init_21 rfl rfl ?_
  refine sv_bipush (v := 11) C dX3_init_22 (by decide) ?_
  have x24 := gh_X.newa (c := 10) (n := (11 : Int32).toNatClampNeg) hT hz (by decide) (by decide)
  refine gh_mki C hz kw_4 (by decide) ⟨by rw [hR]; decide, by rw [hR]; decide⟩ dX3_init_24 ?_
  refine sv_widen (k := 3) (n := 33) (by decide) (by decide) ?_
  replace hT := x24.ok
  replace hz := x24.fr
  replace o_a0 := x24.is o_a0
  replace o_n7 := x24.is o_n7
  replace o_n16 := x24.is o_n16
  have o_n24 : gh_is (gh_newa (gh_pr (gh_newa (gh_pr (gh_newa T z 12 (11 : Int32).toNatClampNeg) 0 a0 (some z)) (z + 1) 10 (11 : Int32).toNatClampNeg) 1 a0 (some (z + 1))) (z + 1 + 1) 10 (11 : Int32).toNatClampNeg) (z + 1 + 1) 10 := gh_is.mka
  have x26 := gh_X.pr (k := 2) (d := 10) hT hz o_a0 rfl o_n24
  refine gh_putr (d := 10) C fl_X3_21 rfl hnm o_a0 (by decide) (by decide) rfl rfl dX3_init_26 ?_
  replace hT := x26.ok
  replace hz := x26.fr
  replace o_a0 := x26.is o_a0
  replace o_n7 := x26.is o_n7
  replace o_n16 := x26.is o_n16
  replace o_n24 := x26.is o_n24
  exact sv_vret C (by cases hf; exact hZ) dX3_init_29
def f_X2_init (T : gh_T) (V : gh_V) (z : Nat) (a0 : Nat) : Option (gh_T × gh_V × Nat) :=
  some (gh_pr (gh_newa T z 13 (40 : Int32).toNatClampNeg) 0 a0 (some z), gh_nva V z, z + 1)
set_option maxHeartbeats 4000000 in
set_option maxRecDepth 100000 in
theorem e_X2_init (T : gh_T) (V : gh_V) (z : Nat) (a0 : Nat) (q : gh_T × gh_V × Nat) (hf : f_X2_init T V z a0 = some q) (hT : gh_ok T) (hz : gh_fr T z) (o_a0 : gh_is T a0 2) : gh_X T z q.1 q.2.2 := by
  have hx := gh_X.rf hT hz
  rw [f_X2_init] at hf
  have x7 := gh_X.newa (c := 13) (n := (40 : Int32).toNatClampNeg) hT hz (by decide) (by decide)
  replace hT := x7.ok
  replace hz := x7.fr
  replace o_a0 := x7.is o_a0
  replace hx := hx.trans x7
  have o_n7 : gh_is (gh_newa T z 13 (40 : Int32).toNatClampNeg) z 13 := gh_is.mka
  have x10 := gh_X.pr (k := 0) (d := 13) hT hz o_a0 rfl o_n7
  replace hT := x10.ok
  replace hz := x10.fr
  replace o_a0 := x10.is o_a0
  replace o_n7 := x10.is o_n7
  replace hx := hx.trans x10
  cases hf
  exact hx
set_option maxHeartbeats 4000000 in
set_option maxRecDepth 100000 in
theorem m_X2_init (l : Launch) (E : sv_E) (T : gh_T) (V : gh_V) (z : Nat) (a0 : Nat) (q : gh_T × gh_V × Nat) (hf : f_X2_init T V z a0 = some q) (hT : gh_ok T) (hz : gh_fr T z) (o_a0 : gh_is T a0 2) : sv_Met l E yX2_init cX2_init 1 none 1 20 [] [.ref a0] (gh_w E T V) z none (gh_w E q.1 q.2.1) q.2.2 1 40 := by
  refine sv_ofJ (by decide) (Nat.le_of_ble_eq_true rfl) ?_
  intro X hX hN hnm hR C hZ
  replace C : sv_C E X cX2_init RX2 [] := C
  show sv_J E X (gh_w E T V) z 0 0 0 [(0, .ref a0)] []
  rw [f_X2_init] at hf
  refine sv_aload_n 0 C dX2_init_0 rfl rfl ?_
  refine sv_objInit C kw_200 kw_1 kw_2 ⟨by rw [hR]; decide, by rw [hR]; exact Nat.le_of_ble_eq_true rfl⟩ dX2_init_1 ?_
  refine sv_aload_n 0 C dX2_init_4 rfl rfl ?_
  refine sv_bipush (v := 40) C dX2_init_5 (by decide) ?_
  have x7 := gh_X.newa (c := 13) (n := (40 : Int32).toNatClampNeg) hT hz (by decide) (by decide)
  refine gh_mkq 5 (c := 13) (Or.inr ⟨rfl, rfl⟩) C hz kw_201 (by decide) ⟨by rw [hR]; decide, by rw [hR]; decide⟩ dX2_init_7 ?_
  refine sv_widen (k := 1) (n := 40) (by decide) (by decide) ?_
  replace hT := x7.ok
  replace hz := x7.fr
  replace o_a0 := x7.is o_a0
  have o_n7 : gh_is (gh_newa T z 13 (40 : Int32).toNatClampNeg) z 13 := gh_is.mka
  have x10 := gh_X.pr (k := 0) (d := 13) hT hz o_a0 rfl o_n7
  refine gh_putr (d := 13) C fl_X2_13 rfl hnm o_a0 (by decide) (by decide) rfl rfl dX2_init_10 ?_
  replace hT := x10.ok
  replace hz := x10.fr
  replace o_a0 := x10.is o_a0
  replace o_n7 := x10.is o_n7
  exact sv_vret C (by cases hf; exact hZ) dX2_init_13
def f_X8_init (T : gh_T) (V : gh_V) (z : Nat) (a0 : Nat) : Option (gh_T × gh_V × Nat) :=
  (f_X6_init (gh_new (gh_pr (gh_newa T z 10 (9 : Int32).toNatClampNeg) 0 a0 (some z)) (z + 1) 6) (gh_nv (gh_nva V z) (z + 1)) (z + 1 + 1) (z + 1) 2000).bind (fun q20 =>
    (f_X6_init (gh_new (gh_pr q20.1 1 a0 (some (z + 1))) q20.2.2 6) (gh_nv q20.2.1 q20.2.2) (q20.2.2 + 1) q20.2.2 115).bind (fun q33 =>
      (f_X5_init (gh_new (gh_pr q33.1 2 a0 (some q20.2.2)) q33.2.2 5) (gh_nv q33.2.1 q33.2.2) (q33.2.2 + 1) q33.2.2).bind (fun q44 =>
        (f_X1_init (gh_new (gh_pr q44.1 3 a0 (some q33.2.2)) q44.2.2 1) (gh_nv q44.2.1 q44.2.2) (q44.2.2 + 1) q44.2.2).bind (fun q55 =>
          (f_X4_init (gh_new (gh_pr q55.1 4 a0 (some q44.2.2)) q55.2.2 4) (gh_nv q55.2.1 q55.2.2) (q55.2.2 + 1) q55.2.2).bind (fun q66 =>
            (f_X3_init (gh_new (gh_pr q66.1 5 a0 (some q55.2.2)) q66.2.2 3) (gh_nv q66.2.1 q66.2.2) (q66.2.2 + 1) q66.2.2).bind (fun q77 =>
              (f_X0_init (gh_new (gh_pr q77.1 6 a0 (some q66.2.2)) q77.2.2 0) (gh_nv q77.2.1 q77.2.2) (q77.2.2 + 1) q77.2.2 3240).bind (fun q91 =>
                (f_X2_init (gh_new (gh_pr q91.1 7 a0 (some q77.2.2)) q91.2.2 2) (gh_nv q91.2.1 q91.2.2) (q91.2.2 + 1) q91.2.2).bind (fun q102 =>
                  (f_X0_init (gh_new (gh_pr q102.1 8 a0 (some q91.2.2)) q102.2.2 0) (gh_nv q102.2.1 q102.2.2) (q102.2.2 + 1) q102.2.2 424).bind (fun q116 =>
                    some (gh_pr q116.1 9 a0 (some q102.2.2), q116.2.1, q116.2.2))))))))))
set_option maxHeartbeats 4000000 in
set_option maxRecDepth 100000 in
theorem e_X8_init (T : gh_T) (V : gh_V) (z : Nat) (a0 : Nat) (q : gh_T × gh_V × Nat) (hf : f_X8_init T V z a0 = some q) (hT : gh_ok T) (hz : gh_fr T z) (o_a0 : gh_is T a0 8) : gh_X T z q.1 q.2.2 := by
  have hx := gh_X.rf hT hz
  rw [f_X8_init] at hf
  have x7 := gh_X.newa (c := 10) (n := (9 : Int32).toNatClampNeg) hT hz (by decide) (by decide)
  replace hT := x7.ok
  replace hz := x7.fr
  replace o_a0 := x7.is o_a0
  replace hx := hx.trans x7
  have o_n7 : gh_is (gh_newa T z 10 (9 : Int32).toNatClampNeg) z 10 := gh_is.mka
  have x9 := gh_X.pr (k := 0) (d := 10) hT hz o_a0 rfl o_n7
  replace hT := x9.ok
  replace hz := x9.fr
  replace o_a0 := x9.is o_a0
  replace o_n7 := x9.is o_n7
  replace hx := hx.trans x9
  have x13 := gh_X.new (c := 6) hT hz (by decide)
  replace hT := x13.ok
  replace hz := x13.fr
  replace o_a0 := x13.is o_a0
  replace o_n7 := x13.is o_n7
  replace hx := hx.trans x13
  have o_n13 : gh_is (gh_new (gh_pr (gh_newa T z 10 (9 : Int32).toNatClampNeg) 0 a0 (some z)) (z + 1) 6) (z + 1) 6 := gh_is.mk
  obtain ⟨q20, hc20, hf⟩ := sv_bind_some hf
  have x20 := e_X6_init _ _ _ _ _ _ hc20 hT hz o_n13
  replace hT := x20.ok
  replace hz := x20.fr
  replace o_a0 := x20.is o_a0
  replace o_n7 := x20.is o_n7
  replace o_n13 := x20.is o_n13
  replace hx := hx.trans x20
  have x23 := gh_X.pr (k := 1) (d := 6) hT hz o_a0 rfl o_n13
  replace hT := x23.ok
  replace hz := x23.fr
  replace o_a0 := x23.is o_a0
  replace o_n7 := x23.is o_n7
  replace o_n13 := x23.is o_n13
  replace hx := hx.trans x23
  have x27 := gh_X.new (c := 6) hT hz (by decide)
  replace hT := x27.ok
  replace hz := x27.fr
  replace o_a0 := x27.is o_a0
  replace o_n7 := x27.is o_n7
  replace o_n13 := x27.is o_n13
  replace hx := hx.trans x27
  have o_n27 : gh_is (gh_new (gh_pr q20.1 1 a0 (some (z + 1))) q20.2.2 6) q20.2.2 6 := gh_is.mk
  obtain ⟨q33, hc33, hf⟩ := sv_bind_some hf
  have x33 := e_X6_init _ _ _ _ _ _ hc33 hT hz o_n27
  replace hT := x33.ok
  replace hz := x33.fr
  replace o_a0 := x33.is o_a0
  replace o_n7 := x33.is o_n7
  replace o_n13 := x33.is o_n13
  replace o_n27 := x33.is o_n27
  replace hx := hx.trans x33
  have x36 := gh_X.pr (k := 2) (d := 6) hT hz o_a0 rfl o_n27
  replace hT := x36.ok
  replace hz := x36.fr
  replace o_a0 := x36.is o_a0
  replace o_n7 := x36.is o_n7
  replace o_n13 := x36.is o_n13
  replace o_n27 := x36.is o_n27
  replace hx := hx.trans x36
  have x40 := gh_X.new (c := 5) hT hz (by decide)
  replace hT := x40.ok
  replace hz := x40.fr
  replace o_a0 := x40.is o_a0
  replace o_n7 := x40.is o_n7
  replace o_n13 := x40.is o_n13
  replace o_n27 := x40.is o_n27
  replace hx := hx.trans x40
  have o_n40 : gh_is (gh_new (gh_pr q33.1 2 a0 (some q20.2.2)) q33.2.2 5) q33.2.2 5 := gh_is.mk
  obtain ⟨q44, hc44, hf⟩ := sv_bind_some hf
  have x44 := e_X5_init _ _ _ _ _ hc44 hT hz o_n40
  replace hT := x44.ok
  replace hz := x44.fr
  replace o_a0 := x44.is o_a0
  replace o_n7 := x44.is o_n7
  replace o_n13 := x44.is o_n13
  replace o_n27 := x44.is o_n27
  replace o_n40 := x44.is o_n40
  replace hx := hx.trans x44
  have x47 := gh_X.pr (k := 3) (d := 5) hT hz o_a0 rfl o_n40
  replace hT := x47.ok
  replace hz := x47.fr
  replace o_a0 := x47.is o_a0
  replace o_n7 := x47.is o_n7
  replace o_n13 := x47.is o_n13
  replace o_n27 := x47.is o_n27
  replace o_n40 := x47.is o_n40
  replace hx := hx.trans x47
  have x51 := gh_X.new (c := 1) hT hz (by decide)
  replace hT := x51.ok
  replace hz := x51.fr
  replace o_a0 := x51.is o_a0
  replace o_n7 := x51.is o_n7
  replace o_n13 := x51.is o_n13
  replace o_n27 := x51.is o_n27
  replace o_n40 := x51.is o_n40
  replace hx := hx.trans x51
  have o_n51 : gh_is (gh_new (gh_pr q44.1 3 a0 (some q33.2.2)) q44.2.2 1) q44.2.2 1 := gh_is.mk
  obtain ⟨q55, hc55, hf⟩ := sv_bind_some hf
  have x55 := e_X1_init _ _ _ _ _ hc55 hT hz o_n51
  replace hT := x55.ok
  replace hz := x55.fr
  replace o_a0 := x55.is o_a0
  replace o_n7 := x55.is o_n7
  replace o_n13 := x55.is o_n13
  replace o_n27 := x55.is o_n27
  replace o_n40 := x55.is o_n40
  replace o_n51 := x55.is o_n51
  replace hx := hx.trans x55
  have x58 := gh_X.pr (k := 4) (d := 1) hT hz o_a0 rfl o_n51
  replace hT := x58.ok
  replace hz := x58.fr
  replace o_a0 := x58.is o_a0
  replace o_n7 := x58.is o_n7
  replace o_n13 := x58.is o_n13
  replace o_n27 := x58.is o_n27
  replace o_n40 := x58.is o_n40
  replace o_n51 := x58.is o_n51
  replace hx := hx.trans x58
  have x62 := gh_X.new (c := 4) hT hz (by decide)
  replace hT := x62.ok
  replace hz := x62.fr
  replace o_a0 := x62.is o_a0
  replace o_n7 := x62.is o_n7
  replace o_n13 := x62.is o_n13
  replace o_n27 := x62.is o_n27
  replace o_n40 := x62.is o_n40
  replace o_n51 := x62.is o_n51
  replace hx := hx.trans x62
  have o_n62 : gh_is (gh_new (gh_pr q55.1 4 a0 (some q44.2.2)) q55.2.2 4) q55.2.2 4 := gh_is.mk
  obtain ⟨q66, hc66, hf⟩ := sv_bind_some hf
  have x66 := e_X4_init _ _ _ _ _ hc66 hT hz o_n62
  replace hT := x66.ok
  replace hz := x66.fr
  replace o_a0 := x66.is o_a0
  replace o_n7 := x66.is o_n7
  replace o_n13 := x66.is o_n13
  replace o_n27 := x66.is o_n27
  replace o_n40 := x66.is o_n40
  replace o_n51 := x66.is o_n51
  replace o_n62 := x66.is o_n62
  replace hx := hx.trans x66
  have x69 := gh_X.pr (k := 5) (d := 4) hT hz o_a0 rfl o_n62
  replace hT := x69.ok
  replace hz := x69.fr
  replace o_a0 := x69.is o_a0
  replace o_n7 := x69.is o_n7
  replace o_n13 := x69.is o_n13
  replace o_n27 := x69.is o_n27
  replace o_n40 := x69.is o_n40
  replace o_n51 := x69.is o_n51
  replace o_n62 := x69.is o_n62
  replace hx := hx.trans x69
  have x73 := gh_X.new (c := 3) hT hz (by decide)
  replace hT := x73.ok
  replace hz := x73.fr
  replace o_a0 := x73.is o_a0
  replace o_n7 := x73.is o_n7
  replace o_n13 := x73.is o_n13
  replace o_n27 := x73.is o_n27
  replace o_n40 := x73.is o_n40
  replace o_n51 := x73.is o_n51
  replace o_n62 := x73.is o_n62
  replace hx := hx.trans x73
  have o_n73 : gh_is (gh_new (gh_pr q66.1 5 a0 (some q55.2.2)) q66.2.2 3) q66.2.2 3 := gh_is.mk
  obtain ⟨q77, hc77, hf⟩ := sv_bind_some hf
  have x77 := e_X3_init _ _ _ _ _ hc77 hT hz o_n73
  replace hT := x77.ok
  replace hz := x77.fr
  replace o_a0 := x77.is o_a0
  replace o_n7 := x77.is o_n7
  replace o_n13 := x77.is o_n13
  replace o_n27 := x77.is o_n27
  replace o_n40 := x77.is o_n40
  replace o_n51 := x77.is o_n51
  replace o_n62 := x77.is o_n62
  replace o_n73 := x77.is o_n73
  replace hx := hx.trans x77
  have x80 := gh_X.pr (k := 6) (d := 3) hT hz o_a0 rfl o_n73
  replace hT := x80.ok
  replace hz := x80.fr
  replace o_a0 := x80.is o_a0
  replace o_n7 := x80.is o_n7
  replace o_n13 := x80.is o_n13
  replace o_n27 := x80.is o_n27
  replace o_n40 := x80.is o_n40
  replace o_n51 := x80.is o_n51
  replace o_n62 := x80.is o_n62
  replace o_n73 := x80.is o_n73
  replace hx := hx.trans x80
  have x84 := gh_X.new (c := 0) hT hz (by decide)
  replace hT := x84.ok
  replace hz := x84.fr
  replace o_a0 := x84.is o_a0
  replace o_n7 := x84.is o_n7
  replace o_n13 := x84.is o_n13
  replace o_n27 := x84.is o_n27
  replace o_n40 := x84.is o_n40
  replace o_n51 := x84.is o_n51
  replace o_n62 := x84.is o_n62
  replace o_n73 := x84.is o_n73
  replace hx := hx.trans x84
  have o_n84 : gh_is (gh_new (gh_pr q77.1 6 a0 (some q66.2.2)) q77.2.2 0) q77.2.2 0 := gh_is.mk
  obtain ⟨q91, hc91, hf⟩ := sv_bind_some hf
  have x91 := e_X0_init _ _ _ _ _ _ hc91 hT hz o_n84
  replace hT := x91.ok
  replace hz := x91.fr
  replace o_a0 := x91.is o_a0
  replace o_n7 := x91.is o_n7
  replace o_n13 := x91.is o_n13
  replace o_n27 := x91.is o_n27
  replace o_n40 := x91.is o_n40
  replace o_n51 := x91.is o_n51
  replace o_n62 := x91.is o_n62
  replace o_n73 := x91.is o_n73
  replace o_n84 := x91.is o_n84
  replace hx := hx.trans x91
  have x94 := gh_X.pr (k := 7) (d := 0) hT hz o_a0 rfl o_n84
  replace hT := x94.ok
  replace hz := x94.fr
  replace o_a0 := x94.is o_a0
  replace o_n7 := x94.is o_n7
  replace o_n13 := x94.is o_n13
  replace o_n27 := x94.is o_n27
  replace o_n40 := x94.is o_n40
  replace o_n51 := x94.is o_n51
  replace o_n62 := x94.is o_n62
  replace o_n73 := x94.is o_n73
  replace o_n84 := x94.is o_n84
  replace hx := hx.trans x94
  have x98 := gh_X.new (c := 2) hT hz (by decide)
  replace hT := x98.ok
  replace hz := x98.fr
  replace o_a0 := x98.is o_a0
  replace o_n7 := x98.is o_n7
  replace o_n13 := x98.is o_n13
  replace o_n27 := x98.is o_n27
  replace o_n40 := x98.is o_n40
  replace o_n51 := x98.is o_n51
  replace o_n62 := x98.is o_n62
  replace o_n73 := x98.is o_n73
  replace o_n84 := x98.is o_n84
  replace hx := hx.trans x98
  have o_n98 : gh_is (gh_new (gh_pr q91.1 7 a0 (some q77.2.2)) q91.2.2 2) q91.2.2 2 := gh_is.mk
  obtain ⟨q102, hc102, hf⟩ := sv_bind_some hf
  have x102 := e_X2_init _ _ _ _ _ hc102 hT hz o_n98
  replace hT := x102.ok
  replace hz := x102.fr
  replace o_a0 := x102.is o_a0
  replace o_n7 := x102.is o_n7
  replace o_n13 := x102.is o_n13
  replace o_n27 := x102.is o_n27
  replace o_n40 := x102.is o_n40
  replace o_n51 := x102.is o_n51
  replace o_n62 := x102.is o_n62
  replace o_n73 := x102.is o_n73
  replace o_n84 := x102.is o_n84
  replace o_n98 := x102.is o_n98
  replace hx := hx.trans x102
  have x105 := gh_X.pr (k := 8) (d := 2) hT hz o_a0 rfl o_n98
  replace hT := x105.ok
  replace hz := x105.fr
  replace o_a0 := x105.is o_a0
  replace o_n7 := x105.is o_n7
  replace o_n13 := x105.is o_n13
  replace o_n27 := x105.is o_n27
  replace o_n40 := x105.is o_n40
  replace o_n51 := x105.is o_n51
  replace o_n62 := x105.is o_n62
  replace o_n73 := x105.is o_n73
  replace o_n84 := x105.is o_n84
  replace o_n98 := x105.is o_n98
  replace hx := hx.trans x105
  have x109 := gh_X.new (c := 0) hT hz (by decide)
  replace hT := x109.ok
  replace hz := x109.fr
  replace o_a0 := x109.is o_a0
  replace o_n7 := x109.is o_n7
  replace o_n13 := x109.is o_n13
  replace o_n27 := x109.is o_n27
  replace o_n40 := x109.is o_n40
  replace o_n51 := x109.is o_n51
  replace o_n62 := x109.is o_n62
  replace o_n73 := x109.is o_n73
  replace o_n84 := x109.is o_n84
  replace o_n98 := x109.is o_n98
  replace hx := hx.trans x109
  have o_n109 : gh_is (gh_new (gh_pr q102.1 8 a0 (some q91.2.2)) q102.2.2 0) q102.2.2 0 := gh_is.mk
  obtain ⟨q116, hc116, hf⟩ := sv_bind_some hf
  have x116 := e_X0_init _ _ _ _ _ _ hc116 hT hz o_n109
  replace hT := x116.ok
  replace hz := x116.fr
  replace o_a0 := x116.is o_a0
  replace o_n7 := x116.is o_n7
  replace o_n13 := x116.is o_n13
  replace o_n27 := x116.is o_n27
  replace o_n40 := x116.is o_n40
  replace o_n51 := x116.is o_n51
  replace o_n62 := x116.is o_n62
  replace o_n73 := x116.is o_n73
  replace o_n84 := x116.is o_n84
  replace o_n98 := x116.is o_n98
  replace o_n109 := x116.is o_n109
  replace hx := hx.trans x116
  have x119 := gh_X.pr (k := 9) (d := 0) hT hz o_a0 rfl o_n109
  replace hT := x119.ok
  replace hz := x119.fr
  replace o_a0 := x119.is o_a0
  replace o_n7 := x119.is o_n7
  replace o_n13 := x119.is o_n13
  replace o_n27 := x119.is o_n27
  replace o_n40 := x119.is o_n40
  replace o_n51 := x119.is o_n51
  replace o_n62 := x119.is o_n62
  replace o_n73 := x119.is o_n73
  replace o_n84 := x119.is o_n84
  replace o_n98 := x119.is o_n98
  replace o_n109 := x119.is o_n109
  replace hx := hx.trans x119
  cases hf
  exact hx
set_option maxHeartbeats 4000000 in
set_option maxRecDepth 100000 in
theorem m_X8_init (l : Launch) (E : sv_E) (T : gh_T) (V : gh_V) (z : Nat) (a0 : Nat) (q : gh_T × gh_V × Nat) (hf : f_X8_init T V z a0 = some q) (hT : gh_ok T) (hz : gh_fr T z) (o_a0 : gh_is T a0 8) : sv_Met l E yX8_init cX8_init 1 none 2 43 [] [.ref a0] (gh_w E T V) z none (gh_w E q.1 q.2.1) q.2.2 23 4587 := by
  refine sv_ofJ (by decide) (Nat.le_of_ble_eq_true rfl) ?_
  intro X hX hN hnm hR C hZ
  replace C : sv_C E X cX8_init RX8 [] := C
  show sv_J E X (gh_w E T V) z 0 0 0 [(0, .ref a0)] []
  rw [f_X8_init] at hf
  refine sv_aload_n 0 C dX8_init_0 rfl rfl ?_
  refine sv_objInit C kw_357 kw_1 kw_2 ⟨by rw [hR]; decide, by rw [hR]; exact Nat.le_of_ble_eq_true rfl⟩ dX8_init_1 ?_
  refine sv_aload_n 0 C dX8_init_4 rfl rfl ?_
  refine sv_bipush (v := 9) C dX8_init_5 (by decide) ?_
  have x7 := gh_X.newa (c := 10) (n := (9 : Int32).toNatClampNeg) hT hz (by decide) (by decide)
  refine gh_mki C hz kw_4 (by decide) ⟨by rw [hR]; decide, by rw [hR]; decide⟩ dX8_init_7 ?_
  refine sv_widen (k := 1) (n := 9) (by decide) (by decide) ?_
  replace hT := x7.ok
  replace hz := x7.fr
  replace o_a0 := x7.is o_a0
  have o_n7 : gh_is (gh_newa T z 10 (9 : Int32).toNatClampNeg) z 10 := gh_is.mka
  have x9 := gh_X.pr (k := 0) (d := 10) hT hz o_a0 rfl o_n7
  refine gh_putr (d := 10) C fl_X8_9 rfl hnm o_a0 (by decide) (by decide) rfl rfl dX8_init_9 ?_
  replace hT := x9.ok
  replace hz := x9.fr
  replace o_a0 := x9.is o_a0
  replace o_n7 := x9.is o_n7
  refine sv_aload_n 0 C dX8_init_12 rfl rfl ?_
  have x13 := gh_X.new (c := 6) hT hz (by decide)
  refine gh_mk C hz cl_X8_13 (by decide) ⟨by rw [hR]; decide, by rw [hR]; decide⟩ dX8_init_13 ?_
  replace hT := x13.ok
  replace hz := x13.fr
  replace o_a0 := x13.is o_a0
  replace o_n7 := x13.is o_n7
  have o_n13 : gh_is (gh_new (gh_pr (gh_newa T z 10 (9 : Int32).toNatClampNeg) 0 a0 (some z)) (z + 1) 6) (z + 1) 6 := gh_is.mk
  refine sv_dup C dX8_init_16 rfl ?_
  refine sv_sipush (v := 2000) C dX8_init_17 (by decide) ?_
  obtain ⟨q20, hc20, hf⟩ := sv_bind_some hf
  have x20 := e_X6_init _ _ _ _ _ _ hc20 hT hz o_n13
  refine sv_callI C mi_X8_15 (m_X6_init (sv_l X) E _ _ _ _ _ _ hc20 hT hz o_n13) sv_sx0 rfl rfl (Nat.le_of_ble_eq_true rfl) ⟨by rw [hR]; decide, by rw [hR]; decide⟩ ⟨by rw [hR]; decide, by rw [hR]; decide⟩ dX8_init_20 ?_
  replace hT := x20.ok
  replace hz := x20.fr
  replace o_a0 := x20.is o_a0
  replace o_n7 := x20.is o_n7
  replace o_n13 := x20.is o_n13
  show sv_J E X (gh_w E q20.1 q20.2.1) q20.2.2 3 2011 23 [(0, .ref a0)] [.ref (z + 1), .ref a0]
  have x23 := gh_X.pr (k := 1) (d := 6) hT hz o_a0 rfl o_n13
  refine gh_putr (d := 6) C fl_X8_18 rfl hnm o_a0 (by decide) (by decide) rfl rfl dX8_init_23 ?_
  replace hT := x23.ok
  replace hz := x23.fr
  replace o_a0 := x23.is o_a0
  replace o_n7 := x23.is o_n7
  replace o_n13 := x23.is o_n13
  refine sv_aload_n 0 C dX8_init_26 rfl rfl ?_
  have x27 := gh_X.new (c := 6) hT hz (by decide)
  refine gh_mk C hz cl_X8_13 (by decide) ⟨by rw [hR]; decide, by rw [hR]; decide⟩ dX8_init_27 ?_
  replace hT := x27.ok
  replace hz := x27.fr
  replace o_a0 := x27.is o_a0
  replace o_n7 := x27.is o_n7
  replace o_n13 := x27.is o_n13
  have o_n27 : gh_is (gh_new (gh_pr q20.1 1 a0 (some (z + 1))) q20.2.2 6) q20.2.2 6 := gh_is.mk
  refine sv_dup C dX8_init_30 rfl ?_
  refine sv_bipush (v := 115) C dX8_init_31 (by decide) ?_
  obtain ⟨q33, hc33, hf⟩ := sv_bind_some hf
  have x33 := e_X6_init _ _ _ _ _ _ hc33 hT hz o_n27
  refine sv_callI C mi_X8_15 (m_X6_init (sv_l X) E _ _ _ _ _ _ hc33 hT hz o_n27) sv_sx0 rfl rfl (Nat.le_of_ble_eq_true rfl) ⟨by rw [hR]; decide, by rw [hR]; decide⟩ ⟨by rw [hR]; decide, by rw [hR]; decide⟩ dX8_init_33 ?_
  replace hT := x33.ok
  replace hz := x33.fr
  replace o_a0 := x33.is o_a0
  replace o_n7 := x33.is o_n7
  replace o_n13 := x33.is o_n13
  replace o_n27 := x33.is o_n27
  show sv_J E X (gh_w E q33.1 q33.2.1) q33.2.2 5 4013 36 [(0, .ref a0)] [.ref q20.2.2, .ref a0]
  have x36 := gh_X.pr (k := 2) (d := 6) hT hz o_a0 rfl o_n27
  refine gh_putr (d := 6) C fl_X8_22 rfl hnm o_a0 (by decide) (by decide) rfl rfl dX8_init_36 ?_
  replace hT := x36.ok
  replace hz := x36.fr
  replace o_a0 := x36.is o_a0
  replace o_n7 := x36.is o_n7
  replace o_n13 := x36.is o_n13
  replace o_n27 := x36.is o_n27
  refine sv_aload_n 0 C dX8_init_39 rfl rfl ?_
  have x40 := gh_X.new (c := 5) hT hz (by decide)
  refine gh_mk C hz cl_X8_25 (by decide) ⟨by rw [hR]; decide, by rw [hR]; decide⟩ dX8_init_40 ?_
  replace hT := x40.ok
  replace hz := x40.fr
  replace o_a0 := x40.is o_a0
  replace o_n7 := x40.is o_n7
  replace o_n13 := x40.is o_n13
  replace o_n27 := x40.is o_n27
  have o_n40 : gh_is (gh_new (gh_pr q33.1 2 a0 (some q20.2.2)) q33.2.2 5) q33.2.2 5 := gh_is.mk
  refine sv_dup C dX8_init_43 rfl ?_
  obtain ⟨q44, hc44, hf⟩ := sv_bind_some hf
  have x44 := e_X5_init _ _ _ _ _ hc44 hT hz o_n40
  refine sv_callIN C mn_X8_27 (m_X5_init (sv_l X) E _ _ _ _ _ hc44 hT hz o_n40) sv_sx0 rfl rfl (Nat.le_of_ble_eq_true rfl) ⟨by rw [hR]; decide, by rw [hR]; decide⟩ ⟨by rw [hR]; decide, by rw [hR]; decide⟩ dX8_init_44 ?_
  replace hT := x44.ok
  replace hz := x44.fr
  replace o_a0 := x44.is o_a0
  replace o_n7 := x44.is o_n7
  replace o_n13 := x44.is o_n13
  replace o_n27 := x44.is o_n27
  replace o_n40 := x44.is o_n40
  show sv_J E X (gh_w E q44.1 q44.2.1) q44.2.2 7 4097 47 [(0, .ref a0)] [.ref q33.2.2, .ref a0]
  have x47 := gh_X.pr (k := 3) (d := 5) hT hz o_a0 rfl o_n40
  refine gh_putr (d := 5) C fl_X8_28 rfl hnm o_a0 (by decide) (by decide) rfl rfl dX8_init_47 ?_
  replace hT := x47.ok
  replace hz := x47.fr
  replace o_a0 := x47.is o_a0
  replace o_n7 := x47.is o_n7
  replace o_n13 := x47.is o_n13
  replace o_n27 := x47.is o_n27
  replace o_n40 := x47.is o_n40
  refine sv_aload_n 0 C dX8_init_50 rfl rfl ?_
  have x51 := gh_X.new (c := 1) hT hz (by decide)
  refine gh_mk C hz cl_X8_32 (by decide) ⟨by rw [hR]; decide, by rw [hR]; decide⟩ dX8_init_51 ?_
  replace hT := x51.ok
  replace hz := x51.fr
  replace o_a0 := x51.is o_a0
  replace o_n7 := x51.is o_n7
  replace o_n13 := x51.is o_n13
  replace o_n27 := x51.is o_n27
  replace o_n40 := x51.is o_n40
  have o_n51 : gh_is (gh_new (gh_pr q44.1 3 a0 (some q33.2.2)) q44.2.2 1) q44.2.2 1 := gh_is.mk
  refine sv_dup C dX8_init_54 rfl ?_
  obtain ⟨q55, hc55, hf⟩ := sv_bind_some hf
  have x55 := e_X1_init _ _ _ _ _ hc55 hT hz o_n51
  refine sv_callIN C mn_X8_34 (m_X1_init (sv_l X) E _ _ _ _ _ hc55 hT hz o_n51) sv_sx0 rfl rfl (Nat.le_of_ble_eq_true rfl) ⟨by rw [hR]; decide, by rw [hR]; decide⟩ ⟨by rw [hR]; decide, by rw [hR]; decide⟩ dX8_init_55 ?_
  replace hT := x55.ok
  replace hz := x55.fr
  replace o_a0 := x55.is o_a0
  replace o_n7 := x55.is o_n7
  replace o_n13 := x55.is o_n13
  replace o_n27 := x55.is o_n27
  replace o_n40 := x55.is o_n40
  replace o_n51 := x55.is o_n51
  show sv_J E X (gh_w E q55.1 q55.2.1) q55.2.2 10 4259 58 [(0, .ref a0)] [.ref q44.2.2, .ref a0]
  have x58 := gh_X.pr (k := 4) (d := 1) hT hz o_a0 rfl o_n51
  refine gh_putr (d := 1) C fl_X8_35 rfl hnm o_a0 (by decide) (by decide) rfl rfl dX8_init_58 ?_
  replace hT := x58.ok
  replace hz := x58.fr
  replace o_a0 := x58.is o_a0
  replace o_n7 := x58.is o_n7
  replace o_n13 := x58.is o_n13
  replace o_n27 := x58.is o_n27
  replace o_n40 := x58.is o_n40
  replace o_n51 := x58.is o_n51
  refine sv_aload_n 0 C dX8_init_61 rfl rfl ?_
  have x62 := gh_X.new (c := 4) hT hz (by decide)
  refine gh_mk C hz cl_X8_39 (by decide) ⟨by rw [hR]; decide, by rw [hR]; decide⟩ dX8_init_62 ?_
  replace hT := x62.ok
  replace hz := x62.fr
  replace o_a0 := x62.is o_a0
  replace o_n7 := x62.is o_n7
  replace o_n13 := x62.is o_n13
  replace o_n27 := x62.is o_n27
  replace o_n40 := x62.is o_n40
  replace o_n51 := x62.is o_n51
  have o_n62 : gh_is (gh_new (gh_pr q55.1 4 a0 (some q44.2.2)) q55.2.2 4) q55.2.2 4 := gh_is.mk
  refine sv_dup C dX8_init_65 rfl ?_
  obtain ⟨q66, hc66, hf⟩ := sv_bind_some hf
  have x66 := e_X4_init _ _ _ _ _ hc66 hT hz o_n62
  refine sv_callI C mi_X8_41 (m_X4_init (sv_l X) E _ _ _ _ _ hc66 hT hz o_n62) sv_sx0 rfl rfl (Nat.le_of_ble_eq_true rfl) ⟨by rw [hR]; decide, by rw [hR]; decide⟩ ⟨by rw [hR]; decide, by rw [hR]; decide⟩ dX8_init_66 ?_
  replace hT := x66.ok
  replace hz := x66.fr
  replace o_a0 := x66.is o_a0
  replace o_n7 := x66.is o_n7
  replace o_n13 := x66.is o_n13
  replace o_n27 := x66.is o_n27
  replace o_n40 := x66.is o_n40
  replace o_n51 := x66.is o_n51
  replace o_n62 := x66.is o_n62
  show sv_J E X (gh_w E q66.1 q66.2.1) q66.2.2 13 4297 69 [(0, .ref a0)] [.ref q55.2.2, .ref a0]
  have x69 := gh_X.pr (k := 5) (d := 4) hT hz o_a0 rfl o_n62
  refine gh_putr (d := 4) C fl_X8_42 rfl hnm o_a0 (by decide) (by decide) rfl rfl dX8_init_69 ?_
  replace hT := x69.ok
  replace hz := x69.fr
  replace o_a0 := x69.is o_a0
  replace o_n7 := x69.is o_n7
  replace o_n13 := x69.is o_n13
  replace o_n27 := x69.is o_n27
  replace o_n40 := x69.is o_n40
  replace o_n51 := x69.is o_n51
  replace o_n62 := x69.is o_n62
  refine sv_aload_n 0 C dX8_init_72 rfl rfl ?_
  have x73 := gh_X.new (c := 3) hT hz (by decide)
  refine gh_mk C hz cl_X8_46 (by decide) ⟨by rw [hR]; decide, by rw [hR]; decide⟩ dX8_init_73 ?_
  replace hT := x73.ok
  replace hz := x73.fr
  replace o_a0 := x73.is o_a0
  replace o_n7 := x73.is o_n7
  replace o_n13 := x73.is o_n13
  replace o_n27 := x73.is o_n27
  replace o_n40 := x73.is o_n40
  replace o_n51 := x73.is o_n51
  replace o_n62 := x73.is o_n62
  have o_n73 : gh_is (gh_new (gh_pr q66.1 5 a0 (some q55.2.2)) q66.2.2 3) q66.2.2 3 := gh_is.mk
  refine sv_dup C dX8_init_76 rfl ?_
  obtain ⟨q77, hc77, hf⟩ := sv_bind_some hf
  have x77 := e_X3_init _ _ _ _ _ hc77 hT hz o_n73
  refine sv_callIN C mn_X8_48 (m_X3_init (sv_l X) E _ _ _ _ _ hc77 hT hz o_n73) sv_sx0 rfl rfl (Nat.le_of_ble_eq_true rfl) ⟨by rw [hR]; decide, by rw [hR]; decide⟩ ⟨by rw [hR]; decide, by rw [hR]; decide⟩ dX8_init_77 ?_
  replace hT := x77.ok
  replace hz := x77.fr
  replace o_a0 := x77.is o_a0
  replace o_n7 := x77.is o_n7
  replace o_n13 := x77.is o_n13
  replace o_n27 := x77.is o_n27
  replace o_n40 := x77.is o_n40
  replace o_n51 := x77.is o_n51
  replace o_n62 := x77.is o_n62
  replace o_n73 := x77.is o_n73
  show sv_J E X (gh_w E q77.1 q77.2.1) q77.2.2 17 4333 80 [(0, .ref a0)] [.ref q66.2.2, .ref a0]
  have x80 := gh_X.pr (k := 6) (d := 3) hT hz o_a0 rfl o_n73
  refine gh_putr (d := 3) C fl_X8_49 rfl hnm o_a0 (by decide) (by decide) rfl rfl dX8_init_80 ?_
  replace hT := x80.ok
  replace hz := x80.fr
  replace o_a0 := x80.is o_a0
  replace o_n7 := x80.is o_n7
  replace o_n13 := x80.is o_n13
  replace o_n27 := x80.is o_n27
  replace o_n40 := x80.is o_n40
  replace o_n51 := x80.is o_n51
  replace o_n62 := x80.is o_n62
  replace o_n73 := x80.is o_n73
  refine sv_aload_n 0 C dX8_init_83 rfl rfl ?_
  have x84 := gh_X.new (c := 0) hT hz (by decide)
  refine gh_mk C hz cl_X8_53 (by decide) ⟨by rw [hR]; decide, by rw [hR]; decide⟩ dX8_init_84 ?_
  replace hT := x84.ok
  replace hz := x84.fr
  replace o_a0 := x84.is o_a0
  replace o_n7 := x84.is o_n7
  replace o_n13 := x84.is o_n13
  replace o_n27 := x84.is o_n27
  replace o_n40 := x84.is o_n40
  replace o_n51 := x84.is o_n51
  replace o_n62 := x84.is o_n62
  replace o_n73 := x84.is o_n73
  have o_n84 : gh_is (gh_new (gh_pr q77.1 6 a0 (some q66.2.2)) q77.2.2 0) q77.2.2 0 := gh_is.mk
  refine sv_dup C dX8_init_87 rfl ?_
  refine sv_sipush (v := 3240) C dX8_init_88 (by decide) ?_
  obtain ⟨q91, hc91, hf⟩ := sv_bind_some hf
  have x91 := e_X0_init _ _ _ _ _ _ hc91 hT hz o_n84
  refine sv_callI C mi_X8_55 (m_X0_init (sv_l X) E _ _ _ _ _ _ hc91 hT hz o_n84) sv_sx0 rfl rfl (Nat.le_of_ble_eq_true rfl) ⟨by rw [hR]; decide, by rw [hR]; decide⟩ ⟨by rw [hR]; decide, by rw [hR]; decide⟩ dX8_init_91 ?_
  replace hT := x91.ok
  replace hz := x91.fr
  replace o_a0 := x91.is o_a0
  replace o_n7 := x91.is o_n7
  replace o_n13 := x91.is o_n13
  replace o_n27 := x91.is o_n27
  replace o_n40 := x91.is o_n40
  replace o_n51 := x91.is o_n51
  replace o_n62 := x91.is o_n62
  replace o_n73 := x91.is o_n73
  replace o_n84 := x91.is o_n84
  show sv_J E X (gh_w E q91.1 q91.2.1) q91.2.2 19 4439 94 [(0, .ref a0)] [.ref q77.2.2, .ref a0]
  have x94 := gh_X.pr (k := 7) (d := 0) hT hz o_a0 rfl o_n84
  refine gh_putr (d := 0) C fl_X8_56 rfl hnm o_a0 (by decide) (by decide) rfl rfl dX8_init_94 ?_
  replace hT := x94.ok
  replace hz := x94.fr
  replace o_a0 := x94.is o_a0
  replace o_n7 := x94.is o_n7
  replace o_n13 := x94.is o_n13
  replace o_n27 := x94.is o_n27
  replace o_n40 := x94.is o_n40
  replace o_n51 := x94.is o_n51
  replace o_n62 := x94.is o_n62
  replace o_n73 := x94.is o_n73
  replace o_n84 := x94.is o_n84
  refine sv_aload_n 0 C dX8_init_97 rfl rfl ?_
  have x98 := gh_X.new (c := 2) hT hz (by decide)
  refine gh_mk C hz cl_X8_60 (by decide) ⟨by rw [hR]; decide, by rw [hR]; decide⟩ dX8_init_98 ?_
  replace hT := x98.ok
  replace hz := x98.fr
  replace o_a0 := x98.is o_a0
  replace o_n7 := x98.is o_n7
  replace o_n13 := x98.is o_n13
  replace o_n27 := x98.is o_n27
  replace o_n40 := x98.is o_n40
  replace o_n51 := x98.is o_n51
  replace o_n62 := x98.is o_n62
  replace o_n73 := x98.is o_n73
  replace o_n84 := x98.is o_n84
  have o_n98 : gh_is (gh_new (gh_pr q91.1 7 a0 (some q77.2.2)) q91.2.2 2) q91.2.2 2 := gh_is.mk
  refine sv_dup C dX8_init_101 rfl ?_
  obtain ⟨q102, hc102, hf⟩ := sv_bind_some hf
  have x102 := e_X2_init _ _ _ _ _ hc102 hT hz o_n98
  refine sv_callIN C mn_X8_62 (m_X2_init (sv_l X) E _ _ _ _ _ hc102 hT hz o_n98) sv_sx0 rfl rfl (Nat.le_of_ble_eq_true rfl) ⟨by rw [hR]; decide, by rw [hR]; decide⟩ ⟨by rw [hR]; decide, by rw [hR]; decide⟩ dX8_init_102 ?_
  replace hT := x102.ok
  replace hz := x102.fr
  replace o_a0 := x102.is o_a0
  replace o_n7 := x102.is o_n7
  replace o_n13 := x102.is o_n13
  replace o_n27 := x102.is o_n27
  replace o_n40 := x102.is o_n40
  replace o_n51 := x102.is o_n51
  replace o_n62 := x102.is o_n62
  replace o_n73 := x102.is o_n73
  replace o_n84 := x102.is o_n84
  replace o_n98 := x102.is o_n98
  show sv_J E X (gh_w E q102.1 q102.2.1) q102.2.2 21 4481 105 [(0, .ref a0)] [.ref q91.2.2, .ref a0]
  have x105 := gh_X.pr (k := 8) (d := 2) hT hz o_a0 rfl o_n98
  refine gh_putr (d := 2) C fl_X8_63 rfl hnm o_a0 (by decide) (by decide) rfl rfl dX8_init_105 ?_
  replace hT := x105.ok
  replace hz := x105.fr
  replace o_a0 := x105.is o_a0
  replace o_n7 := x105.is o_n7
  replace o_n13 := x105.is o_n13
  replace o_n27 := x105.is o_n27
  replace o_n40 := x105.is o_n40
  replace o_n51 := x105.is o_n51
  replace o_n62 := x105.is o_n62
  replace o_n73 := x105.is o_n73
  replace o_n84 := x105.is o_n84
  replace o_n98 := x105.is o_n98
  refine sv_aload_n 0 C dX8_init_108 rfl rfl ?_
  have x109 := gh_X.new (c := 0) hT hz (by decide)
  refine gh_mk C hz cl_X8_53 (by decide) ⟨by rw [hR]; decide, by rw [hR]; decide⟩ dX8_init_109 ?_
  replace hT := x109.ok
  replace hz := x109.fr
  replace o_a0 := x109.is o_a0
  replace o_n7 := x109.is o_n7
  replace o_n13 := x109.is o_n13
  replace o_n27 := x109.is o_n27
  replace o_n40 := x109.is o_n40
  replace o_n51 := x109.is o_n51
  replace o_n62 := x109.is o_n62
  replace o_n73 := x109.is o_n73
  replace o_n84 := x109.is o_n84
  replace o_n98 := x109.is o_n98
  have o_n109 : gh_is (gh_new (gh_pr q102.1 8 a0 (some q91.2.2)) q102.2.2 0) q102.2.2 0 := gh_is.mk
  refine sv_dup C dX8_init_112 rfl ?_
  refine sv_sipush (v := 424) C dX8_init_113 (by decide) ?_
  obtain ⟨q116, hc116, hf⟩ := sv_bind_some hf
  have x116 := e_X0_init _ _ _ _ _ _ hc116 hT hz o_n109
  refine sv_callI C mi_X8_55 (m_X0_init (sv_l X) E _ _ _ _ _ _ hc116 hT hz o_n109) sv_sx0 rfl rfl (Nat.le_of_ble_eq_true rfl) ⟨by rw [hR]; decide, by rw [hR]; decide⟩ ⟨by rw [hR]; decide, by rw [hR]; decide⟩ dX8_init_116 ?_
  replace hT := x116.ok
  replace hz := x116.fr
  replace o_a0 := x116.is o_a0
  replace o_n7 := x116.is o_n7
  replace o_n13 := x116.is o_n13
  replace o_n27 := x116.is o_n27
  replace o_n40 := x116.is o_n40
  replace o_n51 := x116.is o_n51
  replace o_n62 := x116.is o_n62
  replace o_n73 := x116.is o_n73
  replace o_n84 := x116.is o_n84
  replace o_n98 := x116.is o_n98
  replace o_n109 := x116.is o_n109
  show sv_J E X (gh_w E q116.1 q116.2.1) q116.2.2 23 4587 119 [(0, .ref a0)] [.ref q102.2.2, .ref a0]
  have x119 := gh_X.pr (k := 9) (d := 0) hT hz o_a0 rfl o_n109
  refine gh_putr (d := 0) C fl_X8_67 rfl hnm o_a0 (by decide) (by decide) rfl rfl dX8_init_119 ?_
  replace hT := x119.ok
  replace hz := x119.fr
  replace o_a0 := x119.is o_a0
  replace o_n7 := x119.is o_n7
  replace o_n13 := x119.is o_n13
  replace o_n27 := x119.is o_n27
  replace o_n40 := x119.is o_n40
  replace o_n51 := x119.is o_n51
  replace o_n62 := x119.is o_n62
  replace o_n73 := x119.is o_n73
  replace o_n84 := x119.is o_n84
  replace o_n98 := x119.is o_n98
  replace o_n109 := x119.is o_n109
  exact sv_vret C (by cases hf; exact hZ) dX8_init_122
