theorem mn_X8_27 : sv_MN RX8 27 yX5_init cX5_init 1 0 := ⟨⟨by decide, kw_385, kw_25, kw_386⟩, ⟨by decide, by decide, by decide +kernel⟩, rfl⟩
theorem mn_X8_34 : sv_MN RX8 34 yX1_init cX1_init 1 0 := ⟨⟨by decide, kw_387, kw_71, kw_388⟩, ⟨by decide, by decide, by decide +kernel⟩, rfl⟩
theorem mn_X8_48 : sv_MN RX8 48 yX3_init cX3_init 1 0 := ⟨⟨by decide, kw_392, kw_374, kw_393⟩, ⟨by decide, by decide, by decide +kernel⟩, rfl⟩
theorem mn_X8_62 : sv_MN RX8 62 yX2_init cX2_init 1 0 := ⟨⟨by decide, kw_395, kw_217, kw_396⟩, ⟨by decide, by decide, by decide +kernel⟩, rfl⟩
theorem mn_X2_30 : sv_MN RX2 30 yX7_init cX7_init 1 0 := ⟨⟨by decide, kw_219, kw_213, kw_220⟩, ⟨by decide, by decide, by decide +kernel⟩, rfl⟩
theorem mi_X3_30 : sv_MI RX3 30 yX0_init cX0_init 2 1 := ⟨⟨kw_232, kw_233, kw_198, kw_234⟩, ⟨by decide, by decide, by decide +kernel⟩, rfl⟩
theorem mi_X8_15 : sv_MI RX8 15 yX6_init cX6_init 2 1 := ⟨⟨kw_382, kw_383, kw_324, kw_384⟩, ⟨by decide, by decide, by decide +kernel⟩, rfl⟩
theorem mi_X8_41 : sv_MI RX8 41 yX4_init cX4_init 1 0 := ⟨⟨kw_389, kw_390, kw_276, kw_391⟩, ⟨by decide, by decide, by decide +kernel⟩, rfl⟩
theorem mi_X8_55 : sv_MI RX8 55 yX0_init cX0_init 2 1 := ⟨⟨kw_394, kw_233, kw_198, kw_234⟩, ⟨by decide, by decide, by decide +kernel⟩, rfl⟩
theorem mi_L_28 : sv_MI RL 28 yX8_init cX8_init 1 0 := ⟨⟨kw_843, kw_844, kw_440, kw_845⟩, ⟨by decide, by decide, by decide +kernel⟩, rfl⟩
theorem mi_L_31 : sv_MI RL 31 yX9_init cX9_init 1 0 := ⟨⟨kw_846, kw_847, kw_584, kw_848⟩, ⟨by decide, by decide, by decide +kernel⟩, rfl⟩
theorem cl_X2_11 : sv_CL RX2 11 7 RX7 3 (gh_fs 7 (fun _ => 0) (fun _ => none)) := ⟨TX7, tyX7, rfl, sv_in7, tyX7_ok, fun j hj => by rcases (show j = 0 ∨ j = 1 ∨ j = 2 by omega) with rfl | rfl | rfl <;> rfl, kw_201, kw_212, kw_213⟩
theorem cl_X3_11 : sv_CL RX3 11 0 RX0 3 (gh_fs 0 (fun _ => 0) (fun _ => none)) := ⟨TX0, tyX0, rfl, sv_in0, tyX0_ok, fun j hj => by rcases (show j = 0 ∨ j = 1 ∨ j = 2 by omega) with rfl | rfl | rfl <;> rfl, kw_226, kw_231, kw_198⟩
theorem cl_X8_13 : sv_CL RX8 13 6 RX6 2 (gh_fs 6 (fun _ => 0) (fun _ => none)) := ⟨TX6, tyX6, rfl, sv_in6, tyX6_ok, fun j hj => by rcases (show j = 0 ∨ j = 1 by omega) with rfl | rfl <;> rfl, kw_359, kw_360, kw_324⟩
theorem cl_X8_25 : sv_CL RX8 25 5 RX5 6 (gh_fs 5 (fun _ => 0) (fun _ => none)) := ⟨TX5, tyX5, rfl, sv_in5, tyX5_ok, fun j hj => by rcases (show j = 0 ∨ j = 1 ∨ j = 2 ∨ j = 3 ∨ j = 4 ∨ j = 5 by omega) with rfl | rfl | rfl | rfl | rfl | rfl <;> rfl, kw_363, kw_364, kw_25⟩
theorem cl_X8_32 : sv_CL RX8 32 1 RX1 4 (gh_fs 1 (fun _ => 0) (fun _ => none)) := ⟨TX1, tyX1, rfl, sv_in1, tyX1_ok, fun j hj => by rcases (show j = 0 ∨ j = 1 ∨ j = 2 ∨ j = 3 by omega) with rfl | rfl | rfl | rfl <;> rfl, kw_366, kw_367, kw_71⟩
theorem cl_X8_39 : sv_CL RX8 39 4 RX4 2 (gh_fs 4 (fun _ => 0) (fun _ => none)) := ⟨TX4, tyX4, rfl, sv_in4, tyX4_ok, fun j hj => by rcases (show j = 0 ∨ j = 1 by omega) with rfl | rfl <;> rfl, kw_369, kw_370, kw_276⟩
theorem cl_X8_46 : sv_CL RX8 46 3 RX3 3 (gh_fs 3 (fun _ => 0) (fun _ => none)) := ⟨TX3, tyX3, rfl, sv_in3, tyX3_ok, fun j hj => by rcases (show j = 0 ∨ j = 1 ∨ j = 2 by omega) with rfl | rfl | rfl <;> rfl, kw_372, kw_373, kw_374⟩
theorem cl_X8_53 : sv_CL RX8 53 0 RX0 3 (gh_fs 0 (fun _ => 0) (fun _ => none)) := ⟨TX0, tyX0, rfl, sv_in0, tyX0_ok, fun j hj => by rcases (show j = 0 ∨ j = 1 ∨ j = 2 by omega) with rfl | rfl | rfl <;> rfl, kw_376, kw_231, kw_198⟩
theorem cl_X8_60 : sv_CL RX8 60 2 RX2 2 (gh_fs 2 (fun _ => 0) (fun _ => none)) := ⟨TX2, tyX2, rfl, sv_in2, tyX2_ok, fun j hj => by rcases (show j = 0 ∨ j = 1 by omega) with rfl | rfl <;> rfl, kw_378, kw_379, kw_217⟩
theorem cl_L_8 : sv_CL RL 8 8 RX8 10 (gh_fs 8 (fun _ => 0) (fun _ => none)) := ⟨TX8, tyX8, rfl, sv_in8, tyX8_ok, fun j hj => by rcases (show j = 0 ∨ j = 1 ∨ j = 2 ∨ j = 3 ∨ j = 4 ∨ j = 5 ∨ j = 6 ∨ j = 7 ∨ j = 8 ∨ j = 9 by omega) with rfl | rfl | rfl | rfl | rfl | rfl | rfl | rfl | rfl | rfl <;> rfl, kw_838, kw_839, kw_440⟩
theorem sv_cap_le {n : Int32} {k : Nat} (g : (decide (¬ n < 0) && decide (n.toNatClampNeg ≤ k)) = true) : n.toNatClampNeg ≤ k := by
  simp only [Bool.and_eq_true, decide_eq_true_eq] at g
  exact g.2
theorem sv_cap {n : Int32} {k b : Nat} (g : (decide (¬ n < 0) && decide (n.toNatClampNeg ≤ k)) = true) (h : k * b ≤ 536870912) : (decide (¬ n < 0) && decide (n.toNatClampNeg * b ≤ 536870912)) = true := by
  simp only [Bool.and_eq_true, decide_eq_true_eq] at g ⊢
  exact ⟨g.1, Nat.le_trans (Nat.mul_le_mul_right b g.2) h⟩
