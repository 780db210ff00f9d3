/-! ===== PURE: the beginning ===== -/
def iT (a0 : Nat) : gh_T := gh_pr (gh_pr (gh_newa (gh_new (gh_pr (gh_pr (gh_newa (gh_new (gh_pr (gh_pr (gh_newa (gh_new (gh_pr (gh_pr (gh_newa (gh_pr (gh_newa (gh_pr (gh_newa (gh_new (gh_pr (gh_pr (gh_newa (gh_pr (gh_newa (gh_new (gh_pr (gh_pr (gh_newa (gh_pr (gh_newa (gh_new (gh_pr (gh_pr (gh_newa (gh_new (gh_pr (gh_pr (gh_newa (gh_new (gh_pr (gh_pr (gh_newa (gh_new (gh_pr (gh_newa (gh_new lw_T0 a0 8) (a0 + 1) 10 9) 0 a0 (some (a0 + 1))) (a0 + 2) 6) (a0 + 3) 9 2000) 0 (a0 + 2) (some (a0 + 3))) 1 a0 (some (a0 + 2))) (a0 + 4) 6) (a0 + 5) 9 115) 0 (a0 + 4) (some (a0 + 5))) 2 a0 (some (a0 + 4))) (a0 + 6) 5) (a0 + 7) 9 78) 0 (a0 + 6) (some (a0 + 7))) 3 a0 (some (a0 + 6))) (a0 + 8) 1) (a0 + 9) 9 78) 0 (a0 + 8) (some (a0 + 9))) (a0 + 10) 10 80) 1 (a0 + 8) (some (a0 + 10))) 4 a0 (some (a0 + 8))) (a0 + 11) 4) (a0 + 12) 10 18) 0 (a0 + 11) (some (a0 + 12))) (a0 + 13) 10 18) 1 (a0 + 11) (some (a0 + 13))) 5 a0 (some (a0 + 11))) (a0 + 14) 3) (a0 + 15) 12 11) 0 (a0 + 14) (some (a0 + 15))) (a0 + 16) 10 11) 1 (a0 + 14) (some (a0 + 16))) (a0 + 17) 10 11) 2 (a0 + 14) (some (a0 + 17))) 6 a0 (some (a0 + 14))) (a0 + 18) 0) (a0 + 19) 10 103) 1 (a0 + 18) (some (a0 + 19))) 7 a0 (some (a0 + 18))) (a0 + 20) 2) (a0 + 21) 13 40) 0 (a0 + 20) (some (a0 + 21))) 8 a0 (some (a0 + 20))) (a0 + 22) 0) (a0 + 23) 10 15) 1 (a0 + 22) (some (a0 + 23))) 9 a0 (some (a0 + 22))

theorem pr_n {T : gh_T} {k a j x : Nat} {r : Option Nat} (h : ¬ (j = k ∧ x = a)) : (gh_pr T k a r).2.2.1 j x = T.2.2.1 j x := if_neg h
theorem pr_1 {T : gh_T} {k a : Nat} {r : Option Nat} : (gh_pr T k a r).2.2.1 k a = r := if_pos ⟨rfl, rfl⟩
theorem newa_r {T : gh_T} {z c n j x : Nat} : (gh_newa T z c n).2.2.1 j x = T.2.2.1 j x := rfl
theorem new_n {T : gh_T} {z c j x : Nat} (h : x ≠ z) : (gh_new T z c).2.2.1 j x = T.2.2.1 j x := if_neg h
theorem pr_l {T : gh_T} {k a x : Nat} {r : Option Nat} : (gh_pr T k a r).2.2.2.1 x = T.2.2.2.1 x := rfl
theorem new_l {T : gh_T} {z c x : Nat} : (gh_new T z c).2.2.2.1 x = T.2.2.2.1 x := rfl
theorem newa_1 {T : gh_T} {z c n : Nat} : (gh_newa T z c n).2.2.2.1 z = n := if_pos rfl
theorem newa_n {T : gh_T} {z c n x : Nat} (h : x ≠ z) : (gh_newa T z c n).2.2.2.1 x = T.2.2.2.1 x := if_neg h
theorem iT_r0_0 (a0 : Nat) : (iT a0).2.2.1 0 a0 = some (a0 + 1) := by
  unfold iT
  rw [pr_n (by omega), pr_n (by omega), newa_r, new_n (by omega), pr_n (by omega), pr_n (by omega), newa_r, new_n (by omega), pr_n (by omega), pr_n (by omega), newa_r, new_n (by omega), pr_n (by omega), pr_n (by omega), newa_r, pr_n (by omega), newa_r, pr_n (by omega), newa_r, new_n (by omega), pr_n (by omega), pr_n (by omega), newa_r, pr_n (by omega), newa_r, new_n (by omega), pr_n (by omega), pr_n (by omega), newa_r, pr_n (by omega), newa_r, new_n (by omega), pr_n (by omega), pr_n (by omega), newa_r, new_n (by omega), pr_n (by omega), pr_n (by omega), newa_r, new_n (by omega), pr_n (by omega), pr_n (by omega), newa_r, new_n (by omega), pr_1]
theorem iT_r1_0 (a0 : Nat) : (iT a0).2.2.1 1 a0 = some (a0 + 2) := by
  unfold iT
  rw [pr_n (by omega), pr_n (by omega), newa_r, new_n (by omega), pr_n (by omega), pr_n (by omega), newa_r, new_n (by omega), pr_n (by omega), pr_n (by omega), newa_r, new_n (by omega), pr_n (by omega), pr_n (by omega), newa_r, pr_n (by omega), newa_r, pr_n (by omega), newa_r, new_n (by omega), pr_n (by omega), pr_n (by omega), newa_r, pr_n (by omega), newa_r, new_n (by omega), pr_n (by omega), pr_n (by omega), newa_r, pr_n (by omega), newa_r, new_n (by omega), pr_n (by omega), pr_n (by omega), newa_r, new_n (by omega), pr_n (by omega), pr_n (by omega), newa_r, new_n (by omega), pr_1]
theorem iT_r2_0 (a0 : Nat) : (iT a0).2.2.1 2 a0 = some (a0 + 4) := by
  unfold iT
  rw [pr_n (by omega), pr_n (by omega), newa_r, new_n (by omega), pr_n (by omega), pr_n (by omega), newa_r, new_n (by omega), pr_n (by omega), pr_n (by omega), newa_r, new_n (by omega), pr_n (by omega), pr_n (by omega), newa_r, pr_n (by omega), newa_r, pr_n (by omega), newa_r, new_n (by omega), pr_n (by omega), pr_n (by omega), newa_r, pr_n (by omega), newa_r, new_n (by omega), pr_n (by omega), pr_n (by omega), newa_r, pr_n (by omega), newa_r, new_n (by omega), pr_n (by omega), pr_n (by omega), newa_r, new_n (by omega), pr_1]
theorem iT_r3_0 (a0 : Nat) : (iT a0).2.2.1 3 a0 = some (a0 + 6) := by
  unfold iT
  rw [pr_n (by omega), pr_n (by omega), newa_r, new_n (by omega), pr_n (by omega), pr_n (by omega), newa_r, new_n (by omega), pr_n (by omega), pr_n (by omega), newa_r, new_n (by omega), pr_n (by omega), pr_n (by omega), newa_r, pr_n (by omega), newa_r, pr_n (by omega), newa_r, new_n (by omega), pr_n (by omega), pr_n (by omega), newa_r, pr_n (by omega), newa_r, new_n (by omega), pr_n (by omega), pr_n (by omega), newa_r, pr_n (by omega), newa_r, new_n (by omega), pr_1]
theorem iT_r4_0 (a0 : Nat) : (iT a0).2.2.1 4 a0 = some (a0 + 8) := by
  unfold iT
  rw [pr_n (by omega), pr_n (by omega), newa_r, new_n (by omega), pr_n (by omega), pr_n (by omega), newa_r, new_n (by omega), pr_n (by omega), pr_n (by omega), newa_r, new_n (by omega), pr_n (by omega), pr_n (by omega), newa_r, pr_n (by omega), newa_r, pr_n (by omega), newa_r, new_n (by omega), pr_n (by omega), pr_n (by omega), newa_r, pr_n (by omega), newa_r, new_n (by omega), pr_1]
theorem iT_r5_0 (a0 : Nat) : (iT a0).2.2.1 5 a0 = some (a0 + 11) := by
  unfold iT
  rw [pr_n (by omega), pr_n (by omega), newa_r, new_n (by omega), pr_n (by omega), pr_n (by omega), newa_r, new_n (by omega), pr_n (by omega), pr_n (by omega), newa_r, new_n (by omega), pr_n (by omega), pr_n (by omega), newa_r, pr_n (by omega), newa_r, pr_n (by omega), newa_r, new_n (by omega), pr_1]
theorem iT_r6_0 (a0 : Nat) : (iT a0).2.2.1 6 a0 = some (a0 + 14) := by
  unfold iT
  rw [pr_n (by omega), pr_n (by omega), newa_r, new_n (by omega), pr_n (by omega), pr_n (by omega), newa_r, new_n (by omega), pr_n (by omega), pr_n (by omega), newa_r, new_n (by omega), pr_1]
theorem iT_r7_0 (a0 : Nat) : (iT a0).2.2.1 7 a0 = some (a0 + 18) := by
  unfold iT
  rw [pr_n (by omega), pr_n (by omega), newa_r, new_n (by omega), pr_n (by omega), pr_n (by omega), newa_r, new_n (by omega), pr_1]
theorem iT_r8_0 (a0 : Nat) : (iT a0).2.2.1 8 a0 = some (a0 + 20) := by
  unfold iT
  rw [pr_n (by omega), pr_n (by omega), newa_r, new_n (by omega), pr_1]
theorem iT_r9_0 (a0 : Nat) : (iT a0).2.2.1 9 a0 = some (a0 + 22) := by
  unfold iT
  rw [pr_1]
theorem iT_r0_2 (a0 : Nat) : (iT a0).2.2.1 0 (a0 + 2) = some (a0 + 3) := by
  unfold iT
  rw [pr_n (by omega), pr_n (by omega), newa_r, new_n (by omega), pr_n (by omega), pr_n (by omega), newa_r, new_n (by omega), pr_n (by omega), pr_n (by omega), newa_r, new_n (by omega), pr_n (by omega), pr_n (by omega), newa_r, pr_n (by omega), newa_r, pr_n (by omega), newa_r, new_n (by omega), pr_n (by omega), pr_n (by omega), newa_r, pr_n (by omega), newa_r, new_n (by omega), pr_n (by omega), pr_n (by omega), newa_r, pr_n (by omega), newa_r, new_n (by omega), pr_n (by omega), pr_n (by omega), newa_r, new_n (by omega), pr_n (by omega), pr_n (by omega), newa_r, new_n (by omega), pr_n (by omega), pr_1]
theorem iT_r0_4 (a0 : Nat) : (iT a0).2.2.1 0 (a0 + 4) = some (a0 + 5) := by
  unfold iT
  rw [pr_n (by omega), pr_n (by omega), newa_r, new_n (by omega), pr_n (by omega), pr_n (by omega), newa_r, new_n (by omega), pr_n (by omega), pr_n (by omega), newa_r, new_n (by omega), pr_n (by omega), pr_n (by omega), newa_r, pr_n (by omega), newa_r, pr_n (by omega), newa_r, new_n (by omega), pr_n (by omega), pr_n (by omega), newa_r, pr_n (by omega), newa_r, new_n (by omega), pr_n (by omega), pr_n (by omega), newa_r, pr_n (by omega), newa_r, new_n (by omega), pr_n (by omega), pr_n (by omega), newa_r, new_n (by omega), pr_n (by omega), pr_1]
theorem iT_r0_6 (a0 : Nat) : (iT a0).2.2.1 0 (a0 + 6) = some (a0 + 7) := by
  unfold iT
  rw [pr_n (by omega), pr_n (by omega), newa_r, new_n (by omega), pr_n (by omega), pr_n (by omega), newa_r, new_n (by omega), pr_n (by omega), pr_n (by omega), newa_r, new_n (by omega), pr_n (by omega), pr_n (by omega), newa_r, pr_n (by omega), newa_r, pr_n (by omega), newa_r, new_n (by omega), pr_n (by omega), pr_n (by omega), newa_r, pr_n (by omega), newa_r, new_n (by omega), pr_n (by omega), pr_n (by omega), newa_r, pr_n (by omega), newa_r, new_n (by omega), pr_n (by omega), pr_1]
theorem iT_r0_8 (a0 : Nat) : (iT a0).2.2.1 0 (a0 + 8) = some (a0 + 9) := by
  unfold iT
  rw [pr_n (by omega), pr_n (by omega), newa_r, new_n (by omega), pr_n (by omega), pr_n (by omega), newa_r, new_n (by omega), pr_n (by omega), pr_n (by omega), newa_r, new_n (by omega), pr_n (by omega), pr_n (by omega), newa_r, pr_n (by omega), newa_r, pr_n (by omega), newa_r, new_n (by omega), pr_n (by omega), pr_n (by omega), newa_r, pr_n (by omega), newa_r, new_n (by omega), pr_n (by omega), pr_n (by omega), newa_r, pr_1]
theorem iT_r1_8 (a0 : Nat) : (iT a0).2.2.1 1 (a0 + 8) = some (a0 + 10) := by
  unfold iT
  rw [pr_n (by omega), pr_n (by omega), newa_r, new_n (by omega), pr_n (by omega), pr_n (by omega), newa_r, new_n (by omega), pr_n (by omega), pr_n (by omega), newa_r, new_n (by omega), pr_n (by omega), pr_n (by omega), newa_r, pr_n (by omega), newa_r, pr_n (by omega), newa_r, new_n (by omega), pr_n (by omega), pr_n (by omega), newa_r, pr_n (by omega), newa_r, new_n (by omega), pr_n (by omega), pr_1]
theorem iT_r0_11 (a0 : Nat) : (iT a0).2.2.1 0 (a0 + 11) = some (a0 + 12) := by
  unfold iT
  rw [pr_n (by omega), pr_n (by omega), newa_r, new_n (by omega), pr_n (by omega), pr_n (by omega), newa_r, new_n (by omega), pr_n (by omega), pr_n (by omega), newa_r, new_n (by omega), pr_n (by omega), pr_n (by omega), newa_r, pr_n (by omega), newa_r, pr_n (by omega), newa_r, new_n (by omega), pr_n (by omega), pr_n (by omega), newa_r, pr_1]
theorem iT_r1_11 (a0 : Nat) : (iT a0).2.2.1 1 (a0 + 11) = some (a0 + 13) := by
  unfold iT
  rw [pr_n (by omega), pr_n (by omega), newa_r, new_n (by omega), pr_n (by omega), pr_n (by omega), newa_r, new_n (by omega), pr_n (by omega), pr_n (by omega), newa_r, new_n (by omega), pr_n (by omega), pr_n (by omega), newa_r, pr_n (by omega), newa_r, pr_n (by omega), newa_r, new_n (by omega), pr_n (by omega), pr_1]
theorem iT_r0_14 (a0 : Nat) : (iT a0).2.2.1 0 (a0 + 14) = some (a0 + 15) := by
  unfold iT
  rw [pr_n (by omega), pr_n (by omega), newa_r, new_n (by omega), pr_n (by omega), pr_n (by omega), newa_r, new_n (by omega), pr_n (by omega), pr_n (by omega), newa_r, new_n (by omega), pr_n (by omega), pr_n (by omega), newa_r, pr_n (by omega), newa_r, pr_1]
theorem iT_r1_14 (a0 : Nat) : (iT a0).2.2.1 1 (a0 + 14) = some (a0 + 16) := by
  unfold iT
  rw [pr_n (by omega), pr_n (by omega), newa_r, new_n (by omega), pr_n (by omega), pr_n (by omega), newa_r, new_n (by omega), pr_n (by omega), pr_n (by omega), newa_r, new_n (by omega), pr_n (by omega), pr_n (by omega), newa_r, pr_1]
theorem iT_r2_14 (a0 : Nat) : (iT a0).2.2.1 2 (a0 + 14) = some (a0 + 17) := by
  unfold iT
  rw [pr_n (by omega), pr_n (by omega), newa_r, new_n (by omega), pr_n (by omega), pr_n (by omega), newa_r, new_n (by omega), pr_n (by omega), pr_n (by omega), newa_r, new_n (by omega), pr_n (by omega), pr_1]
theorem iT_r1_18 (a0 : Nat) : (iT a0).2.2.1 1 (a0 + 18) = some (a0 + 19) := by
  unfold iT
  rw [pr_n (by omega), pr_n (by omega), newa_r, new_n (by omega), pr_n (by omega), pr_n (by omega), newa_r, new_n (by omega), pr_n (by omega), pr_1]
theorem iT_r0_20 (a0 : Nat) : (iT a0).2.2.1 0 (a0 + 20) = some (a0 + 21) := by
  unfold iT
  rw [pr_n (by omega), pr_n (by omega), newa_r, new_n (by omega), pr_n (by omega), pr_1]
theorem iT_r1_22 (a0 : Nat) : (iT a0).2.2.1 1 (a0 + 22) = some (a0 + 23) := by
  unfold iT
  rw [pr_n (by omega), pr_1]
theorem iT_l1 (a0 : Nat) : (iT a0).2.2.2.1 (a0 + 1) = 9 := by
  unfold iT
  rw [pr_l, pr_l, newa_n (by omega), new_l, pr_l, pr_l, newa_n (by omega), new_l, pr_l, pr_l, newa_n (by omega), new_l, pr_l, pr_l, newa_n (by omega), pr_l, newa_n (by omega), pr_l, newa_n (by omega), new_l, pr_l, pr_l, newa_n (by omega), pr_l, newa_n (by omega), new_l, pr_l, pr_l, newa_n (by omega), pr_l, newa_n (by omega), new_l, pr_l, pr_l, newa_n (by omega), new_l, pr_l, pr_l, newa_n (by omega), new_l, pr_l, pr_l, newa_n (by omega), new_l, pr_l, newa_1]
theorem iT_l3 (a0 : Nat) : (iT a0).2.2.2.1 (a0 + 3) = 2000 := by
  unfold iT
  rw [pr_l, pr_l, newa_n (by omega), new_l, pr_l, pr_l, newa_n (by omega), new_l, pr_l, pr_l, newa_n (by omega), new_l, pr_l, pr_l, newa_n (by omega), pr_l, newa_n (by omega), pr_l, newa_n (by omega), new_l, pr_l, pr_l, newa_n (by omega), pr_l, newa_n (by omega), new_l, pr_l, pr_l, newa_n (by omega), pr_l, newa_n (by omega), new_l, pr_l, pr_l, newa_n (by omega), new_l, pr_l, pr_l, newa_n (by omega), new_l, pr_l, pr_l, newa_1]
theorem iT_l5 (a0 : Nat) : (iT a0).2.2.2.1 (a0 + 5) = 115 := by
  unfold iT
  rw [pr_l, pr_l, newa_n (by omega), new_l, pr_l, pr_l, newa_n (by omega), new_l, pr_l, pr_l, newa_n (by omega), new_l, pr_l, pr_l, newa_n (by omega), pr_l, newa_n (by omega), pr_l, newa_n (by omega), new_l, pr_l, pr_l, newa_n (by omega), pr_l, newa_n (by omega), new_l, pr_l, pr_l, newa_n (by omega), pr_l, newa_n (by omega), new_l, pr_l, pr_l, newa_n (by omega), new_l, pr_l, pr_l, newa_1]
theorem iT_l7 (a0 : Nat) : (iT a0).2.2.2.1 (a0 + 7) = 78 := by
  unfold iT
  rw [pr_l, pr_l, newa_n (by omega), new_l, pr_l, pr_l, newa_n (by omega), new_l, pr_l, pr_l, newa_n (by omega), new_l, pr_l, pr_l, newa_n (by omega), pr_l, newa_n (by omega), pr_l, newa_n (by omega), new_l, pr_l, pr_l, newa_n (by omega), pr_l, newa_n (by omega), new_l, pr_l, pr_l, newa_n (by omega), pr_l, newa_n (by omega), new_l, pr_l, pr_l, newa_1]
theorem iT_l9 (a0 : Nat) : (iT a0).2.2.2.1 (a0 + 9) = 78 := by
  unfold iT
  rw [pr_l, pr_l, newa_n (by omega), new_l, pr_l, pr_l, newa_n (by omega), new_l, pr_l, pr_l, newa_n (by omega), new_l, pr_l, pr_l, newa_n (by omega), pr_l, newa_n (by omega), pr_l, newa_n (by omega), new_l, pr_l, pr_l, newa_n (by omega), pr_l, newa_n (by omega), new_l, pr_l, pr_l, newa_n (by omega), pr_l, newa_1]
theorem iT_l10 (a0 : Nat) : (iT a0).2.2.2.1 (a0 + 10) = 80 := by
  unfold iT
  rw [pr_l, pr_l, newa_n (by omega), new_l, pr_l, pr_l, newa_n (by omega), new_l, pr_l, pr_l, newa_n (by omega), new_l, pr_l, pr_l, newa_n (by omega), pr_l, newa_n (by omega), pr_l, newa_n (by omega), new_l, pr_l, pr_l, newa_n (by omega), pr_l, newa_n (by omega), new_l, pr_l, pr_l, newa_1]
theorem iT_l12 (a0 : Nat) : (iT a0).2.2.2.1 (a0 + 12) = 18 := by
  unfold iT
  rw [pr_l, pr_l, newa_n (by omega), new_l, pr_l, pr_l, newa_n (by omega), new_l, pr_l, pr_l, newa_n (by omega), new_l, pr_l, pr_l, newa_n (by omega), pr_l, newa_n (by omega), pr_l, newa_n (by omega), new_l, pr_l, pr_l, newa_n (by omega), pr_l, newa_1]
theorem iT_l13 (a0 : Nat) : (iT a0).2.2.2.1 (a0 + 13) = 18 := by
  unfold iT
  rw [pr_l, pr_l, newa_n (by omega), new_l, pr_l, pr_l, newa_n (by omega), new_l, pr_l, pr_l, newa_n (by omega), new_l, pr_l, pr_l, newa_n (by omega), pr_l, newa_n (by omega), pr_l, newa_n (by omega), new_l, pr_l, pr_l, newa_1]
theorem iT_l15 (a0 : Nat) : (iT a0).2.2.2.1 (a0 + 15) = 11 := by
  unfold iT
  rw [pr_l, pr_l, newa_n (by omega), new_l, pr_l, pr_l, newa_n (by omega), new_l, pr_l, pr_l, newa_n (by omega), new_l, pr_l, pr_l, newa_n (by omega), pr_l, newa_n (by omega), pr_l, newa_1]
theorem iT_l16 (a0 : Nat) : (iT a0).2.2.2.1 (a0 + 16) = 11 := by
  unfold iT
  rw [pr_l, pr_l, newa_n (by omega), new_l, pr_l, pr_l, newa_n (by omega), new_l, pr_l, pr_l, newa_n (by omega), new_l, pr_l, pr_l, newa_n (by omega), pr_l, newa_1]
theorem iT_l17 (a0 : Nat) : (iT a0).2.2.2.1 (a0 + 17) = 11 := by
  unfold iT
  rw [pr_l, pr_l, newa_n (by omega), new_l, pr_l, pr_l, newa_n (by omega), new_l, pr_l, pr_l, newa_n (by omega), new_l, pr_l, pr_l, newa_1]
theorem iT_l19 (a0 : Nat) : (iT a0).2.2.2.1 (a0 + 19) = 103 := by
  unfold iT
  rw [pr_l, pr_l, newa_n (by omega), new_l, pr_l, pr_l, newa_n (by omega), new_l, pr_l, pr_l, newa_1]
theorem iT_l21 (a0 : Nat) : (iT a0).2.2.2.1 (a0 + 21) = 40 := by
  unfold iT
  rw [pr_l, pr_l, newa_n (by omega), new_l, pr_l, pr_l, newa_1]
theorem iT_l23 (a0 : Nat) : (iT a0).2.2.2.1 (a0 + 23) = 15 := by
  unfold iT
  rw [pr_l, pr_l, newa_1]
theorem iT_refs (a0 : Nat) : ∀ q ∈ sh_refs, (iT a0).2.2.1 q.1 (a0 + q.2.1) = some (a0 + q.2.2) := by
  intro q hq
  simp only [sh_refs, List.mem_cons, List.not_mem_nil, or_false] at hq
  rcases hq with rfl | rfl | rfl | rfl | rfl | rfl | rfl | rfl | rfl | rfl | rfl | rfl | rfl | rfl | rfl | rfl | rfl | rfl | rfl | rfl | rfl | rfl | rfl
  · exact iT_r0_0 a0
  · exact iT_r1_0 a0
  · exact iT_r2_0 a0
  · exact iT_r3_0 a0
  · exact iT_r4_0 a0
  · exact iT_r5_0 a0
  · exact iT_r6_0 a0
  · exact iT_r7_0 a0
  · exact iT_r8_0 a0
  · exact iT_r9_0 a0
  · exact iT_r0_2 a0
  · exact iT_r0_4 a0
  · exact iT_r0_6 a0
  · exact iT_r0_8 a0
  · exact iT_r1_8 a0
  · exact iT_r0_11 a0
  · exact iT_r1_11 a0
  · exact iT_r0_14 a0
  · exact iT_r1_14 a0
  · exact iT_r2_14 a0
  · exact iT_r1_18 a0
  · exact iT_r0_20 a0
  · exact iT_r1_22 a0
theorem iT_lens (a0 : Nat) : ∀ q ∈ sh_lens, (iT a0).2.2.2.1 (a0 + q.1) = q.2 := by
  intro q hq
  simp only [sh_lens, List.mem_cons, List.not_mem_nil, or_false] at hq
  rcases hq with rfl | rfl | rfl | rfl | rfl | rfl | rfl | rfl | rfl | rfl | rfl | rfl | rfl | rfl
  · exact iT_l1 a0
  · exact iT_l3 a0
  · exact iT_l5 a0
  · exact iT_l7 a0
  · exact iT_l9 a0
  · exact iT_l10 a0
  · exact iT_l12 a0
  · exact iT_l13 a0
  · exact iT_l15 a0
  · exact iT_l16 a0
  · exact iT_l17 a0
  · exact iT_l19 a0
  · exact iT_l21 a0
  · exact iT_l23 a0
theorem iT_rows (a0 x i : Nat) : (iT a0).2.2.2.2 x i = none := by
  simp only [iT, gh_pr, gh_newa, gh_new, lw_T0, ite_self]
theorem iT_sh (a0 : Nat) : sh a0 (iT a0) := ⟨iT_refs a0, iT_lens a0, ⟨(fun i r h => by rw [iT_rows] at h; cases h), (fun i j r h => by rw [iT_rows] at h; cases h)⟩, ⟨(fun i r h => by rw [iT_rows] at h; cases h), (fun i j r h => by rw [iT_rows] at h; cases h)⟩⟩
theorem cn_none : ∀ n, cn (fun _ => none) n = n := by
  intro n
  induction n with
  | zero => rfl
  | succ n ih =>
    unfold cn
    rw [ih, if_pos rfl]
theorem iT_wt (a0 : Nat) : wt a0 (iT a0) = 182 := by
  unfold wt
  rw [cn_eq (f := fun _ => none) 40 (fun i _ => iT_rows a0 _ i), cn_eq (f := fun _ => none) 11 (fun i _ => iT_rows a0 _ i), cn_none, cn_none]
theorem nv0 (z : Nat) : gh_nv lw_V0 z = lw_V0 := by
  unfold gh_nv lw_V0
  ext1
  · funext k x
    simp
  · rfl
theorem nva0 (z : Nat) : gh_nva lw_V0 z = lw_V0 := by
  unfold gh_nva lw_V0
  ext1
  · rfl
  · funext x i
    by_cases c : x = z
    · simp [c]
    · simp [c]
/-- noughts, but for rooms and the fix -/
def iZ (a0 : Nat) (V : gh_V) : Prop := (∀ k a, (k, a) ≠ (0, a0 + 18) → (k, a) ≠ (0, a0 + 22) → V.1 k a = 0) ∧ (∀ d i, d ≠ a0 + 12 → V.2 d i = 0) ∧ ∀ i, i < 18 → V.2 (a0 + 12) i = -2147483648
section IN
variable {a0 : Nat} {V : gh_V}
theorem iZ.nv (h : iZ a0 V) (z : Nat) : iZ a0 (gh_nv V z) := ⟨fun k a h1 h2 => by
  show (if a = z then 0 else V.1 k a) = 0
  by_cases c : a = z
  · rw [if_pos c]
  · rw [if_neg c]; exact h.1 k a h1 h2, h.2.1, h.2.2⟩
theorem iZ.nva (h : iZ a0 V) {z : Nat} (hz : z ≠ a0 + 12) : iZ a0 (gh_nva V z) := by
  refine ⟨h.1, fun d i hd => ?_, fun i hi => ?_⟩
  · show (if d = z then (fun _ => 0) else V.2 d) i = 0
    by_cases c : d = z
    · rw [if_pos c]
    · rw [if_neg c]; exact h.2.1 d i hd
  · show (if a0 + 12 = z then (fun _ => 0) else V.2 (a0 + 12)) i = _
    rw [if_neg (fun c => hz c.symm)]
    exact h.2.2 i hi
theorem e6i {T : gh_T} {V : gh_V} {z a : Nat} : f_X6_init T V z a 2000 = some (gh_pr (gh_newa T z 9 2000) 0 a (some z), gh_nva V z, z + 1) ∧ f_X6_init T V z a 115 = some (gh_pr (gh_newa T z 9 115) 0 a (some z), gh_nva V z, z + 1) := by
  unfold f_X6_init f_X6_init_14
  rw [if_pos (by decide), if_pos (by decide), sv_g_t (by decide), sv_g_t (by decide)]
  exact ⟨rfl, rfl⟩
theorem e0i {T : gh_T} {V : gh_V} {z a : Nat} : f_X0_init T V z a 3240 = some (gh_pr (gh_newa T z 10 103) 1 a (some z), gh_nva (gh_pf V 0 a 3240) z, z + 1) ∧ f_X0_init T V z a 424 = some (gh_pr (gh_newa T z 10 15) 1 a (some z), gh_nva (gh_pf V 0 a 424) z, z + 1) := by
  unfold f_X0_init f_X0_init_14
  rw [if_pos (by decide), if_pos (by decide), pf_1, pf_1, sv_g_t (by decide), sv_g_t (by decide)]
  exact ⟨rfl, rfl⟩
theorem init_g {T : gh_T} {V : gh_V} {z a0 : Nat} {T1 T2 T3 T4 T5 T6 T7 T8 T9 : gh_T} {V1 V2 V3 V4 V5 V6 V7 V8 V9 : gh_V} {z1 z2 z3 z4 z5 z6 z7 z8 z9 : Nat}
    (h1 : f_X6_init (gh_new (gh_pr (gh_newa T z 10 9) 0 a0 (some z)) (z + 1) 6) (gh_nv (gh_nva V z) (z + 1)) (z + 1 + 1) (z + 1) 2000 = some (T1, V1, z1))
    (h2 : f_X6_init (gh_new (gh_pr T1 1 a0 (some (z + 1))) z1 6) (gh_nv V1 z1) (z1 + 1) z1 115 = some (T2, V2, z2))
    (h3 : f_X5_init (gh_new (gh_pr T2 2 a0 (some z1)) z2 5) (gh_nv V2 z2) (z2 + 1) z2 = some (T3, V3, z3))
    (h4 : f_X1_init (gh_new (gh_pr T3 3 a0 (some z2)) z3 1) (gh_nv V3 z3) (z3 + 1) z3 = some (T4, V4, z4))
    (h5 : f_X4_init (gh_new (gh_pr T4 4 a0 (some z3)) z4 4) (gh_nv V4 z4) (z4 + 1) z4 = some (T5, V5, z5))
    (h6 : f_X3_init (gh_new (gh_pr T5 5 a0 (some z4)) z5 3) (gh_nv V5 z5) (z5 + 1) z5 = some (T6, V6, z6))
    (h7 : f_X0_init (gh_new (gh_pr T6 6 a0 (some z5)) z6 0) (gh_nv V6 z6) (z6 + 1) z6 3240 = some (T7, V7, z7))
    (h8 : f_X2_init (gh_new (gh_pr T7 7 a0 (some z6)) z7 2) (gh_nv V7 z7) (z7 + 1) z7 = some (T8, V8, z8))
    (h9 : f_X0_init (gh_new (gh_pr T8 8 a0 (some z7)) z8 0) (gh_nv V8 z8) (z8 + 1) z8 424 = some (T9, V9, z9)) : f_X8_init T V z a0 = some (gh_pr T9 9 a0 (some z8), V9, z9) := by
  unfold f_X8_init
  rw [show (9 : Int32).toNatClampNeg = 9 from rfl, h1, Option.bind_some]
  dsimp only
  rw [h2, Option.bind_some]
  dsimp only
  rw [h3, Option.bind_some]
  dsimp only
  rw [h4, Option.bind_some]
  dsimp only
  rw [h5, Option.bind_some]
  dsimp only
  rw [h6, Option.bind_some]
  dsimp only
  rw [h7, Option.bind_some]
  dsimp only
  rw [h8, Option.bind_some]
  dsimp only
  rw [h9, Option.bind_some]
/-- noughts -/
def Wz (V : gh_V) : Prop := (∀ k a, V.1 k a = 0) ∧ ∀ d i, V.2 d i = 0
theorem Wz.nv {V : gh_V} (h : Wz V) (z : Nat) : Wz (gh_nv V z) := ⟨fun k a => by
  show (if a = z then 0 else V.1 k a) = 0
  by_cases c : a = z
  · rw [if_pos c]
  · rw [if_neg c]; exact h.1 k a, h.2⟩
theorem Wz.nva {V : gh_V} (h : Wz V) (z : Nat) : Wz (gh_nva V z) := ⟨h.1, fun d i => by
  show (if d = z then (fun _ => 0) else V.2 d) i = 0
  by_cases c : d = z
  · rw [if_pos c]
  · rw [if_neg c]; exact h.2 d i⟩
theorem init_s (a0 : Nat) : ∃ V, f_X8_init (gh_new lw_T0 a0 8) (gh_nv lw_V0 a0) (a0 + 1) a0 = some (iT a0, V, a0 + 24) ∧ iZ a0 V ∧ V.1 0 (a0 + 22) = 424 := by
  have w0 : Wz (gh_nv lw_V0 a0) := Wz.nv ⟨fun _ _ => rfl, fun _ _ => rfl⟩ a0
  obtain ⟨T1, t1⟩ : ∃ U : gh_T, U = gh_pr (gh_newa (gh_new (gh_pr (gh_newa (gh_new lw_T0 a0 8) (a0 + 1) 10 9) 0 a0 (some (a0 + 1))) (a0 + 1 + 1) 6) (a0 + 1 + 1 + 1) 9 2000) 0 (a0 + 1 + 1) (some (a0 + 1 + 1 + 1)) := ⟨_, rfl⟩
  obtain ⟨V1, v1⟩ : ∃ U : gh_V, U = gh_nva (gh_nv (gh_nva (gh_nv lw_V0 a0) (a0 + 1)) (a0 + 1 + 1)) (a0 + 1 + 1 + 1) := ⟨_, rfl⟩
  have h1 : f_X6_init (gh_new (gh_pr (gh_newa (gh_new lw_T0 a0 8) (a0 + 1) 10 9) 0 a0 (some (a0 + 1))) (a0 + 1 + 1) 6) (gh_nv (gh_nva (gh_nv lw_V0 a0) (a0 + 1)) (a0 + 1 + 1)) (a0 + 1 + 1 + 1) (a0 + 1 + 1) 2000 = some (T1, V1, a0 + 4) := by rw [t1, v1]; exact e6i.1
  have w1 : Wz V1 := by rw [v1]; exact ((w0.nva _).nv _).nva _
  obtain ⟨T2, t2⟩ : ∃ U : gh_T, U = gh_pr (gh_newa (gh_new (gh_pr T1 1 a0 (some (a0 + 1 + 1))) (a0 + 4) 6) (a0 + 4 + 1) 9 115) 0 (a0 + 4) (some (a0 + 4 + 1)) := ⟨_, rfl⟩
  obtain ⟨V2, v2⟩ : ∃ U : gh_V, U = gh_nva (gh_nv V1 (a0 + 4)) (a0 + 4 + 1) := ⟨_, rfl⟩
  have h2 : f_X6_init (gh_new (gh_pr T1 1 a0 (some (a0 + 1 + 1))) (a0 + 4) 6) (gh_nv V1 (a0 + 4)) (a0 + 4 + 1) (a0 + 4) 115 = some (T2, V2, a0 + 6) := by rw [t2, v2]; exact e6i.2
  have w2 : Wz V2 := by rw [v2]; exact (w1.nv _).nva _
  obtain ⟨T3, t3⟩ : ∃ U : gh_T, U = gh_pr (gh_newa (gh_new (gh_pr T2 2 a0 (some (a0 + 4))) (a0 + 6) 5) (a0 + 6 + 1) 9 78) 0 (a0 + 6) (some (a0 + 6 + 1)) := ⟨_, rfl⟩
  obtain ⟨V3, v3⟩ : ∃ U : gh_V, U = gh_nva (gh_nv V2 (a0 + 6)) (a0 + 6 + 1) := ⟨_, rfl⟩
  have h3 : f_X5_init (gh_new (gh_pr T2 2 a0 (some (a0 + 4))) (a0 + 6) 5) (gh_nv V2 (a0 + 6)) (a0 + 6 + 1) (a0 + 6) = some (T3, V3, a0 + 8) := by rw [t3, v3]; rfl
  have w3 : Wz V3 := by rw [v3]; exact (w2.nv _).nva _
  obtain ⟨T4, t4⟩ : ∃ U : gh_T, U = gh_pr (gh_newa (gh_pr (gh_newa (gh_new (gh_pr T3 3 a0 (some (a0 + 6))) (a0 + 8) 1) (a0 + 8 + 1) 9 78) 0 (a0 + 8) (some (a0 + 8 + 1))) (a0 + 8 + 1 + 1) 10 80) 1 (a0 + 8) (some (a0 + 8 + 1 + 1)) := ⟨_, rfl⟩
  obtain ⟨V4, v4⟩ : ∃ U : gh_V, U = gh_nva (gh_nva (gh_nv V3 (a0 + 8)) (a0 + 8 + 1)) (a0 + 8 + 1 + 1) := ⟨_, rfl⟩
  have h4 : f_X1_init (gh_new (gh_pr T3 3 a0 (some (a0 + 6))) (a0 + 8) 1) (gh_nv V3 (a0 + 8)) (a0 + 8 + 1) (a0 + 8) = some (T4, V4, a0 + 11) := by rw [t4, v4]; rfl
  have w4 : Wz V4 := by rw [v4]; exact ((w3.nv _).nva _).nva _
  obtain ⟨T5, t5⟩ : ∃ U : gh_T, U = gh_pr (gh_newa (gh_pr (gh_newa (gh_new (gh_pr T4 4 a0 (some (a0 + 8))) (a0 + 11) 4) (a0 + 11 + 1) 10 18) 0 (a0 + 11) (some (a0 + 11 + 1))) (a0 + 11 + 1 + 1) 10 18) 1 (a0 + 11) (some (a0 + 11 + 1 + 1)) := ⟨_, rfl⟩
  have l12 : T5.2.2.2.1 (a0 + 12) = 18 := by rw [t5, pr_l, newa_n (by omega), pr_l]; exact newa_1
  have r12 : T5.2.2.1 0 (a0 + 11) = some (a0 + 12) := by rw [t5, pr_n (by omega), newa_r, pr_1]
  obtain ⟨V5, d1, d2, d3, d4⟩ := fill_s (T := T5) (V := gh_nva (gh_nva (gh_nv V4 (a0 + 11)) (a0 + 11 + 1)) (a0 + 11 + 1 + 1)) (-2147483648) l12 (by decide)
  have w5 := ((w4.nv (a0 + 11)).nva (a0 + 11 + 1)).nva (a0 + 11 + 1 + 1)
  have z5 : iZ a0 V5 := ⟨fun k a _ _ => by rw [d2]; exact w5.1 k a, fun d i hd => by rw [d3 d hd]; exact w5.2 d i, d4⟩
  have h5 : f_X4_init (gh_new (gh_pr T4 4 a0 (some (a0 + 8))) (a0 + 11) 4) (gh_nv V4 (a0 + 11)) (a0 + 11 + 1) (a0 + 11) = some (T5, V5, a0 + 14) := by
    have e : f_X4_init (gh_new (gh_pr T4 4 a0 (some (a0 + 8))) (a0 + 11) 4) (gh_nv V4 (a0 + 11)) (a0 + 11 + 1) (a0 + 11) = (T5.2.2.1 0 (a0 + 11)).bind (fun b21 => (f_J7_fill_53178 T5 (gh_nva (gh_nva (gh_nv V4 (a0 + 11)) (a0 + 11 + 1)) (a0 + 11 + 1 + 1)) b21 (-2147483648)).bind (fun q26 => some (T5, q26, a0 + 11 + 1 + 1 + 1))) := by
      unfold f_X4_init
      rw [show (18 : Int32).toNatClampNeg = 18 from rfl, ← t5]
    rw [e, r12, Option.bind_some, d1, Option.bind_some]
  obtain ⟨T6, t6⟩ : ∃ U : gh_T, U = gh_pr (gh_newa (gh_pr (gh_newa (gh_pr (gh_newa (gh_new (gh_pr T5 5 a0 (some (a0 + 11))) (a0 + 14) 3) (a0 + 14 + 1) 12 11) 0 (a0 + 14) (some (a0 + 14 + 1))) (a0 + 14 + 1 + 1) 10 11) 1 (a0 + 14) (some (a0 + 14 + 1 + 1))) (a0 + 14 + 1 + 1 + 1) 10 11) 2 (a0 + 14) (some (a0 + 14 + 1 + 1 + 1)) := ⟨_, rfl⟩
  obtain ⟨V6, v6⟩ : ∃ U : gh_V, U = gh_nva (gh_nva (gh_nva (gh_nv V5 (a0 + 14)) (a0 + 14 + 1)) (a0 + 14 + 1 + 1)) (a0 + 14 + 1 + 1 + 1) := ⟨_, rfl⟩
  have h6 : f_X3_init (gh_new (gh_pr T5 5 a0 (some (a0 + 11))) (a0 + 14) 3) (gh_nv V5 (a0 + 14)) (a0 + 14 + 1) (a0 + 14) = some (T6, V6, a0 + 18) := by rw [t6, v6]; rfl
  obtain ⟨T7, t7⟩ : ∃ U : gh_T, U = gh_pr (gh_newa (gh_new (gh_pr T6 6 a0 (some (a0 + 14))) (a0 + 18) 0) (a0 + 18 + 1) 10 103) 1 (a0 + 18) (some (a0 + 18 + 1)) := ⟨_, rfl⟩
  obtain ⟨V7, v7⟩ : ∃ U : gh_V, U = gh_nva (gh_pf (gh_nv V6 (a0 + 18)) 0 (a0 + 18) 3240) (a0 + 18 + 1) := ⟨_, rfl⟩
  have h7 : f_X0_init (gh_new (gh_pr T6 6 a0 (some (a0 + 14))) (a0 + 18) 0) (gh_nv V6 (a0 + 18)) (a0 + 18 + 1) (a0 + 18) 3240 = some (T7, V7, a0 + 20) := by rw [t7, v7]; exact e0i.1
  obtain ⟨T8, t8⟩ : ∃ U : gh_T, U = gh_pr (gh_newa (gh_new (gh_pr T7 7 a0 (some (a0 + 18))) (a0 + 20) 2) (a0 + 20 + 1) 13 40) 0 (a0 + 20) (some (a0 + 20 + 1)) := ⟨_, rfl⟩
  obtain ⟨V8, v8⟩ : ∃ U : gh_V, U = gh_nva (gh_nv V7 (a0 + 20)) (a0 + 20 + 1) := ⟨_, rfl⟩
  have h8 : f_X2_init (gh_new (gh_pr T7 7 a0 (some (a0 + 18))) (a0 + 20) 2) (gh_nv V7 (a0 + 20)) (a0 + 20 + 1) (a0 + 20) = some (T8, V8, a0 + 22) := by rw [t8, v8]; rfl
  obtain ⟨T9, t9⟩ : ∃ U : gh_T, U = gh_pr (gh_newa (gh_new (gh_pr T8 8 a0 (some (a0 + 20))) (a0 + 22) 0) (a0 + 22 + 1) 10 15) 1 (a0 + 22) (some (a0 + 22 + 1)) := ⟨_, rfl⟩
  obtain ⟨V9, v9⟩ : ∃ U : gh_V, U = gh_nva (gh_pf (gh_nv V8 (a0 + 22)) 0 (a0 + 22) 424) (a0 + 22 + 1) := ⟨_, rfl⟩
  have h9 : f_X0_init (gh_new (gh_pr T8 8 a0 (some (a0 + 20))) (a0 + 22) 0) (gh_nv V8 (a0 + 22)) (a0 + 22 + 1) (a0 + 22) 424 = some (T9, V9, a0 + 24) := by rw [t9, v9]; exact e0i.2
  have hfin := init_g (a0 := a0) (T := gh_new lw_T0 a0 8) (V := gh_nv lw_V0 a0) (z := a0 + 1) h1 h2 h3 h4 h5 h6 h7 h8 h9
  refine ⟨V9, hfin.trans ?_, ?_, ?_⟩
  · rw [t9, t8, t7, t6, t5, t4, t3, t2, t1]
    rfl
  · have p : ∀ (W : gh_V) (x : Int32) (k : Nat), (k = 18 ∨ k = 22) → iZ a0 W → iZ a0 (gh_pf W 0 (a0 + k) x) := by
      intro W x k hk hW
      refine ⟨fun j a h1 h2 => ?_, hW.2.1, hW.2.2⟩
      rw [pf_n]
      · exact hW.1 j a h1 h2
      · rintro ⟨rfl, rfl⟩
        rcases hk with rfl | rfl
        · exact h1 rfl
        · exact h2 rfl
    rw [v9, v8, v7, v6]
    exact (p _ _ 22 (Or.inr rfl) (((((p _ _ 18 (Or.inl rfl) ((((((z5.nv _).nva (by omega)).nva (by omega)).nva (by omega))).nv _)).nva (by omega)).nv _).nva (by omega)).nv _)).nva (by omega)
  · rw [v9]
    show (gh_pf _ 0 (a0 + 22) 424).1 0 (a0 + 22) = 424
    rw [pf_1]
end IN
/-! ===== PURE: the law ===== -/
def lwI (a0 : Nat) : lw_R := fun T V z B φ => Rel a0 T V B ∧ GZ a0 T z ∧ wt a0 T ≤ φ
theorem init_rel {a0 : Nat} {V : gh_V} {B : md_B} (hz : iZ a0 V) (h424 : V.1 0 (a0 + 22) = 424) (hB : f_X9_forget md_B0 = some B) : Rel a0 (iT a0) V B := by
  obtain ⟨B', b1, b2, b3, b4, b5, b6, b7, b8⟩ := fg_s md_B0
  rw [hB] at b1
  cases b1
  obtain ⟨z1, z2, z3⟩ := hz
  have f0 : ∀ k, k ∉ [5, 7, 28, 27] → B.1 k = 0 := fun k hk => by rw [b2.1 k hk]; rfl
  refine ⟨iT_sh a0, ⟨0, by decide, z1 _ _ (by simp) (by simp), f0 _ (by simp), fun i hi => by omega⟩, ⟨0, by decide, z1 _ _ (by simp) (by simp), f0 _ (by simp), fun i hi => by omega⟩, fun i hi => ?_, ⟨?_, Or.inl (z1 _ _ (by simp) (by simp))⟩, fun i hi => ?_, ⟨fun i r hr => ?_, fun i hi => ⟨?_, ?_, Or.inl (b8 i hi)⟩⟩, Or.inl ⟨b5, z1 _ _ (by simp) (by simp)⟩, ⟨0, by decide, z1 _ _ (by simp) (by simp), b4, fun i hi => by omega⟩, h424, f0 _ (by simp)⟩
  · rw [z2 _ _ (by omega), b6 i hi]
  · rw [z1 _ _ (by simp) (by simp), b3]
  · rw [z3 i hi, b7 i hi]
  · rw [iT_rows] at hr
    cases hr
  · rw [z2 _ _ (by omega), b8 i hi]
  · rw [z2 _ _ (by omega), b2.2 21 (by simp)]
    rfl
theorem lw_sim (a0 : Nat) : lw_Sim a0 (lwI a0) := by
  refine ⟨fun T V z B φ h => ⟨h.2.1.1, h.2.1.2.1, h.2.1.2.2.1⟩, fun T V z B φ z' h hz => ⟨h.1, ⟨h.2.1.1, fun a ha => Nat.lt_of_lt_of_le (h.2.1.2.1 a ha) hz, h.2.1.2.2.1, Nat.le_trans h.2.1.2.2.2 hz⟩, h.2.2⟩, ?_, ?_, ?_, ?_, ?_, ?_, ?_, ?_, ?_, ?_, ?_, ?_, ?_⟩
  · intro T V z B φ x1 x2 x3 x4 x5 h
    obtain ⟨q, r, e1, e2, e3, e4⟩ := s_feed h.1 x1 x2 x3 x4 x5
    exact ⟨q, r, e1, e2, e3, e4, h.2⟩
  · intro T V z B φ x1 h
    obtain ⟨q, r, e1, e2, e3, e4⟩ := s_end h.1 x1
    exact ⟨q, r, e1, e2, e3, e4, h.2⟩
  · intro T V z B φ h
    obtain ⟨q, r, e1, e2, e3, e4, e5, e6, e7⟩ := s_stream h.1 h.2.1
    have := h.2.2
    exact ⟨q, r, φ - (q.2.2.2 - z), e1, e2, e3, ⟨e4, e5, by omega⟩, e6, by omega⟩
  · intro T V z B φ x1 h
    obtain ⟨q, r, e1, e2, e3, e4⟩ := s_count h.1 x1
    exact ⟨q, r, e1, e2, e3, e4, h.2⟩
  · intro T V z B φ x1 h
    obtain ⟨q, r, u, e1, e2, e3, e4, e5, e6, e7⟩ := s_fix h.1 x1
    exact ⟨q, r, u, e1, e2, e3, e4, e5, ⟨e6, h.2⟩, e7⟩
  · intro T V z B φ x1 h
    obtain ⟨q, r, e1, e2, e3, e4⟩ := s_find h.1 x1
    exact ⟨q, r, e1, e2, e3, e4, h.2⟩
  · intro T V z B φ x1 x2 h
    obtain ⟨q, r, u, e1, e2, e3, e4, e5, e6, e7⟩ := s_vessel h.1 x1 x2
    exact ⟨q, r, u, e1, e2, e3, e4, e5, ⟨e6, h.2⟩, e7⟩
  · intro T V z B φ x1 x2 x3 h
    obtain ⟨q, r, e1, e2, e3, e4⟩ := s_letter h.1 x1 x2 x3
    exact ⟨q, r, e1, e2, e3, e4, h.2⟩
  · intro T V z B φ x1 x2 h
    obtain ⟨q, r, u, e1, e2, e3, e4, e5, e6, e7⟩ := s_bits h.1 x1 x2
    exact ⟨q, r, u, e1, e2, e3, e4, e5, ⟨e6, h.2⟩, e7⟩
  · intro T V z B φ x1 x2 x3 h
    obtain ⟨q, r, u, e1, e2, e3, e4, e5, e6⟩ := s_send h.1 x1 x2 x3
    exact ⟨q, r, u, e1, e2, e3, e4, e5, e6, h.2⟩
  · intro T V z B φ x1 h
    obtain ⟨q, r, e1, e2, e3, e4⟩ := s_out h.1 x1
    exact ⟨q, r, e1, e2, e3, e4, h.2⟩
  · intro T V z B φ h
    obtain ⟨q, r, e1, e2, e3, e4⟩ := s_again h.1
    exact ⟨q, r, e1, e2, e3, e4, h.2⟩
  · intro T V z B φ h
    obtain ⟨q, r, e1, e2, e3⟩ := s_clear h.1
    exact ⟨q, r, e1, e2, e3, h.2⟩
theorem lw_pure : lw_Pure := by
  intro a0
  obtain ⟨V, i1, i2, i3⟩ := init_s a0
  obtain ⟨B, b1, -⟩ := fg_s md_B0
  have o0 : gh_is (gh_new lw_T0 a0 8) a0 8 := gh_is.mk
  have x0 := gh_X.new (z := a0) (c := 8) lw_T0_ok lw_T0_fr (by decide)
  have x1 := e_X8_init _ _ _ _ _ i1 x0.2.1 x0.2.2.1 o0
  refine ⟨lwI a0, _, B, 182, lw_sim a0, i1, b1, ⟨init_rel i2 i3 b1, ⟨x1.2.1, x1.2.2.1, x1.2.2.2.1 _ _ o0, Nat.le_refl _⟩, Nat.le_of_eq (iT_wt a0)⟩, by decide⟩
