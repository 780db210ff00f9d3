/-! ===== PURE: a part, read by the reference ===== -/
section PR
variable {a0 m nf : Nat} {s p : Nat → Nat} {T : gh_T} {V : gh_V} {B : md_B}
theorem br_st {b : Bool} (S : Option Int32) (hb : B.1 14 = bi b) : ∃ x B', br B S = (x, B') ∧ cb [14] [] B B' ∧ B'.1 14 = bi (b && S.isSome) ∧ (∀ y, S = some y → x = y) ∧ (S = none → x = -2147483648) := by
  cases S with
  | none => exact ⟨_, _, rfl, cb.rf.pf (by simp), (by rw [bf_1, Option.isSome_none, Bool.and_false]; rfl), (fun y hy => by cases hy), fun _ => rfl⟩
  | some y => exact ⟨_, _, rfl, cb.rf, (by rw [Option.isSome_some, Bool.and_true]; exact hb), (fun z hz => by cases hz; rfl), (fun h => by cases h)⟩
theorem num_d {f : Nat} (h : dg s p f) : S_num s p f 1 = some (Int32.ofNat (s (p f) - 48)) := by
  rw [num1, if_neg (by have := h.1; omega), if_pos (show fl p f = 1 ∧ isd (s (p f)) from h)]
theorem num_n {f : Nat} (hd : ¬ dg s p f) : (fl p f = 0 ∧ S_num s p f 1 = some (-2147483648)) ∨ (fl p f ≠ 0 ∧ S_num s p f 1 = none) := by
  by_cases c : fl p f = 0
  · exact Or.inl ⟨c, by rw [num1, if_pos c]⟩
  · exact Or.inr ⟨c, by rw [num1, if_neg c, if_neg (show ¬ (fl p f = 1 ∧ isd (s (p f))) from hd)]⟩
theorem dg_em (s p : Nat → Nat) (f : Nat) : dg s p f ∨ ¬ dg s p f := by
  unfold dg
  by_cases c : fl p f = 1 ∧ isd (s (p f))
  · exact Or.inl c
  · exact Or.inr c
/-- of a digit field: its number, or none -/
theorem num_x {f : Nat} {x : Int32} (h1 : ∀ y, S_num s p f 1 = some y → x = y) (h2 : S_num s p f 1 = none → x = -2147483648) : (dg s p f ∧ x = Int32.ofNat (s (p f) - 48) ∧ 48 ≤ s (p f) ∧ s (p f) ≤ 57) ∨ (¬ dg s p f ∧ x = -2147483648) := by
  rcases dg_em s p f with d | d
  · have hd := d.2
    unfold isd at hd
    exact Or.inl ⟨d, h1 _ (num_d d), hd⟩
  · rcases num_n d with ⟨-, e⟩ | ⟨-, e⟩
    · exact Or.inr ⟨d, h1 _ e⟩
    · exact Or.inr ⟨d, h2 e⟩
theorem r_part (hS : FS m s 7 p) (hB : FB m s 7 p B) (hg : B.1 14 = 1) : ∃ b B', f_X9_part B = some B' ∧ cb [14, 17, 18, 19, 20] [] B B' ∧ B'.1 14 = bi b ∧ (b = true ↔ GP s p) ∧ (b = true → B'.1 17 = Int32.ofNat (s (p 1) - 48) ∧ B'.1 18 = Int32.ofNat (s (p 2) - 48) ∧ B'.1 19 = Int32.ofNat (idn s p) ∧ B'.1 20 = Int32.ofNat (s (p 6) - 48)) := by
  have hb5 := hS.b (f := 5) (by decide)
  have r1 : f_X9_number B 1 1 = some (br B (S_num s p 1 1)) := r_number hS hB (f := 1) (by decide) (n := 1) (by decide)
  obtain ⟨x1, B1, u1, c1, g1, y1, z1⟩ := br_st (b := true) (S_num s p 1 1) hg
  rw [u1] at r1
  have F1 : FB m s 7 p (md_pf B1 17 x1) := (hB.cb c1 (by simp) (by simp)).cb (show cb [17] [] B1 (md_pf B1 17 x1) from cb.rf.pf (by simp)) (by simp) (by simp)
  have r2 : f_X9_number (md_pf B1 17 x1) 2 1 = some (br (md_pf B1 17 x1) (S_num s p 2 1)) := r_number hS F1 (f := 2) (by decide) (n := 1) (by decide)
  obtain ⟨x2, B2, u2, c2, g2, y2, z2⟩ := br_st (B := md_pf B1 17 x1) (S_num s p 2 1) (by rw [bf_n (by decide)]; exact g1)
  rw [u2] at r2
  have F2 : FB m s 7 p (md_pf B2 18 x2) := (F1.cb c2 (by simp) (by simp)).cb (show cb [18] [] B2 (md_pf B2 18 x2) from cb.rf.pf (by simp)) (by simp) (by simp)
  have r3 : f_X9_number (md_pf B2 18 x2) 3 1 = some (br (md_pf B2 18 x2) (S_num s p 3 1)) := r_number hS F2 (f := 3) (by decide) (n := 1) (by decide)
  obtain ⟨x3, B3, u3, c3, g3, y3, z3⟩ := br_st (B := md_pf B2 18 x2) (S_num s p 3 1) (by rw [bf_n (by decide)]; exact g2)
  rw [u3] at r3
  obtain ⟨s0, hs0⟩ : ∃ s0 : Int32, s0 = if x3 = -2147483648 then 10 else x3 := ⟨_, rfl⟩
  have F3 : FB m s 7 p (md_pf B3 19 s0) := (F2.cb c3 (by simp) (by simp)).cb (show cb [19] [] B3 (md_pf B3 19 s0) from cb.rf.pf (by simp)) (by simp) (by simp)
  have r4 : f_X9_one (md_pf B3 19 s0) 4 [65, 66, 49, 50] = some (br (md_pf B3 19 s0) (S_one s p 4 [65, 66, 49, 50])) := r_one hS F3 (f := 4) (by decide) [65, 66, 49, 50] (by decide) (by decide)
  obtain ⟨x4, B4, u4, c4, g4, -, -⟩ := br_st (B := md_pf B3 19 s0) (S_one s p 4 [65, 66, 49, 50]) (by rw [bf_n (by decide)]; exact g3)
  rw [u4] at r4
  have F4 : FB m s 7 p B4 := F3.cb c4 (by simp) (by simp)
  have r6 : f_X9_number B4 6 1 = some (br B4 (S_num s p 6 1)) := r_number hS F4 (f := 6) (by decide) (n := 1) (by decide)
  obtain ⟨x6, B5, u6, c6, g6, y6, z6⟩ := br_st (B := B4) (S_num s p 6 1) g4
  rw [u6] at r6
  obtain ⟨C, hC⟩ : ∃ C, C = md_pf B5 20 x6 := ⟨_, rfl⟩
  have F5 : FB m s 7 p C := by rw [hC]; exact (F4.cb c6 (by simp) (by simp)).cb (show cb [20] [] B5 (md_pf B5 20 x6) from cb.rf.pf (by simp)) (by simp) (by simp)
  have hcb : cb [14, 17, 18, 19, 20] [] B C := by
    rw [hC]
    exact (((((((((c1.mono (by simp) (by simp)).pf (by simp)).trans (c2.mono (by simp) (by simp))).pf (by simp)).trans (c3.mono (by simp) (by simp))).pf (by simp)).trans (c4.mono (by simp) (by simp))).trans (c6.mono (by simp) (by simp))).pf (by simp))
  have h17 : C.1 17 = x1 := by rw [hC, bf_n (by decide), c6.1 _ (by simp), c4.1 _ (by simp), bf_n (by decide), c3.1 _ (by simp), bf_n (by decide), c2.1 _ (by simp), bf_1]
  have h18 : C.1 18 = x2 := by rw [hC, bf_n (by decide), c6.1 _ (by simp), c4.1 _ (by simp), bf_n (by decide), c3.1 _ (by simp), bf_1]
  have h19 : C.1 19 = s0 := by rw [hC, bf_n (by decide), c6.1 _ (by simp), c4.1 _ (by simp), bf_1]
  have h20 : C.1 20 = x6 := by rw [hC, bf_1]
  have h14 : C.1 14 = bi (true && (S_num s p 1 1).isSome && (S_num s p 2 1).isSome && (S_num s p 3 1).isSome && (S_one s p 4 [65, 66, 49, 50]).isSome && (S_num s p 6 1).isSome) := by rw [hC, bf_n (by decide)]; exact g6
  have hpart : f_X9_part B = f_X9_part_40 B3 s0 := by
    unfold f_X9_part
    rw [r1, Option.bind_some]
    dsimp only
    rw [r2, Option.bind_some]
    dsimp only
    rw [r3, Option.bind_some]
    dsimp only
    rw [hs0]
    by_cases c : x3 = -2147483648
    · rw [if_pos c, if_pos c]
    · rw [if_neg c, if_neg c]
  have hsz : f_X9_size C 5 = some (Int32.ofNat (fl p 5), C) := r_size hS F5 (f := 5) (by decide)
  have bad : ¬ GP s p → ∃ b B', f_X9_part_139 C = some B' ∧ cb [14, 17, 18, 19, 20] [] B B' ∧ B'.1 14 = bi b ∧ (b = true ↔ GP s p) ∧ (b = true → B'.1 17 = Int32.ofNat (s (p 1) - 48) ∧ B'.1 18 = Int32.ofNat (s (p 2) - 48) ∧ B'.1 19 = Int32.ofNat (idn s p) ∧ B'.1 20 = Int32.ofNat (s (p 6) - 48)) := by
    intro hno
    obtain ⟨B', k1, k2, k3, k4⟩ := r_pack (q5 := by decide) hS F5.wr
    refine ⟨false, B', k1, (hcb.pf (by simp)).trans (k2.mono (by simp) (by simp)), ?_, ⟨fun h => by simp at h, fun h => absurd h hno⟩, fun h => by simp at h⟩
    by_cases hp : ∀ i, i < fl p 5 → pk (s (p 5 + i))
    · rw [k3 hp, bf_1]; rfl
    · rw [k4 hp]; rfl
  rw [hpart]
  unfold f_X9_part_40
  rw [r4, Option.bind_some]
  dsimp only
  rw [r6, Option.bind_some]
  dsimp only
  rw [← hC, h17, h18, h20]
  rcases num_x y1 z1 with ⟨d1, e1, l1⟩ | ⟨d1, e1⟩
  · rw [if_neg (by rw [e1]; exact none_ne (by omega))]
    rcases num_x y2 z2 with ⟨d2, e2, l2⟩ | ⟨d2, e2⟩
    · rw [if_neg (by rw [e2]; exact none_ne (by omega))]
      rcases num_x y6 z6 with ⟨d6, e6, l6⟩ | ⟨d6, e6⟩
      · rw [if_neg (by rw [e6]; exact none_ne (by omega)), e1, e2]
        by_cases q1 : s (p 1) - 48 < 1
        · rw [if_pos ((nl_gt 1 1 rfl (by decide) (by omega)).mpr q1)]
          exact bad (fun h => by have := h.1.2; omega)
        · rw [if_neg (mt (nl_gt 1 1 rfl (by decide) (by omega)).mp q1), in_nat (n := s (p 2) - 48) (lo := 1) (hi := s (p 1) - 48) (l := 1) (h := (Int32.ofNat (s (p 1) - 48)).toInt64) (by omega) (by decide) (by omega) rfl rfl, Option.bind_some]
          by_cases q2 : 1 ≤ s (p 2) - 48 ∧ s (p 2) - 48 ≤ s (p 1) - 48
          · rw [if_pos q2, if_neg (by simp)]
            dsimp only
            rw [h20, e6]
            by_cases q6 : 5 < s (p 6) - 48
            · rw [if_pos ((nl_lt 5 5 rfl (by decide) (by omega)).mpr q6)]
              exact bad (fun h => by have := h.2.2.2.2.2.2; omega)
            · rw [if_neg (mt (nl_lt 5 5 rfl (by decide) (by omega)).mp q6), hsz, Option.bind_some]
              dsimp only
              rw [in_nat (n := fl p 5) (lo := 1) (hi := 60) (l := 1) (h := 60) (by omega) (by decide) (by decide) rfl rfl, Option.bind_some]
              by_cases q5 : 1 ≤ fl p 5 ∧ fl p 5 ≤ 60
              · rw [if_pos q5, if_neg (by simp)]
                dsimp only
                obtain ⟨B', k1, k2, k3, k4⟩ := r_pack (q5 := by decide) hS F5
                by_cases hp : ∀ i, i < fl p 5 → pk (s (p 5 + i))
                · have hBC := k3 hp
                  subst hBC
                  rw [num_d d1, num_d d2, num_d d6] at h14
                  simp only [Option.isSome_some, Bool.and_true, Bool.true_and] at h14
                  have hiff : ((S_num s p 3 1).isSome && (S_one s p 4 [65, 66, 49, 50]).isSome) = true ↔ GP s p := by
                    rw [Bool.and_eq_true]
                    constructor
                    · rintro ⟨a3, a4⟩
                      refine ⟨⟨d1, by omega⟩, ⟨d2, q2⟩, ?_, ?_, ⟨q5.1, q5.2, hp⟩, d6, by omega⟩
                      · rcases dg_em s p 3 with d | d
                        · exact Or.inr d
                        · rcases num_n d with ⟨e, -⟩ | ⟨-, e⟩
                          · exact Or.inl e
                          · rw [e] at a3; simp at a3
                      · unfold S_one at a4
                        by_cases q4 : fl p 4 = 0
                        · exact Or.inl q4
                        · rw [if_neg q4] at a4
                          by_cases q4' : fl p 4 = 1 ∧ s (p 4) ∈ [65, 66, 49, 50]
                          · exact Or.inr q4'
                          · rw [if_neg q4'] at a4; simp at a4
                    · intro h
                      refine ⟨?_, ?_⟩
                      · rcases h.2.2.1 with e | d
                        · rw [num1, if_pos e]; rfl
                        · rw [num_d d]; rfl
                      · unfold S_one
                        rcases h.2.2.2.1 with e | e
                        · rw [if_pos e]; rfl
                        · rw [if_neg (by have := e.1; omega), if_pos e]; rfl
                  refine ⟨_, B', k1, hcb, h14, hiff, fun h => ⟨by rw [h17, e1], by rw [h18, e2], ?_, by rw [h20, e6]⟩⟩
                  rw [h19, hs0]
                  have hgp := hiff.mp h
                  unfold idn
                  by_cases q3 : fl p 3 = 0
                  · have : x3 = -2147483648 := y3 _ (by rw [num1, if_pos q3])
                    rw [if_pos this, if_pos q3]
                    rfl
                  · have d3 := hgp.2.2.1.resolve_left q3
                    have hd3 := d3.2
                    unfold isd at hd3
                    have : x3 = Int32.ofNat (s (p 3) - 48) := y3 _ (num_d d3)
                    rw [this, if_neg (none_ne (by omega)), if_neg q3]
                · refine ⟨false, B', k1, hcb.trans (k2.mono (by simp) (by simp)), by rw [k4 hp]; rfl, ⟨fun h => by simp at h, fun h => absurd h.2.2.2.2.1.2.2 hp⟩, fun h => by simp at h⟩
              · rw [if_neg q5, if_pos rfl]
                exact bad (fun h => q5 ⟨h.2.2.2.2.1.1, h.2.2.2.2.1.2.1⟩)
          · rw [if_neg q2, if_pos rfl]
            exact bad (fun h => q2 h.2.1.2)
      · rw [if_pos e6]
        exact bad (fun h => d6 h.2.2.2.2.2.1)
    · rw [if_pos e2]
      exact bad (fun h => d2 h.2.1.1)
  · rw [if_pos e1]
    exact bad (fun h => d1 h.1.1)
end PR
