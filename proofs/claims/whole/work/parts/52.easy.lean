/-! ===== PURE: the easy calls ===== -/
theorem lc_n {x y : Int64} : lg_cmp x y < 0 ↔ x < y := by
  unfold lg_cmp
  split
  · rename_i h
    constructor
    · intro c; exact absurd c (by decide)
    · intro c; exact absurd (Int64.lt_asymm c h) id
  · split
    · rename_i h
      subst h
      constructor
      · intro c; exact absurd c (by decide)
      · intro c; exact absurd c (Int64.lt_irrefl)
    · rename_i h1 h2
      constructor
      · intro _
        rw [Int64.lt_iff_toInt_lt]
        have h3 : ¬ y.toInt < x.toInt := fun c => h1 (Int64.lt_iff_toInt_lt.mpr c)
        have h4 : x.toInt ≠ y.toInt := fun c => h2 (Int64.toInt_inj.mp c)
        omega
      · intro _; decide
theorem lc_p {x y : Int64} : 0 < lg_cmp x y ↔ y < x := by
  unfold lg_cmp
  split
  · rename_i h
    exact ⟨fun _ => h, fun _ => by decide⟩
  · rename_i h
    split
    · exact ⟨fun c => absurd c (by decide), fun c => absurd c h⟩
    · exact ⟨fun c => absurd c (by decide), fun c => absurd c h⟩
theorem t64_lt {x y : Int32} : x.toInt64 < y.toInt64 ↔ x < y := by
  rw [Int64.lt_iff_toInt_lt, Int32.lt_iff_toInt_lt, Int32.toInt_toInt64, Int32.toInt_toInt64]
theorem in_s {B : md_B} {x lo hi : Int32} {l h : Int64} (hl : lo.toInt64 = l) (hh : hi.toInt64 = h) : f_X9_in B x.toInt64 l h = some (if ¬ x < lo ∧ ¬ hi < x then 1 else 0, B) := by
  subst hl
  subst hh
  unfold f_X9_in
  by_cases h1 : x < lo
  · rw [if_pos (lc_n.mpr (t64_lt.mpr h1)), if_neg (fun c => c.1 h1)]
  · rw [if_neg (fun c => h1 (t64_lt.mp (lc_n.mp c)))]
    by_cases h2 : hi < x
    · rw [if_pos (lc_p.mpr (t64_lt.mpr h2)), if_neg (fun c => c.2 h2)]
    · rw [if_neg (fun c => h2 (t64_lt.mp (lc_p.mp c))), if_pos ⟨h1, h2⟩]
theorem in_y {B : md_B} {x lo hi : Int32} {l h : Int64} (hl : lo.toInt64 = l) (hh : hi.toInt64 = h) (h1 : ¬ x < lo) (h2 : ¬ hi < x) : f_X9_in B x.toInt64 l h = some (1, B) := by
  rw [in_s hl hh, if_pos ⟨h1, h2⟩]
theorem in_n {B : md_B} {x lo hi : Int32} {l h : Int64} (hl : lo.toInt64 = l) (hh : hi.toInt64 = h) (h1 : x < lo ∨ hi < x) : f_X9_in B x.toInt64 l h = some (0, B) := by
  rw [in_s hl hh, if_neg (fun c => h1.elim c.1 c.2)]
theorem in0_y {B : md_B} {x hi : Int32} (h1 : ¬ x < 0) (h2 : ¬ hi < x) : f_X9_in B x.toInt64 0 hi.toInt64 = some (1, B) := in_y (lo := 0) (l := 0) rfl rfl h1 h2
theorem in0_n {B : md_B} {x hi : Int32} (h1 : x < 0 ∨ hi < x) : f_X9_in B x.toInt64 0 hi.toInt64 = some (0, B) := in_n (lo := 0) (l := 0) rfl rfl h1
theorem i32_le {x y : Int32} : x ≤ y ↔ ¬ y < x := by
  rw [Int32.le_iff_toInt_le, Int32.lt_iff_toInt_lt]
  omega
theorem ch0 {V : gh_V} : ch [] [] V V := ch.rf
theorem cb0 {B : md_B} : cb [0] [] B (md_pf B 0 0) := cb.rf.pf List.mem_cons_self
section EZ
variable {a0 : Nat} {T : gh_T} {V : gh_V} {B : md_B}
/-- a change that no component sees -/
theorem Rel.quiet {B' : md_B} {D : List Nat} (h : Rel a0 T V B) (hB : cb [0] D B B') (hD : D = []) : Rel a0 T V B' := by
  subst hD
  obtain ⟨hs, h1, h2, h3, h4, h5, h6, h7, h8, h9, h10⟩ := h
  have e1 : ∀ k, k ≠ 0 → B'.1 k = B.1 k := fun k hk => hB.1 k (by simpa using hk)
  have e2 : ∀ k, B'.2 k = B.2 k := fun k => hB.2 k (by simp)
  refine ⟨hs, ?_, ?_, ?_, ?_, ?_, h6.fr hs ch0 hB (by simp) (by simp) (by simp), ?_, h8.fr hs ch0 hB (by simp) (by simp) (by simp), h9, ?_⟩
  · rw [e1 2 (by decide), e2]; exact h1
  · rw [e1 4 (by decide), e2]; exact h2
  · rw [e2]; exact h3
  · rw [e1 5 (by decide), e1 7 (by decide), e1 8 (by decide), e1 9 (by decide), e2]; exact h4
  · rw [e2]; exact h5
  · rw [e1 27 (by decide), e1 26 (by decide), e2]; exact h7
  · rw [e1 33 (by decide)]; exact h10
theorem Rel.q0 (h : Rel a0 T V B) : Rel a0 T V (md_pf B 0 0) := h.quiet cb0 rfl
theorem Rel.q1 {x : Int32} (h : Rel a0 T V B) : Rel a0 T V (md_pf (md_pf B 0 0) 0 x) := h.quiet (cb0.pf List.mem_cons_self) rfl
theorem s_end (h : Rel a0 T V B) (x : Int32) : ∃ q r, f_X8_end T V a0 x = some q ∧ f_X9_end B x = some r ∧ q.1 = r.1 ∧ Rel a0 T q.2 r.2 := by
  have h0 := h
  obtain ⟨hs, ⟨k, k1, k2, k3, k4⟩, h2, h3, h4, h5, h6, h7, h8, h9, h10⟩ := h
  have e2 : (md_pf B 0 0).1 2 = Int32.ofNat k := by rw [bf_n (by decide)]; exact k3
  unfold f_X8_end f_X9_end
  by_cases c1 : x < 0
  · refine ⟨_, (0, md_pf B 0 0), if_pos c1, ?_, rfl, h0.q0⟩
    rw [in0_n (Or.inl c1)]
    rfl
  · rw [if_neg c1, hs.r1_0, Option.bind_some]
    by_cases c2 : x ≤ V.1 1 (a0 + 2)
    · rw [if_pos c2, Option.bind_some]
      refine ⟨_, (1, md_pf (md_pf B 0 0) 2 x), rfl, ?_, rfl, ?_⟩
      · rw [in0_y c1 (hi := (md_pf B 0 0).1 2) (by rw [e2, ← k2]; exact i32_le.mp c2)]
        rfl
      · obtain ⟨n, hn, rfl⟩ := nu_in c1 (m := k) (by omega) (by rw [← k2]; exact i32_le.mp c2)
        have hV : ch [(1, a0 + 2)] [] V (gh_pf V 1 (a0 + 2) (Int32.ofNat n)) := ch.rf.pf List.mem_cons_self
        have hB : cb [0, 2] [] B (md_pf (md_pf B 0 0) 2 (Int32.ofNat n)) := (cb.rf.pf List.mem_cons_self).pf (by simp)
        refine ⟨hs, ⟨n, by omega, pf_1, bf_1, fun i hi => k4 i (by omega)⟩, ?_, h3, ?_, h5, h6.fr hs hV hB (by simp) (by simp) (by simp), ?_, h8.fr hs hV hB (by simp) (by simp) (by simp), ?_, ?_⟩
        · rw [hV.1 _ _ (by simp), hB.1 _ (by decide)]; exact h2
        · rw [hV.1 _ _ (by simp), hV.1 _ _ (by simp), hV.1 _ _ (by simp), hV.1 _ _ (by simp), hV.1 _ _ (by simp), hB.1 _ (by decide), hB.1 _ (by decide), hB.1 _ (by decide), hB.1 _ (by decide)]; exact h4
        · rw [hV.1 _ _ (by simp), hB.1 _ (by decide), hB.1 _ (by decide)]; exact h7
        · rw [hV.1 _ _ (by simp)]; exact h9
        · rw [hB.1 _ (by decide)]; exact h10
    · rw [if_neg c2]
      refine ⟨_, (0, md_pf B 0 0), rfl, ?_, rfl, h0.q0⟩
      rw [in0_n (hi := (md_pf B 0 0).1 2) (x := x) (Or.inr (by rw [e2, ← k2]; exact Decidable.not_not.mp (fun c => c2 (i32_le.mpr c))))]
      rfl
/-- a row of signs, read -/
theorem rR.at {L : Nat} {m : Int32} {g : Nat → Int32} {a d : Nat} (hr : T.2.2.1 0 a = some d) (hl : T.2.2.2.1 d = L) (hL : L < 2147483648) (h : rR L (V.1 1 a) (V.2 d) m g) (x : Int32) : ∃ v, f_X6_at T V a x = some (v, V) ∧ (∀ k : Nat, m = Int32.ofNat k → k ≤ L → (x < 0 ∨ m ≤ x) ∧ v = -2147483648 ∨ ∃ n : Nat, x = Int32.ofNat n ∧ n < k ∧ v = g n ∧ ∃ c : Nat, c < 256 ∧ v = Int32.ofNat c) := by
  obtain ⟨k, k1, k2, k3, k4⟩ := h
  unfold f_X6_at
  by_cases c1 : x < 0
  · exact ⟨_, if_pos c1, fun _ _ _ => Or.inl ⟨Or.inl c1, rfl⟩⟩
  · rw [if_neg c1]
    by_cases c2 : V.1 1 a ≤ x
    · rw [if_pos c2]
      exact ⟨_, rfl, fun _ _ _ => Or.inl ⟨Or.inr (by rw [k3, ← k2]; exact c2), rfl⟩⟩
    · rw [if_neg c2, hr, Option.bind_some, hl, Option.bind_some, hl]
      obtain ⟨n, hn, rfl⟩ := nu_of c1
      rw [k2, nu_le (by omega) hn] at c2
      rw [if_neg (by rw [nu_le (by omega) hn]; omega), nu_inb hn (by omega), sv_g_t rfl, nu_nat hn]
      refine ⟨_, rfl, fun k' hk' hk2 => Or.inr ⟨n, rfl, ?_, k4 n (by omega), and255_lt _⟩⟩
      rw [k3, nu_eq (by omega) (by omega)] at hk'
      omega
theorem s_out (h : Rel a0 T V B) (x : Int32) : ∃ q r, f_X8_out T V a0 x = some q ∧ f_X9_out B x = some r ∧ q.1 = r.1 ∧ Rel a0 T q.2 r.2 := by
  have h0 := h
  obtain ⟨hs, h1, h2, -⟩ := h
  obtain ⟨v, hv, hk⟩ := rR.at hs.r0_4 hs.l5 (by decide) h2 x
  obtain ⟨k, k1, k2, k3, k4⟩ := h2
  have e4 : (md_pf B 0 0).1 4 = Int32.ofNat k := by rw [bf_n (by decide)]; exact k3
  unfold f_X8_out f_X9_out
  rw [hs.r2_0, Option.bind_some, hv, Option.bind_some, e4]
  refine ⟨_, (v, md_pf B 0 0), rfl, ?_, rfl, h0.q0⟩
  rcases hk k k3 k1 with ⟨c, rfl⟩ | ⟨n, rfl, hn, hvn, -⟩
  · have : x < 0 ∨ Int32.ofNat k - 1 < x := by
      rcases c with c | c
      · exact Or.inl c
      · by_cases c0 : x < 0
        · exact Or.inl c0
        · obtain ⟨n, hn, rfl⟩ := nu_of c0
          rw [k3, nu_le (by omega) hn] at c
          refine Or.inr ?_
          rw [Int32.lt_iff_toInt_lt, nu_int hn, Int32.toInt_sub, nu_int (by omega)]
          show ((k : Int) - 1).bmod (2 ^ 32) < _
          rw [Int.bmod_eq_of_le] <;> omega
    rw [in0_n this]
    rfl
  · have c0 : ¬ Int32.ofNat n < 0 := nu_neg (by omega)
    have c1 : ¬ Int32.ofNat k - 1 < Int32.ofNat n := by
      rw [show (1 : Int32) = Int32.ofNat 1 from rfl, nu_sub (by omega), nu_lt (by omega) (by omega)]
      omega
    rw [in0_y c0 c1, Option.bind_some, if_neg (by simp), nu_inb (by omega) (by omega), sv_g_t rfl, nu_nat (by omega), hvn]
    rfl
theorem s_fix (h : Rel a0 T V B) (x : Int32) : ∃ q r u, f_X8_fix T V a0 x = some q ∧ f_X9_fix B x = some r ∧ f_X9_thrown r.2 = some u ∧ u.1 = q.1 ∧ (q.1 = 0 → q.2.1 = r.1) ∧ Rel a0 T q.2.2 u.2 ∧ q.1 ≠ 2 := by
  have h0 := h
  obtain ⟨hs, h1, h2, h3, h4, h5, -⟩ := h
  unfold f_X8_fix f_X9_fix f_X8_fix_10
  by_cases c1 : x < 0
  · rw [if_pos c1]
    refine ⟨_, (0, md_pf (md_pf B 0 0) 0 1), _, rfl, ?_, rfl, (by simp [md_pf, upd]), fun c => by simp at c, h0.q1, by simp⟩
    rw [in_n (lo := 0) (hi := 17) (l := 0) (h := 17) rfl rfl (Or.inl c1)]
    rfl
  · rw [if_neg c1]
    by_cases c2 : x < 18
    · obtain ⟨n, hn, rfl⟩ := nu_of c1
      have c3 : n < 18 := (nu_lt hn (m := 18) (by decide)).mp c2
      rw [if_pos c2, hs.r5_0, Option.bind_some, hs.r0_11, Option.bind_some, hs.l12, nu_inb hn c3, sv_g_t rfl, nu_nat hn]
      refine ⟨_, (B.2 16 n, md_pf B 0 0), _, rfl, ?_, rfl, (by simp [md_pf, upd]), fun _ => h5 n c3, h0.q0, by simp⟩
      rw [in_y (lo := 0) (hi := 17) (l := 0) (h := 17) rfl rfl c1 (fun c => by have := (nu_lt (n := 17) (by decide) hn).mp c; omega), Option.bind_some, if_neg (by simp)]
      rfl
    · rw [if_neg c2]
      refine ⟨_, (0, md_pf (md_pf B 0 0) 0 1), _, rfl, ?_, rfl, (by simp [md_pf, upd]), fun c => by simp at c, h0.q1, by simp⟩
      obtain ⟨n, hn, rfl⟩ := nu_of c1
      have c3 : ¬ n < 18 := fun c => c2 ((nu_lt hn (m := 18) (by decide)).mpr c)
      rw [in_n (lo := 0) (hi := 17) (l := 0) (h := 17) rfl rfl (Or.inr ((nu_lt (n := 17) (by decide) hn).mpr (by omega)))]
      rfl
end EZ
