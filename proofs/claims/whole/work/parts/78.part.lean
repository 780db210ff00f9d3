/-! ===== PURE: a part, read ===== -/
def gd (A : Nat) (V : gh_V) (b : Bool) : gh_V := if b = true then V else gh_pf V 3 A 0
theorem gd_gd {A : Nat} {V : gh_V} {b c : Bool} : gd A (gd A V b) c = gd A V (b && c) := by
  cases b <;> cases c <;> unfold gd <;> simp [nf_two]
theorem cr_gd {A : Nat} {V : gh_V} {S : Option Int32} : (cr A V S).2 = gd A V S.isSome := by
  cases S <;> rfl
theorem gd_if {A : Nat} {V : gh_V} {U : Prop} {hU : Decidable U} : (@ite _ U hU V (gh_pf V 3 A 0)) = gd A V (decide U) := by
  unfold gd
  by_cases c : U
  · rw [if_pos c, if_pos (decide_eq_true c)]
  · rw [if_neg c, if_neg (by simp [c])]
theorem gd_fl {A : Nat} {V : gh_V} {b : Bool} (h : V.1 3 A = 1) : (gd A V b).1 3 A = bi b := by
  cases b
  · show (gh_pf V 3 A 0).1 3 A = 0
    rw [pf_1]
  · exact h
def dg (s p : Nat → Nat) (f : Nat) : Prop := fl p f = 1 ∧ isd (s (p f))
/-- a part as it must be -/
def GP (s p : Nat → Nat) : Prop := (dg s p 1 ∧ 1 ≤ s (p 1) - 48) ∧ (dg s p 2 ∧ 1 ≤ s (p 2) - 48 ∧ s (p 2) - 48 ≤ s (p 1) - 48) ∧ (fl p 3 = 0 ∨ dg s p 3) ∧ (fl p 4 = 0 ∨ fl p 4 = 1 ∧ s (p 4) ∈ [65, 66, 49, 50]) ∧ U_pack s p 5 ∧ dg s p 6 ∧ s (p 6) - 48 ≤ 5
def idn (s p : Nat → Nat) : Nat := if fl p 3 = 0 then 10 else s (p 3) - 48
section PT
variable {a0 m nf z : Nat} {s p : Nat → Nat} {T : gh_T} {V : gh_V} {B : md_B}
theorem FC.gd {b : Bool} (h : FC a0 m s nf p V) : FC a0 m s nf p (gd (a0 + 8) V b) := by
  cases b
  · exact h.wr
  · exact h
theorem dig_v {f least : Nat} {x3 : Int32} (h : (S_dig s p f least x3).isSome = true) : S_dig s p f least x3 = some (Int32.ofNat (s (p f) - 48)) ∧ dg s p f ∧ least ≤ s (p f) - 48 ∧ ¬ x3 < Int32.ofNat (s (p f) - 48) := by
  unfold S_dig at h ⊢
  by_cases c : fl p f = 1 ∧ isd (s (p f)) ∧ least ≤ s (p f) - 48 ∧ ¬ x3 < Int32.ofNat (s (p f) - 48)
  · rw [if_pos c]
    exact ⟨rfl, ⟨c.1, c.2.1⟩, c.2.2⟩
  · rw [if_neg c] at h
    simp at h
theorem dig_i {f least : Nat} {x3 : Int32} (h1 : dg s p f) (h2 : least ≤ s (p f) - 48) (h3 : ¬ x3 < Int32.ofNat (s (p f) - 48)) : S_dig s p f least x3 = some (Int32.ofNat (s (p f) - 48)) := by
  unfold S_dig
  rw [if_pos ⟨h1.1, h1.2, h2, h3⟩]
/-- what comes behind a part that is as it must be -/
def tpK (a0 : Nat) (s p : Nat → Nat) (T : gh_T) (V : gh_V) (z : Nat) : Option (Int32 × gh_T × gh_V × Nat) :=
  (f_X8_isInOrder T V a0 (Int32.ofNat (idn s p)) (Int32.ofNat (s (p 1) - 48)) (Int32.ofNat (s (p 2) - 48))).bind (fun q113 => if q113.1 = 0 then f_X8_takePart_169 a0 T q113.2 z else (f_X3_keep T q113.2 z (a0 + 14) (Int32.ofNat (idn s p)) (Int32.ofNat (s (p 1) - 48))).bind (fun q125 => f_X8_takePart_128 a0 q125.2.1 q125.2.2.1 q125.2.2.2 (Int32.ofNat (s (p 1) - 48)) (Int32.ofNat (s (p 2) - 48)) (Int32.ofNat (idn s p)) (Int32.ofNat (s (p 6) - 48)) q125.1))
theorem c_part (hs : sh a0 T) (hS : FS m s 7 p) (hC : FC a0 m s 7 p V) (hg : V.1 3 (a0 + 8) = 1) : (GP s p ∧ f_X8_takePart T V z a0 = tpK a0 s p T V z) ∨ (¬ GP s p ∧ f_X8_takePart T V z a0 = some (0, T, gh_pf V 3 (a0 + 8) 0, z)) := by
  have e1 : f_X1_digit T V (a0 + 8) 1 1 9 = some (cr (a0 + 8) V (S_dig s p 1 1 9)) := c_digit hs hS hC (f := 1) (by decide) (least := 1) (by decide) 9
  have e2 : ∀ y, f_X1_digit T (gd (a0 + 8) V (S_dig s p 1 1 9).isSome) (a0 + 8) 2 1 y = some (cr (a0 + 8) (gd (a0 + 8) V (S_dig s p 1 1 9).isSome) (S_dig s p 2 1 y)) := fun y => c_digit hs hS hC.gd (f := 2) (by decide) (least := 1) (by decide) y
  obtain ⟨y1, hy1⟩ : ∃ y, y = (cr (a0 + 8) V (S_dig s p 1 1 9)).1 := ⟨_, rfl⟩
  obtain ⟨b2, hb2⟩ : ∃ b, b = ((S_dig s p 1 1 9).isSome && (S_dig s p 2 1 y1).isSome) := ⟨_, rfl⟩
  have e3 : f_X1_isEmpty T (gd (a0 + 8) V b2) (a0 + 8) 3 = some (if fl p 3 = 0 then 1 else 0, gd (a0 + 8) V b2) := c_emp hs hS hC.gd (f := 3) (by decide)
  have e3' : f_X1_digit T (gd (a0 + 8) V b2) (a0 + 8) 3 0 9 = some (cr (a0 + 8) (gd (a0 + 8) V b2) (S_dig s p 3 0 9)) := c_digit hs hS hC.gd (f := 3) (by decide) (least := 0) (by decide) 9
  -- behind the id
  have tail : ∀ (b : Bool) (x1 x2 s0 : Int32), f_X8_takePart_64 a0 T (gd (a0 + 8) V b) z x1 x2 s0 = if (b && (S_one s p 4 [65, 66, 49, 50]).isSome && decide (U_pack s p 5) && (S_dig s p 6 0 5).isSome) = true then (f_X8_isInOrder T V a0 s0 x1 x2).bind (fun q113 => if q113.1 = 0 then f_X8_takePart_169 a0 T q113.2 z else (f_X3_keep T q113.2 z (a0 + 14) s0 x1).bind (fun q125 => f_X8_takePart_128 a0 q125.2.1 q125.2.2.1 q125.2.2.2 x1 x2 s0 (cr (a0 + 8) V (S_dig s p 6 0 5)).1 q125.1)) else some (0, T, gh_pf V 3 (a0 + 8) 0, z) := by
    intro b x1 x2 s0
    have f1 : f_X1_oneOf T (gd (a0 + 8) V b) (a0 + 8) 4 [65, 66, 49, 50] = some (cr (a0 + 8) (gd (a0 + 8) V b) (S_one s p 4 [65, 66, 49, 50])) := c_oneOf hs hS hC.gd (f := 4) (by decide) [65, 66, 49, 50] (by decide) (by decide)
    have f2 : ∀ b, f_X1_checkPack T (gd (a0 + 8) V b) (a0 + 8) 5 = some (gd (a0 + 8) V (b && decide (U_pack s p 5))) := by
      intro b
      have : f_X1_checkPack T (gd (a0 + 8) V b) (a0 + 8) 5 = _ := c_pack hs hS hC.gd (f := 5) (by decide)
      rw [this, gd_if, gd_gd]
    have f3 : ∀ b, f_X1_digit T (gd (a0 + 8) V b) (a0 + 8) 6 0 5 = some (cr (a0 + 8) (gd (a0 + 8) V b) (S_dig s p 6 0 5)) := fun b => c_digit hs hS hC.gd (f := 6) (by decide) (least := 0) (by decide) 5
    unfold f_X8_takePart_64
    simp only [hs.r4_0, Option.bind_some, f1, cr_gd, gd_gd, f2, f3]
    rw [gd_fl hg]
    cases hb : (b && (S_one s p 4 [65, 66, 49, 50]).isSome && decide (U_pack s p 5) && (S_dig s p 6 0 5).isSome) with
    | false => rfl
    | true =>
      rw [if_neg (by decide), if_pos rfl, hs.r6_0]
      simp only [Option.bind_some]
      have hd6 : (S_dig s p 6 0 5).isSome = true := by
        cases h : (S_dig s p 6 0 5).isSome with
        | true => rfl
        | false => rw [h, Bool.and_false] at hb; exact absurd hb (by decide)
      obtain ⟨w1, -⟩ := dig_v hd6
      rw [w1]
      rfl
  have h7 : V.1 2 (a0 + 8) = 7 := hC.1
  unfold f_X8_takePart
  rw [hs.r4_0, Option.bind_some, if_pos h7, Option.bind_some, e1, Option.bind_some, cr_gd, Option.bind_some, ← hy1, e2, Option.bind_some, cr_gd, gd_gd, ← hb2, Option.bind_some, e3, Option.bind_some]
  by_cases G : GP s p
  · refine Or.inl ⟨G, ?_⟩
    obtain ⟨⟨g1, g2⟩, ⟨g3, g4, g5⟩, g6, g7, g8, g9, g10⟩ := G
    have i1 := g1.2
    have i2 := g3.2
    have i6 := g9.2
    unfold isd at i1 i2 i6
    have q1 : S_dig s p 1 1 9 = some (Int32.ofNat (s (p 1) - 48)) := dig_i g1 g2 (mt (nl_lt 9 9 rfl (by decide) (by omega)).mp (by omega))
    have hy : y1 = Int32.ofNat (s (p 1) - 48) := by rw [hy1, q1]; rfl
    have q2 : S_dig s p 2 1 y1 = some (Int32.ofNat (s (p 2) - 48)) := dig_i g3 g4 (by rw [hy]; exact mt (nu_lt (by omega) (by omega)).mp (by omega))
    have q6 : S_dig s p 6 0 5 = some (Int32.ofNat (s (p 6) - 48)) := dig_i g9 (Nat.zero_le _) (mt (nl_lt 5 5 rfl (by decide) (by omega)).mp (by omega))
    have q4 : (S_one s p 4 [65, 66, 49, 50]).isSome = true := by
      unfold S_one
      rcases g7 with g7 | g7
      · rw [if_pos g7]; rfl
      · rw [if_neg (by omega), if_pos g7]; rfl
    have hb : b2 = true := by rw [hb2, q1, q2]; rfl
    unfold tpK idn
    rw [q1, q2]
    dsimp only [cr]
    by_cases c3 : fl p 3 = 0
    · rw [if_pos c3, if_neg (by simp), if_pos c3, hb, tail, q4, decide_eq_true g8, q6, hy]
      rfl
    · have g6' := g6.resolve_left c3
      have i3 := g6'.2
      unfold isd at i3
      have q3 : S_dig s p 3 0 9 = some (Int32.ofNat (s (p 3) - 48)) := dig_i g6' (Nat.zero_le _) (mt (nl_lt 9 9 rfl (by decide) (by omega)).mp (by omega))
      rw [if_neg c3, if_pos rfl, if_neg c3, Option.bind_some, e3', Option.bind_some, cr_gd, gd_gd, tail, q3, hb, q4, decide_eq_true g8, q6, hy]
      rfl
  · refine Or.inr ⟨G, ?_⟩
    have key : ∀ b3 : Bool, (b3 = true → fl p 3 = 0 ∨ dg s p 3) → ¬ (b2 && b3 && (S_one s p 4 [65, 66, 49, 50]).isSome && decide (U_pack s p 5) && (S_dig s p 6 0 5).isSome) = true := by
      intro b3 h3 hall
      simp only [Bool.and_eq_true, decide_eq_true_eq] at hall
      obtain ⟨⟨⟨⟨a1, a2⟩, a3⟩, a4⟩, a5⟩ := hall
      rw [hb2, Bool.and_eq_true] at a1
      obtain ⟨w1, w2, w3, w4⟩ := dig_v a1.1
      obtain ⟨v1, v2, v3, v4⟩ := dig_v a1.2
      obtain ⟨u1, u2, u3, u4⟩ := dig_v a5
      have i1 := w2.2
      have i2 := v2.2
      have i6 := u2.2
      unfold isd at i1 i2 i6
      have hy : y1 = Int32.ofNat (s (p 1) - 48) := by rw [hy1, w1]; rfl
      rw [hy] at v4
      have v4' := mt (nu_lt (n := s (p 1) - 48) (m := s (p 2) - 48) (by omega) (by omega)).mpr v4
      have u4' := mt (nl_lt (k := s (p 6) - 48) 5 5 rfl (by decide) (by omega)).mpr u4
      refine G ⟨⟨w2, w3⟩, ⟨v2, v3, by omega⟩, h3 a2, ?_, a4, u2, by omega⟩
      unfold S_one at a3
      by_cases c4 : fl p 4 = 0
      · exact Or.inl c4
      · rw [if_neg c4] at a3
        by_cases c5 : fl p 4 = 1 ∧ s (p 4) ∈ [65, 66, 49, 50]
        · exact Or.inr c5
        · rw [if_neg c5] at a3
          simp at a3
    by_cases c3 : fl p 3 = 0
    · have := key true (fun _ => Or.inl c3)
      rw [Bool.and_true] at this
      rw [if_pos c3, if_neg (by simp), tail, if_neg this]
    · rw [if_neg c3, if_pos rfl, Option.bind_some, e3', Option.bind_some, cr_gd, gd_gd, tail, if_neg (key (S_dig s p 3 0 9).isSome (fun h => Or.inr (dig_v h).2.1))]
/-- the reference reads a part -/
theorem r_pack {q5 : 5 < nf} (hS : FS m s nf p) (hB : FB m s nf p B) : ∃ B', f_X9_part_144 B = some B' ∧ cb [14] [] B B' ∧ ((∀ i, i < fl p 5 → pk (s (p 5 + i))) → B' = B) ∧ (¬ (∀ i, i < fl p 5 → pk (s (p 5 + i))) → B'.1 14 = 0) := by
  have hb := hS.b q5
  have loop : ∀ (k i n : Nat) (B : md_B), FB m s nf p B → i + k = fl p 5 → k < n → ∃ B', f_X9_part_146 n B (Int32.ofNat i) = some B' ∧ cb [14] [] B B' ∧ ((∀ j, j < fl p 5 → i ≤ j → pk (s (p 5 + j))) → B' = B) ∧ (¬ (∀ j, j < fl p 5 → i ≤ j → pk (s (p 5 + j))) → B'.1 14 = 0) ∧ (B.1 14 = 0 → B'.1 14 = 0) := by
    intro k
    induction k with
    | zero =>
      intro i n B hB hi hn
      cases n with
      | zero => omega
      | succ n =>
        have hsz : f_X9_size B 5 = some (Int32.ofNat (fl p 5), B) := r_size hS hB q5
        refine ⟨B, ?_, cb.rf, fun _ => rfl, fun h => absurd (fun j h1 h2 => by omega) h, fun h => h⟩
        unfold f_X9_part_146
        rw [hsz, Option.bind_some, if_pos ((nu_le (by omega) (by omega)).mpr (by omega))]
    | succ k ih =>
      intro i n B hB hi hn
      cases n with
      | zero => omega
      | succ n =>
        have hsz : f_X9_size B 5 = some (Int32.ofNat (fl p 5), B) := r_size hS hB q5
        have hat : f_X9_at B 5 (Int32.ofNat i) = some (Int32.ofNat (s (p 5 + i)), B) := r_at hS hB q5 (by omega)
        have h2 := hS.2.2.2.1 (p 5 + i) (by omega)
        have i1 := in_nat (B := B) (n := s (p 5 + i)) (lo := 48) (hi := 87) (l := 48) (h := 87) (by omega) (by decide) (by decide) rfl rfl
        have i2 := in_nat (B := B) (n := s (p 5 + i)) (lo := 96) (hi := 119) (l := 96) (h := 119) (by omega) (by decide) (by decide) rfl rfl
        have good : pk (s (p 5 + i)) → ∃ B', f_X9_part_146 n B (Int32.ofNat (i + 1)) = some B' ∧ cb [14] [] B B' ∧ ((∀ j, j < fl p 5 → i ≤ j → pk (s (p 5 + j))) → B' = B) ∧ (¬ (∀ j, j < fl p 5 → i ≤ j → pk (s (p 5 + j))) → B'.1 14 = 0) ∧ (B.1 14 = 0 → B'.1 14 = 0) := by
          intro hp
          obtain ⟨B', c1, c2, c3, c4, c5⟩ := ih (i + 1) n B hB (by omega) (by omega)
          refine ⟨B', c1, c2, fun h => c3 (fun j h1 h2 => h j h1 (by omega)), fun h => c4 (fun h' => h (fun j h1 h2 => ?_)), c5⟩
          by_cases e : j = i
          · rw [e]; exact hp
          · exact h' j h1 (by omega)
        have bad : ¬ pk (s (p 5 + i)) → ∃ B', f_X9_part_146 n (md_pf B 14 0) (Int32.ofNat (i + 1)) = some B' ∧ cb [14] [] B B' ∧ ((∀ j, j < fl p 5 → i ≤ j → pk (s (p 5 + j))) → B' = B) ∧ (¬ (∀ j, j < fl p 5 → i ≤ j → pk (s (p 5 + j))) → B'.1 14 = 0) ∧ (B.1 14 = 0 → B'.1 14 = 0) := by
          intro hp
          obtain ⟨B', c1, c2, c3, c4, c5⟩ := ih (i + 1) n (md_pf B 14 0) hB.wr (by omega) (by omega)
          exact ⟨B', c1, (cb.rf.pf (by simp)).trans c2, fun h => absurd (h i (by omega) (Nat.le_refl _)) hp, fun _ => c5 bf_1, fun _ => c5 bf_1⟩
        unfold f_X9_part_146 f_X9_part_198
        rw [hsz, Option.bind_some, if_neg (mt (nu_le (by omega) (by omega)).mp (by omega))]
        dsimp only
        rw [hat, Option.bind_some]
        dsimp only
        rw [i1, Option.bind_some, nu_s]
        by_cases d1 : 48 ≤ s (p 5 + i) ∧ s (p 5 + i) ≤ 87
        · rw [if_pos d1, if_neg (by simp)]
          exact good (Or.inl d1)
        · rw [if_neg d1, if_pos rfl]
          dsimp only
          rw [hat, Option.bind_some]
          dsimp only
          rw [i2, Option.bind_some]
          by_cases d2 : 96 ≤ s (p 5 + i) ∧ s (p 5 + i) ≤ 119
          · rw [if_pos d2, if_neg (by simp)]
            exact good (Or.inr d2)
          · rw [if_neg d2, if_pos rfl]
            exact bad (fun h => h.elim d1 d2)
  obtain ⟨B', c1, c2, c3, c4, -⟩ := loop (fl p 5) 0 sv_fu B hB (by omega) (fu_lt (by omega))
  exact ⟨B', c1, c2, fun h => c3 (fun j hj _ => h j hj), fun h => c4 (fun h' => h (fun j hj => h' j hj (Nat.zero_le _)))⟩
end PT
