/-! ===== PURE: a sign comes ===== -/
def hrF (a0 : Nat) : List (Nat × Nat) := [(1, a0 + 6), (2, a0 + 6), (3, a0 + 6), (4, a0 + 6), (5, a0 + 6)]
def rSv (a0 : Nat) (V : gh_V) (B : md_B) : Prop := rS (V.1 1 (a0 + 6)) (V.1 2 (a0 + 6)) (V.1 3 (a0 + 6)) (V.1 4 (a0 + 6)) (V.1 5 (a0 + 6)) (V.2 (a0 + 7)) (B.1 5) (B.1 7) (B.1 8) (B.1 9) (B.2 6)
def rQv (a0 m : Nat) (V : gh_V) (B : md_B) : Prop := rQ m (V.1 2 (a0 + 6)) (V.1 3 (a0 + 6)) (V.1 4 (a0 + 6)) (V.2 (a0 + 7)) (B.1 7) (B.1 8) (B.2 6)
def HR (a0 : Nat) (V : gh_V) (B : md_B) (x o : Int32) (V' : gh_V) : Prop :=
  ch (hrF a0) [a0 + 7] V V' ∧ (((o = 0 ∨ o = 1) ∧ ∃ B', f_X9_comes B x = some B' ∧ cb [5, 7, 8, 9] [6, 10] B B' ∧ (∀ i, B'.2 10 i = if i = 1 ∧ o = 1 then B.2 10 1 + 1 else B.2 10 i) ∧ rSv a0 V' B') ∨
  (o = 2 ∧ ∃ B1 m, f_X9_comes B x = f_X9_ended B1 ∧ cb [5, 7, 8, 9] [6, 10] B B1 ∧ B1.2 10 = B.2 10 ∧ V'.1 1 (a0 + 6) = 0 ∧ B1.1 5 = 0 ∧ rQv a0 m V' B1 ∧ 0 < m ∧ V'.1 5 (a0 + 6) = B1.1 9))
theorem bind_eta {α : Type} (o : Option α) : (o.bind fun q => some q) = o := by cases o <;> rfl
section HE
variable {a0 : Nat} {T : gh_T} {V : gh_V} {B : md_B}
theorem hr_broke {V2 : gh_V} {B2 : md_B} {x : Int32} (hV : ch (hrF a0) [a0 + 7] V V2) (hB : cb [5, 7, 8, 9] [6, 10] B B2) (h10 : B2.2 10 = B.2 10) (e : f_X9_comes B x = f_X9_comes_278 B2 0) : HR a0 V B x 1 (gh_pf V2 1 (a0 + 6) 0) := by
  refine ⟨hV.pf (by simp [hrF]), Or.inl ⟨Or.inr rfl, _, e.trans (if_pos rfl), (hB.pa (by simp)).pf (by simp), fun i => ?_, ?_, Or.inl ?_⟩⟩
  · rw [bf_2, ba_2]
    show upd (B2.2 10) 1 _ i = _
    rw [h10]
    unfold upd
    by_cases hi : i = 1
    · subst hi
      simp
    · simp [hi]
  · rw [pf_1, bf_1]
  · rw [pf_1]
theorem hr_on {V2 : gh_V} {B2 : md_B} {x : Int32} (hV : ch (hrF a0) [a0 + 7] V V2) (hB : cb [5, 7, 8, 9] [6, 10] B B2) (h10 : B2.2 10 = B.2 10) (e : f_X9_comes B x = f_X9_comes_278 B2 1) (h6 : B2.1 5 ≠ 6) (hS : rSv a0 V2 B2) : HR a0 V B x 0 V2 := by
  refine ⟨hV, Or.inl ⟨Or.inl rfl, B2, e.trans ?_, hB, fun i => ?_, hS⟩⟩
  · unfold f_X9_comes_278
    rw [if_neg (by decide), if_neg h6]
  · rw [h10, if_neg (by simp)]
theorem i32_sum1 (t x : Int32) : t * 16 + x - 48 = 16 * t + (x - 48) := by
  rw [Int32.sub_eq_add_neg, Int32.sub_eq_add_neg, Int32.add_assoc, Int32.mul_comm]
theorem i32_sum2 (t x : Int32) : t * 16 + x - 65 + 10 = 16 * t + (x - 65 + 10) := by
  rw [Int32.sub_eq_add_neg, Int32.sub_eq_add_neg, Int32.add_assoc, Int32.add_assoc, Int32.add_assoc, Int32.mul_comm]
theorem step_1 {n : Int32} : f_X5_step T V (a0 + 6) 1 n = some (0, gh_pf V 1 (a0 + 6) n) := by
  unfold f_X5_step f_X5_step_10
  rw [if_neg (by decide), if_neg (by decide)]
theorem step_0 {n : Int32} : f_X5_step T V (a0 + 6) 0 n = some (1, gh_pf V 1 (a0 + 6) 0) := by
  unfold f_X5_step f_X5_step_10
  rw [if_pos rfl, if_pos rfl]
/-- a digit of the sum -/
theorem hr_digit {x : Int32} {c m : Nat} {st : Int32} {nx : Int32} (hc : c < 256) (hx : x = Int32.ofNat c) (n36 : x ≠ 36) (n33 : x ≠ 33) (hst : V.1 1 (a0 + 6) = st) (hmay : B.1 5 = st) (hcase : st = 2 ∧ nx = 3 ∧ V.1 5 (a0 + 6) = 0 ∨ st = 3 ∧ nx = 4 ∧ V.1 5 (a0 + 6) = B.1 9) (hQ : rQv a0 m V B) (hm : 0 < m) : ∃ o V', f_X5_hearDigit T V (a0 + 6) x nx = some (o, V') ∧ HR a0 V B x o V' := by
  have h0 : ¬ st = 0 := by rcases hcase with ⟨h, -⟩ | ⟨h, -⟩ <;> rw [h] <;> decide
  have h1 : ¬ st = 1 := by rcases hcase with ⟨h, -⟩ | ⟨h, -⟩ <;> rw [h] <;> decide
  have h4 : ¬ 4 ≤ st := by rcases hcase with ⟨h, -⟩ | ⟨h, -⟩ <;> rw [h] <;> decide
  have hnx : st + 1 = nx := by rcases hcase with ⟨h, h', -⟩ | ⟨h, h', -⟩ <;> rw [h, h'] <;> decide
  have hcom : ∀ y s0, f_X9_sixteen B x = some (y, B) → (s0 = if y < 0 then 0 else 1) → f_X9_comes B x = f_X9_comes_278 (md_pf (md_pf B 9 (if st = 2 then y else 16 * B.1 9 + y)) 5 nx) s0 := by
    intro y s0 hy hs0
    unfold f_X9_comes
    rw [if_neg n36, if_neg n33, hmay, if_neg h0, if_neg h1, if_neg h4, hy, Option.bind_some]
    have h2 : f_X9_comes_198 B x s0 = f_X9_comes_278 (md_pf (md_pf B 9 (if st = 2 then y else 16 * B.1 9 + y)) 5 nx) s0 := by
      unfold f_X9_comes_198 f_X9_comes_227
      rw [hmay, hy, Option.bind_some]
      simp only
      rw [bf_n (by decide), hmay, hnx]
      by_cases c2 : st = 2
      · rw [if_pos c2, if_pos c2]
      · rw [if_neg c2, if_neg c2, Option.bind_some]
        simp only
        rw [bf_n (by decide), hmay, hnx]
    by_cases c2 : y < 0
    · rw [if_pos c2] at hs0
      rw [if_pos c2, ← hs0]
      exact h2
    · rw [if_neg c2] at hs0
      rw [if_neg c2, ← hs0]
      exact h2
  have hbad : f_X9_sixteen B x = some (-1, B) → HR a0 V B x 1 (gh_pf V 1 (a0 + 6) 0) := fun hy =>
    hr_broke ch.rf ((cb.rf.pf (by simp)).pf (by simp)) rfl (hcom (-1) 0 hy (by decide))
  have hgood : ∀ y ts, f_X9_sixteen B x = some (y, B) → ¬ y < 0 → ts = (16 * V.1 5 (a0 + 6) + y) → HR a0 V B x 0 (gh_pf (gh_pf V 5 (a0 + 6) ts) 1 (a0 + 6) nx) := by
    intro y ts hy hy0 hts
    refine hr_on ((ch.rf.pf (by simp [hrF])).pf (by simp [hrF])) ((cb.rf.pf (by simp)).pf (by simp)) rfl (hcom y 1 hy (by rw [if_neg hy0])) (by rw [bf_1]; rcases hcase with ⟨-, h', -⟩ | ⟨-, h', -⟩ <;> rw [h'] <;> decide) ?_
    refine ⟨by rw [pf_1, bf_1], Or.inr ⟨m, ?_, Or.inr ⟨hm, Or.inr ⟨?_, ?_⟩⟩⟩⟩
    · rw [pf_n (by simp), pf_n (by simp), pf_n (by simp), pf_n (by simp), pf_n (by simp), pf_n (by simp), bf_n (by decide), bf_n (by decide), bf_n (by decide), bf_n (by decide)]
      exact hQ
    · rw [pf_n (by simp), pf_1, bf_n (by decide), bf_1, hts]
      rcases hcase with ⟨h, -, h'⟩ | ⟨h, -, h'⟩
      · rw [h, if_pos rfl, h']
        have : (16 : Int32) * 0 = 0 := by decide
        rw [this, Int32.zero_add]
      · rw [h, if_neg (by decide), h']
    · rw [pf_1]
      rcases hcase with ⟨-, h', -⟩ | ⟨-, h', -⟩
      · exact Or.inl h'
      · exact Or.inr (Or.inl h')
  subst hx
  unfold f_X5_hearDigit f_X5_hearDigit_35 f_X5_hearDigit_73
  rw [step_0, step_1, step_1]
  have lo : (Int32.ofNat c < 48 ∨ 57 < Int32.ofNat c) → ∃ o V', (if Int32.ofNat c < 65 then ((some (1, gh_pf V 1 (a0 + 6) 0) : Option (Int32 × gh_V)).bind fun q76 => some (q76.1, q76.2)) else if 70 < Int32.ofNat c then ((some (1, gh_pf V 1 (a0 + 6) 0) : Option (Int32 × gh_V)).bind fun q76 => some (q76.1, q76.2)) else ((some (0, gh_pf (gh_pf V 5 (a0 + 6) (((V.1 5 (a0 + 6) * 16 + Int32.ofNat c) - 65) + 10)) 1 (a0 + 6) nx) : Option (Int32 × gh_V)).bind fun q69 => some (q69.1, q69.2))) = some (o, V') ∧ HR a0 V B (Int32.ofNat c) o V' := by
    intro hlo
    by_cases c3 : Int32.ofNat c < 65
    · refine ⟨_, _, if_pos c3, hbad ?_⟩
      unfold f_X9_sixteen
      rw [in_n (lo := 48) (hi := 57) (l := 48) (h := 57) rfl rfl hlo, Option.bind_some, if_pos rfl, in_n (lo := 65) (hi := 70) (l := 65) (h := 70) rfl rfl (Or.inl c3), Option.bind_some, if_pos rfl]
    · rw [if_neg c3]
      by_cases c4 : 70 < Int32.ofNat c
      · refine ⟨_, _, if_pos c4, hbad ?_⟩
        unfold f_X9_sixteen
        rw [in_n (lo := 48) (hi := 57) (l := 48) (h := 57) rfl rfl hlo, Option.bind_some, if_pos rfl, in_n (lo := 65) (hi := 70) (l := 65) (h := 70) rfl rfl (Or.inr c4), Option.bind_some, if_pos rfl]
      · refine ⟨_, _, if_neg c4, hgood (Int32.ofNat c - 65 + 10) _ ?_ ?_ (i32_sum2 _ _)⟩
        · unfold f_X9_sixteen
          rw [in_n (lo := 48) (hi := 57) (l := 48) (h := 57) rfl rfl hlo, Option.bind_some, if_pos rfl, in_y (lo := 65) (hi := 70) (l := 65) (h := 70) rfl rfl c3 c4, Option.bind_some, if_neg (one_ne (B := B))]
        · have h1 := mt (nl_gt 65 65 rfl (by decide) (by omega)).mpr c3
          rw [show (65 : Int32) = Int32.ofNat 65 from rfl, show (10 : Int32) = Int32.ofNat 10 from rfl, nu_sub (by omega), nu_add]
          exact nu_neg (by omega)
  by_cases c1 : Int32.ofNat c < 48
  · rw [if_pos c1]
    exact lo (Or.inl c1)
  · rw [if_neg c1]
    by_cases c2 : 57 < Int32.ofNat c
    · rw [if_pos c2]
      exact lo (Or.inr c2)
    · rw [if_neg c2]
      refine ⟨_, _, rfl, hgood (Int32.ofNat c - 48) _ ?_ ?_ (i32_sum1 _ _)⟩
      · unfold f_X9_sixteen
        rw [in_y (lo := 48) (hi := 57) (l := 48) (h := 57) rfl rfl c1 c2, Option.bind_some, if_neg (one_ne (B := B))]
      · have h1 := mt (nl_gt 48 48 rfl (by decide) (by omega)).mpr c1
        rw [show (48 : Int32) = Int32.ofNat 48 from rfl, nu_sub (by omega)]
        exact nu_neg (by omega)
theorem hear_s (hs : sh a0 T) (h : rSv a0 V B) {c : Nat} (hc : c < 256) : ∃ o V', f_X5_hear T V (a0 + 6) (Int32.ofNat c) = some (o, V') ∧ HR a0 V B (Int32.ofNat c) o V' := by
  obtain ⟨hst, hrest⟩ := h
  have begin_ : (Int32.ofNat c = 36 ∨ Int32.ofNat c = 33) → ∃ o V', f_X5_hear_12 T (a0 + 6) V (Int32.ofNat c) = some (o, V') ∧ HR a0 V B (Int32.ofNat c) o V' := by
    intro hb
    have hcm : f_X9_comes B (Int32.ofNat c) = f_X9_comes_12 B (Int32.ofNat c) := by
      unfold f_X9_comes
      by_cases c1 : Int32.ofNat c = 36
      · rw [if_pos c1]
      · rw [if_neg c1, if_pos (hb.resolve_left c1)]
    have hS : ∀ B2 : md_B, rSv a0 (gh_pf (gh_pf (gh_pf (gh_pf (gh_pf V 1 (a0 + 6) 1) 2 (a0 + 6) (Int32.ofNat c)) 3 (a0 + 6) 0) 4 (a0 + 6) 0) 5 (a0 + 6) 0) (md_pf (md_pf (md_pa (md_pf B2 5 1) 6 0 (Int32.ofNat c)) 7 1) 8 0) := by
      intro B2
      refine ⟨?_, Or.inr ⟨0, ⟨by decide, ?_, ?_, ?_, ?_, ?_, fun i hi => by omega⟩, Or.inl ⟨?_, pf_1⟩⟩⟩
      · rw [pf_n (by simp), pf_n (by simp), pf_n (by simp), pf_n (by simp), pf_1, bf_n (by decide), bf_n (by decide), ba_1, bf_1]
      · rw [pf_n (by simp), pf_n (by simp), pf_1]
        rfl
      · rw [bf_n (by decide), bf_1]
        rfl
      · rw [pf_n (by simp), pf_1, bf_1]
      · rw [pf_n (by simp), pf_n (by simp), pf_n (by simp), pf_1]
        show _ = upd (B2.2 6) 0 (Int32.ofNat c) 0
        simp [upd]
      · rw [pf_n (by simp), pf_n (by simp), pf_n (by simp), pf_1]
        exact hb
      · rw [pf_n (by simp), pf_n (by simp), pf_n (by simp), pf_n (by simp), pf_1]
    unfold f_X5_hear_12 f_X5_begin f_X5_begin_12
    by_cases c0 : V.1 1 (a0 + 6) = 0
    · rw [if_pos c0]
      refine ⟨_, _, rfl, ⟨((((ch.rf.pf (by simp [hrF])).pf (by simp [hrF])).pf (by simp [hrF])).pf (by simp [hrF])).pf (by simp [hrF]), Or.inl ⟨Or.inl rfl, _, hcm.trans ?_, ?_, ?_, hS (md_pa B 10 1 ((B.2 10 1) + 0))⟩⟩⟩
      · unfold f_X9_comes_12 f_X9_comes_31
        rw [if_pos (by rw [← hst]; exact c0), show sv_inb (1 : Int32) 9 = true from by decide, sv_g_t rfl]
        rfl
      · exact ((((cb.rf.pa (by simp)).pf (by simp)).pa (by simp)).pf (by simp)).pf (by simp)
      · intro i
        show upd (B.2 10) 1 (B.2 10 1 + 0) i = _
        unfold upd
        by_cases hi : i = 1
        · subst hi
          simp
        · simp [hi]
    · rw [if_neg c0]
      refine ⟨_, _, rfl, ⟨((((ch.rf.pf (by simp [hrF])).pf (by simp [hrF])).pf (by simp [hrF])).pf (by simp [hrF])).pf (by simp [hrF]), Or.inl ⟨Or.inr rfl, _, hcm.trans ?_, ?_, ?_, hS (md_pa B 10 1 ((B.2 10 1) + 1))⟩⟩⟩
      · unfold f_X9_comes_12 f_X9_comes_31
        rw [if_neg (by rw [← hst]; exact c0), show sv_inb (1 : Int32) 9 = true from by decide, sv_g_t rfl]
        rfl
      · exact ((((cb.rf.pa (by simp)).pf (by simp)).pa (by simp)).pf (by simp)).pf (by simp)
      · intro i
        show upd (B.2 10) 1 (B.2 10 1 + 1) i = _
        unfold upd
        by_cases hi : i = 1
        · subst hi
          simp
        · simp [hi]
  unfold f_X5_hear
  by_cases c36 : Int32.ofNat c = 36
  · rw [if_pos c36]
    exact begin_ (Or.inl c36)
  by_cases c33 : Int32.ofNat c = 33
  · rw [if_neg c36, if_pos c33]
    exact begin_ (Or.inr c33)
  rw [if_neg c36, if_neg c33]
  rcases hrest with h0 | ⟨m, hQ, hst1⟩
  · have hm0 : B.1 5 = 0 := by rw [← hst]; exact h0
    rw [h0, if_neg (by decide), if_neg (by decide), if_neg (by decide), if_neg (by decide), if_neg (by decide)]
    refine ⟨_, _, rfl, ch.rf, Or.inl ⟨Or.inl rfl, B, ?_, cb.rf, fun i => by rw [if_neg (by simp)], hst, Or.inl h0⟩⟩
    unfold f_X9_comes
    rw [if_neg c36, if_neg c33, if_pos hm0]
  · have hQ0 : rQv a0 m V B := hQ
    obtain ⟨q1, q2, q3, q4, q5, q6, q7⟩ := hQ
    rcases hst1 with ⟨s1, t1⟩ | ⟨hm, ⟨s1, t1⟩ | ⟨t1, s1 | s1 | s1⟩⟩
    · -- the body
      have m1 : B.1 5 = 1 := by rw [← hst]; exact s1
      rw [if_pos s1]
      have hcm : f_X9_comes B (Int32.ofNat c) = if Int32.ofNat c = 42 then (if (B.1 7) ≤ 1 then f_X9_comes_122 B (Int32.ofNat c) 0 else f_X9_comes_122 B (Int32.ofNat c) 1) else ((f_X9_in B (Int32.ofNat c).toInt64 32 126).bind (fun q102 => if q102.1 = 0 then f_X9_comes_121 q102.2 (Int32.ofNat c) else if 78 < (q102.2.1 7) then f_X9_comes_121 q102.2 (Int32.ofNat c) else f_X9_comes_122 q102.2 (Int32.ofNat c) 1)) := by
        unfold f_X9_comes
        rw [if_neg c36, if_neg c33, m1, if_neg (by decide), if_pos rfl]
      have h122 : f_X9_comes_122 B (Int32.ofNat c) 0 = f_X9_comes_278 B 0 := by
        unfold f_X9_comes_122 f_X9_comes_141
        rw [if_pos rfl, if_pos rfl]
      by_cases c42 : Int32.ofNat c = 42
      · rw [if_pos c42]
        rw [if_pos c42] at hcm
        by_cases hm : m = 0
        · subst hm
          rw [if_pos (by rw [q2]; decide)]
          rw [if_pos (by rw [q3]; decide), h122] at hcm
          unfold f_X5_hear_75
          rw [step_0]
          exact ⟨_, _, rfl, hr_broke ch.rf cb.rf rfl hcm⟩
        · rw [if_neg (by rw [q2, nl_ge 0 0 rfl (by decide) (by omega)]; omega)]
          rw [if_neg (by rw [q3, nl_ge 1 1 rfl (by decide) (by omega)]; omega)] at hcm
          unfold f_X5_hear_75
          rw [step_1]
          refine ⟨_, _, rfl, hr_on (ch.rf.pf (by simp [hrF])) (cb.rf.pf (by simp)) (B2 := md_pf B 5 2) rfl ?_ (by rw [bf_1]; decide) ⟨by rw [pf_1, bf_1], Or.inr ⟨m, ?_, Or.inr ⟨by omega, Or.inl ⟨pf_1, by rw [pf_n (by simp)]; exact t1⟩⟩⟩⟩⟩
          · rw [hcm]
            unfold f_X9_comes_122
            rw [if_neg (by decide), if_pos c42]
          · rw [pf_n (by simp), pf_n (by simp), pf_n (by simp), bf_n (by decide), bf_n (by decide)]
            exact hQ0
      · rw [if_neg c42]
        rw [if_neg c42] at hcm
        have bad : f_X9_comes B (Int32.ofNat c) = f_X9_comes_278 B 0 → ∃ o V', ((f_X5_store_28 T (a0 + 6) V).bind fun q84 => some (q84.1, q84.2)) = some (o, V') ∧ HR a0 V B (Int32.ofNat c) o V' := by
          intro e
          unfold f_X5_store_28
          rw [step_0]
          exact ⟨_, _, rfl, hr_broke ch.rf cb.rf rfl e⟩
        have h121 : f_X9_comes_121 B (Int32.ofNat c) = f_X9_comes_278 B 0 := h122
        unfold f_X5_store
        by_cases d1 : Int32.ofNat c < 32
        · rw [if_pos d1]
          refine bad ?_
          rw [hcm, in_n (lo := 32) (hi := 126) (l := 32) (h := 126) rfl rfl (Or.inl d1), Option.bind_some, if_pos rfl]
          exact h121
        · rw [if_neg d1]
          by_cases d2 : 126 < Int32.ofNat c
          · rw [if_pos d2]
            refine bad ?_
            rw [hcm, in_n (lo := 32) (hi := 126) (l := 32) (h := 126) rfl rfl (Or.inr d2), Option.bind_some, if_pos rfl]
            exact h121
          · have d1' := mt (nl_gt 32 32 rfl (by decide) (by omega)).mpr d1
            have d2' := mt (nl_lt 126 126 rfl (by decide) (by omega)).mpr d2
            rw [in_y (lo := 32) (hi := 126) (l := 32) (h := 126) rfl rfl d1 d2, Option.bind_some, if_neg (one_ne (B := B))] at hcm
            simp only at hcm
            rw [q3] at hcm
            rw [if_neg d2, q2, if_neg (nu_neg (by omega))]
            by_cases d3 : m < 78
            · rw [if_neg (by rw [nl_lt 78 78 rfl (by decide) (by omega)]; omega)] at hcm
              rw [if_pos ((nl_gt 78 78 rfl (by decide) (by omega)).mpr d3), hs.r0_6, Option.bind_some, hs.l7, nu_inb (by omega) d3, sv_g_t rfl, pa_1, q2, nu_s, pf_n (by simp), pa_1]
              refine ⟨_, _, rfl, hr_on (((ch.rf.pa (by simp)).pf (by simp [hrF])).pf (by simp [hrF])) (B2 := md_pf (md_pf (md_pa B 6 (Int32.ofNat (m + 1)) (Int32.ofNat c)) 7 (Int32.ofNat (m + 1 + 1))) 8 (B.1 8 ^^^ Int32.ofNat c)) (((cb.rf.pa (by simp)).pf (by simp)).pf (by simp)) ?_ ?_ ?_ ?_⟩
              · rw [bf_2, bf_2, ba_n (by decide)]
              · rw [hcm]
                unfold f_X9_comes_122 f_X9_comes_141
                rw [if_neg (by decide), if_neg c42, if_neg (by decide), q3, nu_inb (by omega) (by omega), sv_g_t rfl, ba_1, q3, nu_s, bf_n (by decide), ba_1]
              · rw [bf_n (by decide), bf_n (by decide), ba_1, m1]
                decide
              · refine ⟨?_, Or.inr ⟨m + 1, ⟨by omega, ?_, ?_, ?_, ?_, ?_, fun i hi => ?_⟩, Or.inl ⟨?_, ?_⟩⟩⟩
                · rw [pf_n (by simp), pf_n (by simp), pa_1, bf_n (by decide), bf_n (by decide), ba_1]
                  exact hst
                · rw [pf_n (by simp), pf_1]
                · rw [bf_n (by decide), bf_1]
                · rw [pf_1, bf_1, q4]
                · rw [pf_n (by simp), pf_n (by simp), pa_1, bf_2, bf_2, ba_2, nu_nat (by omega), q5]
                  simp [upd]
                · rw [pf_n (by simp), pf_n (by simp), pa_1]
                  exact q6
                · rw [pf_2, pf_2, pa_2, bf_2, bf_2, ba_2, nu_nat (by omega), nu_nat (by omega)]
                  have hpb : vp_nar .byte (Int32.ofNat c).toInt8.toInt32 = Int32.ofNat c := pb_small (by omega)
                  rw [hpb]
                  unfold upd
                  by_cases e : i = m
                  · rw [if_pos e, if_pos (by omega)]
                    exact ⟨rfl, c, by omega, by omega, rfl⟩
                  · rw [if_neg e, if_neg (by omega)]
                    exact q7 i (by omega)
                · rw [pf_n (by simp), pf_n (by simp), pa_1]
                  exact s1
                · rw [pf_n (by simp), pf_n (by simp), pa_1]
                  exact t1
            · rw [if_pos (by rw [nl_lt 78 78 rfl (by decide) (by omega)]; omega)] at hcm
              rw [if_neg (mt (nl_gt 78 78 rfl (by decide) (by omega)).mp d3)]
              refine bad ?_
              rw [hcm]
              exact h121
    · obtain ⟨o, V', e1, e2⟩ := hr_digit (T := T) (st := 2) (nx := 3) hc rfl c36 c33 s1 (by rw [← hst]; exact s1) (Or.inl ⟨rfl, rfl, t1⟩) hQ0 hm
      rw [s1, if_neg (by decide), if_pos rfl, e1]
      exact ⟨o, V', rfl, e2⟩
    · obtain ⟨o, V', e1, e2⟩ := hr_digit (T := T) (st := 3) (nx := 4) hc rfl c36 c33 s1 (by rw [← hst]; exact s1) (Or.inr ⟨rfl, rfl, t1⟩) hQ0 hm
      rw [s1, if_neg (by decide), if_neg (by decide), if_pos rfl, e1]
      exact ⟨o, V', rfl, e2⟩
    · have m1 : B.1 5 = 4 := by rw [← hst]; exact s1
      rw [s1, if_neg (by decide), if_neg (by decide), if_neg (by decide), if_pos rfl]
      have hcm : f_X9_comes B (Int32.ofNat c) = f_X9_comes_259 B 13 (Int32.ofNat c) := by
        unfold f_X9_comes
        rw [if_neg c36, if_neg c33, m1, if_neg (by decide), if_neg (by decide), if_pos (by decide), if_pos rfl]
      unfold f_X9_comes_259 f_X9_comes_267 at hcm
      rw [m1] at hcm
      unfold f_X5_hear_114
      by_cases d : Int32.ofNat c = 13
      · rw [if_pos d] at hcm
        rw [if_pos d, step_1]
        refine ⟨_, _, rfl, hr_on (ch.rf.pf (by simp [hrF])) (cb.rf.pf (by simp)) rfl hcm (by rw [bf_1]; decide) ⟨by rw [pf_1, bf_1]; decide, Or.inr ⟨m, ?_, Or.inr ⟨hm, Or.inr ⟨?_, Or.inr (Or.inr pf_1)⟩⟩⟩⟩⟩
        · rw [pf_n (by simp), pf_n (by simp), pf_n (by simp), bf_n (by decide), bf_n (by decide)]
          exact hQ0
        · rw [pf_n (by simp), bf_n (by decide)]
          exact t1
      · rw [if_neg d] at hcm
        rw [if_neg d, step_0]
        exact ⟨_, _, rfl, hr_broke ch.rf (cb.rf.pf (by simp)) rfl hcm⟩
    · have m1 : B.1 5 = 5 := by rw [← hst]; exact s1
      rw [s1, if_neg (by decide), if_neg (by decide), if_neg (by decide), if_neg (by decide), if_pos rfl]
      have hcm : f_X9_comes B (Int32.ofNat c) = f_X9_comes_259 B 10 (Int32.ofNat c) := by
        unfold f_X9_comes
        rw [if_neg c36, if_neg c33, m1, if_neg (by decide), if_neg (by decide), if_pos (by decide), if_neg (by decide)]
      unfold f_X9_comes_259 f_X9_comes_267 at hcm
      rw [m1] at hcm
      by_cases d : Int32.ofNat c = 10
      · rw [if_pos d] at hcm
        rw [if_pos d]
        refine ⟨_, _, rfl, ch.rf.pf (by simp [hrF]), Or.inr ⟨rfl, md_pf (md_pf B 5 (5 + 1)) 5 0, m, ?_, (cb.rf.pf (by simp)).pf (by simp), rfl, pf_1, bf_1, ?_, hm, ?_⟩⟩
        · rw [hcm]
          unfold f_X9_comes_278
          rw [if_neg (by decide), if_pos (by rw [bf_1]; decide), bind_eta]
        · unfold rQv
          rw [pf_n (by simp), pf_n (by simp), pf_n (by simp), bf_n (by decide), bf_n (by decide), bf_n (by decide), bf_n (by decide)]
          exact hQ0
        · rw [pf_n (by simp), bf_n (by decide), bf_n (by decide)]
          exact t1
      · rw [if_neg d] at hcm
        rw [if_neg d]
        exact ⟨_, _, rfl, hr_broke ch.rf (cb.rf.pf (by simp)) rfl hcm⟩
end HE
