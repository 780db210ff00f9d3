/-! ===== PURE: a sentence into fields ===== -/
section SP
variable {a0 m : Nat} {s : Nat → Nat} {T : gh_T} {V0 : gh_V} {B0 : md_B}
def pu (p : Nat → Nat) (c x : Nat) : Nat → Nat := fun f => if f = c then x else p f
theorem pu_1 {p : Nat → Nat} {c x : Nat} : pu p c x c = x := by simp [pu]
theorem pu_n {p : Nat → Nat} {c x f : Nat} (h : f ≠ c) : pu p c x f = p f := by simp [pu, h]
/-- so far: i signs, c fields have ended -/
def SPI (a0 : Nat) (s : Nat → Nat) (V0 : gh_V) (B0 : md_B) (i c : Nat) (p : Nat → Nat) (V : gh_V) (B : md_B) : Prop :=
  ch [(2, a0 + 8)] [a0 + 9, a0 + 10] V0 V ∧ cb [13] [11, 12] B0 B ∧ c ≤ i ∧ V.1 2 (a0 + 8) = Int32.ofNat (c + 1) ∧ (∀ j, j < i → V.2 (a0 + 9) j = Int32.ofNat (s j)) ∧ (∀ f, f ≤ c → V.2 (a0 + 10) f = Int32.ofNat (p f)) ∧ B.1 13 = Int32.ofNat c ∧ (∀ f, f ≤ c → B.2 11 f = Int32.ofNat (p f + 1)) ∧ (∀ f, f < c → B.2 12 f = Int32.ofNat (p (f + 1))) ∧ p 0 = 0 ∧ (∀ f, f < c → p f < p (f + 1) ∧ p (f + 1) ≤ i ∧ s (p (f + 1) - 1) = 44) ∧ p c ≤ i
theorem split_l (hs : sh a0 T) (hm : m ≤ 78) (hln : V0.1 3 (a0 + 6) = Int32.ofNat m) (hsg : ∀ i, i < m → V0.2 (a0 + 7) i = Int32.ofNat (s i) ∧ B0.2 6 (i + 1) = Int32.ofNat (s i) ∧ 32 ≤ s i ∧ s i ≤ 126) (h7 : B0.1 7 = Int32.ofNat (m + 1)) : ∀ (k i c n n' : Nat) (p : Nat → Nat) (V : gh_V) (B : md_B), i + k = m → k < n → SPI a0 s V0 B0 i c p V B → ∃ V' B' nf p', f_X1_split_38 T (a0 + 8) (a0 + 6) n V (Int32.ofNat m) (Int32.ofNat i) = some V' ∧ f_X9_ended_36 (n' + k + 1) B (Int32.ofNat (i + 1)) = f_X9_ended_36 n' B' (Int32.ofNat (m + 2)) ∧ ch [(2, a0 + 8)] [a0 + 9, a0 + 10] V0 V' ∧ cb [13] [11, 12] B0 B' ∧ FS m s nf p' ∧ FC a0 m s nf p' V' ∧ FB m s nf p' B' := by
  intro k
  induction k with
  | zero =>
    intro i c n n' p V B hi hn hI
    cases n with
    | zero => omega
    | succ n =>
      have him : i = m := by omega
      subst him
      obtain ⟨hV, hB, hc, h1, h2, h3, g1, g2, g3, hp0, hp, hpc⟩ := hI
      have h7' : B.1 7 = Int32.ofNat (i + 1) := by rw [hB.1 _ (by decide)]; exact h7
      refine ⟨gh_pa V (a0 + 10) (Int32.ofNat (c + 1)) (Int32.ofNat (i + 1)), md_pa (md_pf (md_pa B 12 (Int32.ofNat c) (Int32.ofNat (i + 1))) 13 (Int32.ofNat (c + 1))) 11 (Int32.ofNat (c + 1)) (Int32.ofNat (i + 1 + 1)), c + 1, pu p (c + 1) (i + 1), ?_, ?_, hV.pa (by simp), ((hB.pa (by simp)).pf (by simp)).pa (by simp), ?_, ?_, ?_⟩
      · unfold f_X1_split_38
        rw [if_pos ((nu_le (by omega) (by omega)).mpr (Nat.le_refl _)), hs.r1_8, Option.bind_some, hs.l10, h1, nu_inb (by omega) (by omega), sv_g_t rfl, nu_s]
      · conv => lhs; unfold f_X9_ended_36
        unfold f_X9_ended_63 f_X9_ended_95
        rw [h7', if_neg Int32.lt_irrefl, if_pos rfl, g1, nu_inb (by omega) (by omega), sv_g_t rfl, ba_1, g1, nu_s, bf_1, nu_inb (by omega) (by omega), sv_g_t rfl, nu_s]
      · refine ⟨hm, by omega, by omega, fun j hj => (hsg j hj).2.2, ?_, fun f hf => ?_, pu_1, fun f hf => ?_⟩
        · rw [pu_n (by omega)]; exact hp0
        · by_cases hfc : f = c
          · subst hfc
            rw [pu_1, pu_n (by omega)]
            omega
          · rw [pu_n (by omega), pu_n (by omega)]
            have := hp f (by omega)
            omega
        · rw [pu_n (by omega)]
          exact (hp f (by omega)).2.2
      · refine ⟨h1, fun j hj => by rw [pa_n (by omega)]; exact h2 j hj, fun f hf => ?_⟩
        rw [pa_2, nu_nat (by omega)]
        unfold upd
        by_cases hfc : f = c + 1
        · rw [if_pos hfc, hfc, pu_1]
        · rw [if_neg hfc, pu_n hfc]
          exact h3 f (by omega)
      · refine ⟨?_, fun j hj => ?_, fun f hf => ⟨?_, ?_⟩⟩
        · rw [ba_1, bf_1]
        · rw [ba_n (by decide), bf_2, ba_n (by decide), hB.2 _ (by decide)]
          exact (hsg j hj).2.1
        · rw [ba_2, nu_nat (by omega), bf_2, ba_n (by decide)]
          unfold upd
          rw [if_neg (by omega), pu_n (by omega)]
          exact g2 f (by omega)
        · rw [ba_n (by decide), bf_2, ba_2, nu_nat (by omega)]
          unfold upd
          by_cases hfc : f = c
          · rw [if_pos hfc, hfc, pu_1]
          · rw [if_neg hfc, pu_n (by omega)]
            exact g3 f (by omega)
  | succ k ih =>
    intro i c n n' p V B hi hn hI
    cases n with
    | zero => omega
    | succ n =>
      have hI0 := hI
      obtain ⟨hV, hB, hc, h1, h2, h3, g1, g2, g3, hp0, hp, hpc⟩ := hI
      obtain ⟨s1, s2, s3, s4⟩ := hsg i (by omega)
      have h7' : B.1 7 = Int32.ofNat (m + 1) := by rw [hB.1 _ (by decide)]; exact h7
      have hat : f_X5_at T V (a0 + 6) (Int32.ofNat i) = some (Int32.ofNat (s i), V) := by
        unfold f_X5_at
        rw [if_neg (nu_neg (by omega)), hV.1 _ _ (by simp), hln, if_neg (mt (nu_le (by omega) (by omega)).mp (by omega)), if_neg (mt (nl_le 78 78 rfl (by decide) (by omega)).mp (by omega)), hs.r0_6, Option.bind_some, hs.l7, nu_inb (by omega) (by omega), sv_g_t rfl, nu_nat (by omega), hV.2 _ (by simp), s1]
      have hpb : vp_nar .byte (Int32.ofNat (s i)).toInt8.toInt32 = Int32.ofNat (s i) := pb_small (by omega)
      have hB6 : B.2 6 (i + 1) = Int32.ofNat (s i) := by rw [hB.2 _ (by decide)]; exact s2
      have hj : ∀ j, j < i + 1 → (gh_pa V (a0 + 9) (Int32.ofNat i) (Int32.ofNat (s i))).2 (a0 + 9) j = Int32.ofNat (s j) := by
        intro j hj
        rw [pa_2, nu_nat (by omega)]
        unfold upd
        by_cases e : j = i
        · rw [if_pos e, e]
        · rw [if_neg e]
          exact h2 j (by omega)
      by_cases h44 : s i = 44
      · have hnew : SPI a0 s V0 B0 (i + 1) (c + 1) (pu p (c + 1) (i + 1)) (gh_pf (gh_pa (gh_pa V (a0 + 9) (Int32.ofNat i) (Int32.ofNat (s i))) (a0 + 10) (Int32.ofNat (c + 1)) (Int32.ofNat (i + 1))) 2 (a0 + 8) (Int32.ofNat (c + 1 + 1))) (md_pa (md_pf (md_pa B 12 (Int32.ofNat c) (Int32.ofNat (i + 1))) 13 (Int32.ofNat (c + 1))) 11 (Int32.ofNat (c + 1)) (Int32.ofNat (i + 1 + 1))) := by
          refine ⟨((hV.pa (by simp)).pa (by simp)).pf (by simp), ((hB.pa (by simp)).pf (by simp)).pa (by simp), by omega, pf_1, fun j hj' => ?_, fun f hf => ?_, ?_, fun f hf => ?_, fun f hf => ?_, ?_, fun f hf => ?_, ?_⟩
          · rw [pf_2, pa_n (by omega)]
            exact hj j hj'
          · rw [pf_2, pa_2, nu_nat (by omega), pa_n (by omega)]
            unfold upd
            by_cases hfc : f = c + 1
            · rw [if_pos hfc, hfc, pu_1]
            · rw [if_neg hfc, pu_n hfc]
              exact h3 f (by omega)
          · rw [ba_1, bf_1]
          · rw [ba_2, nu_nat (by omega), bf_2, ba_n (by decide)]
            unfold upd
            by_cases hfc : f = c + 1
            · rw [if_pos hfc, hfc, pu_1]
            · rw [if_neg hfc, pu_n hfc]
              exact g2 f (by omega)
          · rw [ba_n (by decide), bf_2, ba_2, nu_nat (by omega)]
            unfold upd
            by_cases hfc : f = c
            · rw [if_pos hfc, hfc, pu_1]
            · rw [if_neg hfc, pu_n (by omega)]
              exact g3 f (by omega)
          · rw [pu_n (by omega)]; exact hp0
          · by_cases hfc : f = c
            · subst hfc
              rw [pu_1, pu_n (by omega)]
              exact ⟨by omega, Nat.le_refl _, by rw [Nat.add_sub_cancel]; exact h44⟩
            · rw [pu_n (by omega), pu_n (by omega)]
              have := hp f (by omega)
              exact ⟨this.1, by omega, this.2.2⟩
          · rw [pu_1]
            exact Nat.le_refl _
        obtain ⟨V', B', nf, p', e1, e2, e3⟩ := ih (i + 1) (c + 1) n n' _ _ _ (by omega) (by omega) hnew
        refine ⟨V', B', nf, p', ?_, ?_, e3⟩
        · rw [← e1]
          conv => lhs; unfold f_X1_split_38
          unfold f_X1_split_102
          have e79 : Int32.ofNat 80 - 1 = Int32.ofNat 79 := by decide
          rw [if_neg (mt (nu_le (by omega) (by omega)).mp (by omega)), hat, Option.bind_some, hs.r0_8, Option.bind_some, hs.l9, nu_inb (by omega) (by omega), sv_g_t rfl]
          simp only
          rw [if_pos (by rw [h44]; rfl), hs.r1_8, Option.bind_some, hs.l10, hpb, pa_1, h1, e79, if_neg (mt (nu_le (by omega) (by omega)).mp (by omega)), Option.bind_some, hs.l10, nu_inb (by omega) (by omega), sv_g_t rfl, pa_1, pa_1, h1, nu_s, nu_s]
        · rw [← e2, show n' + (k + 1) + 1 = (n' + k + 1) + 1 by omega]
          conv => lhs; unfold f_X9_ended_36
          unfold f_X9_ended_63 f_X9_ended_95
          rw [h7', if_neg (mt (nu_lt (by omega) (by omega)).mp (by omega)), if_neg (by rw [nu_eq (by omega) (by omega)]; omega), nu_inb (n := i + 1) (by omega) (by omega), sv_g_t rfl, nu_nat (n := i + 1) (by omega), hB6, if_pos (by rw [h44]; rfl), g1, nu_inb (by omega) (by omega), sv_g_t rfl, ba_1, g1, nu_s, bf_1, nu_inb (by omega) (by omega), sv_g_t rfl, nu_s]
      · have hnew : SPI a0 s V0 B0 (i + 1) c p (gh_pa V (a0 + 9) (Int32.ofNat i) (Int32.ofNat (s i))) B := by
          refine ⟨hV.pa (by simp), hB, by omega, h1, hj, fun f hf => ?_, g1, g2, g3, hp0, fun f hf => ?_, by omega⟩
          · rw [pa_n (by omega)]
            exact h3 f hf
          · have := hp f hf
            exact ⟨this.1, by omega, this.2.2⟩
        obtain ⟨V', B', nf, p', e1, e2, e3⟩ := ih (i + 1) c n n' _ _ _ (by omega) (by omega) hnew
        refine ⟨V', B', nf, p', ?_, ?_, e3⟩
        · rw [← e1]
          conv => lhs; unfold f_X1_split_38
          unfold f_X1_split_102
          rw [if_neg (mt (nu_le (by omega) (by omega)).mp (by omega)), hat, Option.bind_some, hs.r0_8, Option.bind_some, hs.l9, nu_inb (by omega) (by omega), sv_g_t rfl]
          simp only
          rw [if_neg (mt (nl_eq 44 44 rfl (by decide) (by omega)).mp h44), hpb, nu_s]
        · rw [← e2, show n' + (k + 1) + 1 = (n' + k + 1) + 1 by omega]
          conv => lhs; unfold f_X9_ended_36
          unfold f_X9_ended_95
          rw [h7', if_neg (mt (nu_lt (by omega) (by omega)).mp (by omega)), if_neg (by rw [nu_eq (by omega) (by omega)]; omega), nu_inb (n := i + 1) (by omega) (by omega), sv_g_t rfl, nu_nat (n := i + 1) (by omega), hB6, if_neg (mt (nl_eq 44 44 rfl (by decide) (by omega)).mp h44), nu_s]
/-- the reference behind the fields -/
def endT (B : md_B) : Option md_B :=
  (f_X9_form B).bind (fun q102 => if 0 ≤ q102.1 then (f_X9_fits q102.2 q102.1).bind (fun q125 => if q125.1 = 0 then some (md_pa q125.2 10 4 ((q125.2.2 10 (4 : Int32).toNatClampNeg) + 1)) else (f_X9_taken (md_pa q125.2 10 0 ((q125.2.2 10 (0 : Int32).toNatClampNeg) + 1)) q102.1).bind (fun q156 => some (q156))) else some (md_pa q102.2 10 3 ((q102.2.2 10 (3 : Int32).toNatClampNeg) + 1)))
theorem split_s {V : gh_V} {B : md_B} (hs : sh a0 T) (hQ : rQv a0 m V B) (hsum : B.1 9 = B.1 8) : ∃ V' B' nf p s, f_X1_split T V (a0 + 8) (a0 + 6) = some V' ∧ f_X9_ended B = endT B' ∧ ch [(2, a0 + 8), (3, a0 + 8)] [a0 + 9, a0 + 10] V V' ∧ cb [13] [11, 12] B B' ∧ FS m s nf p ∧ FC a0 m s nf p V' ∧ FB m s nf p B' ∧ V'.1 3 (a0 + 8) = 1 := by
  obtain ⟨q1, q2, q3, q4, q5, q6, q7⟩ := hQ
  have hV0 : ch [(2, a0 + 8), (3, a0 + 8)] [a0 + 9, a0 + 10] V (gh_pa (gh_pf (gh_pf V 3 (a0 + 8) 1) 2 (a0 + 8) 1) (a0 + 10) 0 0) := ((ch.rf.pf (by simp)).pf (by simp)).pa (by simp)
  have hB0 : cb [13] [11, 12] B (md_pa (md_pf B 13 0) 11 0 1) := (cb.rf.pf (by simp)).pa (by simp)
  have hsg : ∀ i, i < m → (gh_pa (gh_pf (gh_pf V 3 (a0 + 8) 1) 2 (a0 + 8) 1) (a0 + 10) 0 0).2 (a0 + 7) i = Int32.ofNat (V.2 (a0 + 7) i).toNatClampNeg ∧ (md_pa (md_pf B 13 0) 11 0 1).2 6 (i + 1) = Int32.ofNat (V.2 (a0 + 7) i).toNatClampNeg ∧ 32 ≤ (V.2 (a0 + 7) i).toNatClampNeg ∧ (V.2 (a0 + 7) i).toNatClampNeg ≤ 126 := by
    intro i hi
    obtain ⟨e1, c, c1, c2, c3⟩ := q7 i hi
    have e2 : (V.2 (a0 + 7) i).toNatClampNeg = c := by rw [c3, nu_nat (by omega)]
    rw [e2, hV0.2 _ (by simp), hB0.2 _ (by simp), ← e1]
    exact ⟨c3, c3, c1, c2⟩
  obtain ⟨V', B', nf, p, e1, e2, e3, e4, e5, e6, e7⟩ := split_l (m := m) (s := fun i => (V.2 (a0 + 7) i).toNatClampNeg) (V0 := gh_pa (gh_pf (gh_pf V 3 (a0 + 8) 1) 2 (a0 + 8) 1) (a0 + 10) 0 0) (B0 := md_pa (md_pf B 13 0) 11 0 1) hs q1 (by rw [hV0.1 _ _ (by simp)]; exact q2) hsg (by rw [hB0.1 _ (by decide)]; exact q3) m 0 0 sv_fu (sv_fu - m - 1) (fun _ => 0) _ _ (by omega) (fu_lt (by omega)) ⟨ch.rf, cb.rf, Nat.le_refl _, by rw [pa_1, pf_1]; rfl, fun j hj => by omega, fun f hf => by
      have : f = 0 := by omega
      subst this
      rw [pa_2]
      show upd _ 0 0 0 = _
      simp [upd], by rw [ba_1, bf_1]; rfl, fun f hf => by
      have : f = 0 := by omega
      subst this
      rw [ba_2]
      show upd _ 0 1 0 = _
      simp [upd], fun f hf => by omega, rfl, fun f hf => by omega, Nat.le_refl _⟩
  refine ⟨V', B', nf, p, _, ?_, ?_, hV0.trans (e3.mono (by simp) (by simp)), hB0.trans e4, e5, e6, e7, ?_⟩
  · unfold f_X1_split f_X1_split_35
    rw [hs.r1_8, Option.bind_some, hs.l10, show sv_inb (0 : Int32) 80 = true from by decide, sv_g_t rfl, hV0.1 _ _ (by simp), q2, if_neg (mt (nl_lt 78 78 rfl (by decide) (by omega)).mp (by omega))]
    exact e1
  · have hfu := fu_lt (m := 200) (by decide)
    unfold f_X9_ended
    rw [if_pos hsum]
    rw [show sv_fu - m - 1 + m + 1 = sv_fu by omega] at e2
    have e2 : f_X9_ended_36 sv_fu (md_pa (md_pf B 13 0) 11 0 1) 1 = _ := e2
    rw [e2, show sv_fu - m - 1 = (sv_fu - m - 2) + 1 by omega]
    conv => lhs; unfold f_X9_ended_36
    rw [e4.1 _ (by decide), hB0.1 _ (by decide), q3, if_pos ((nu_lt (by omega) (by omega)).mpr (by omega))]
    rfl
  · rw [e3.1 _ _ (by simp), pa_1, pf_n (by simp), pf_1]
end SP
