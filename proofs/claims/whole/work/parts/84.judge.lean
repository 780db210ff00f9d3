/-! ===== PURE: judge ===== -/
section JU
variable {a0 z m e : Nat} {T : gh_T} {V V' : gh_V} {B B' : md_B}
theorem RX.pend (h : RX 9 a0 T V B) {j : Nat} (hj : j < 9) : RX j a0 T V (md_pa B 10 (Int32.ofNat j) (B.2 10 j + 1)) := by
  obtain ⟨hs, h1, h2, h3, h4, h5, h6, h7, h8, h9⟩ := h
  have hB : cb [] [10] B (md_pa B 10 (Int32.ofNat j) (B.2 10 j + 1)) := cb.rf.pa (by simp)
  refine ⟨hs, ?_, fun i hi => ?_, ?_, ?_, h5.fr hs ch0 hB (by simp) (by simp) (by simp), ?_, h7.fr hs ch0 hB (by simp) (by simp) (by simp), h8, h9⟩
  · rw [hB.2 _ (by simp)]; exact h1
  · have := h2 i hi
    rw [if_neg (by omega)] at this
    rw [ba_2, nu_nat (by omega)]
    unfold upd
    by_cases c : i = j
    · rw [if_pos c, if_pos c, this, c]
    · rw [if_neg c, if_neg c, this]
  · unfold rSv
    rw [hB.2 _ (by simp)]; exact h3
  · rw [hB.2 _ (by simp)]; exact h4
  · rw [hB.2 _ (by simp)]; exact h6
theorem RX.done (h : RX e a0 T V B) (he : e < 9) : RX 9 a0 T (gh_pa V (a0 + 1) (Int32.ofNat e) (V.2 (a0 + 1) e + 1)) B := by
  obtain ⟨hs, h1, h2, h3, h4, h5, h6, h7, h8, h9⟩ := h
  have hV : ch [] [a0 + 1] V (gh_pa V (a0 + 1) (Int32.ofNat e) (V.2 (a0 + 1) e + 1)) := ch.rf.pa (by simp)
  refine ⟨hs, ?_, fun i hi => ?_, ?_, ?_, h5.fr hs hV (cb.rf (F := []) (D := [])) (by simp) (by simp) (by simp), ?_, h7.fr hs hV (cb.rf (F := []) (D := [])) (by simp) (by simp) (by simp), h8, h9⟩
  · rw [hV.2 _ (by simp)]; exact h1
  · have := h2 i hi
    rw [if_neg (by omega), pa_2, nu_nat (by omega)]
    unfold upd
    by_cases c : i = e
    · rw [if_pos c] at this
      rw [if_pos c, ← this, c]
    · rw [if_neg c] at this
      rw [if_neg c, this]
  · unfold rSv
    rw [hV.2 _ (by simp)]; exact h3
  · rw [hV.2 _ (by simp)]; exact h4
  · rw [hV.2 _ (by simp)]; exact h6
/-- changes of the fields and of the fix -/
theorem RX.fld (h : RX e a0 T V B) (hV : ch [(2, a0 + 8), (3, a0 + 8)] [a0 + 9, a0 + 10, a0 + 12, a0 + 13] V V') (hB : cb [13, 14, 17, 18, 19, 20] [11, 12, 15, 16] B B') (hf : rE 18 (V'.2 (a0 + 12)) (B'.2 16)) : RX e a0 T V' B' := by
  obtain ⟨hs, h1, h2, h3, h4, h5, h6, h7, h8, h9⟩ := h
  refine ⟨hs, ?_, ?_, ?_, hf, h5.fr hs hV hB (by simp) (by simp) (by simp), ?_, h7.fr hs hV hB (by simp) (by simp) (by simp), ?_, ?_⟩
  · rw [hV.1 _ _ (by simp), hV.2 _ (by simp), hB.1 _ (by simp), hB.2 _ (by simp)]; exact h1
  · rw [hV.2 _ (by simp), hB.2 _ (by simp)]; exact h2
  · unfold rSv
    rw [hV.1 _ _ (by simp), hV.1 _ _ (by simp), hV.1 _ _ (by simp), hV.1 _ _ (by simp), hV.1 _ _ (by simp), hV.2 _ (by simp), hB.1 _ (by simp), hB.1 _ (by simp), hB.1 _ (by simp), hB.1 _ (by simp), hB.2 _ (by simp)]
    exact h3
  · rw [hV.1 _ _ (by simp), hV.2 _ (by simp), hB.1 _ (by simp), hB.1 _ (by simp), hB.2 _ (by simp)]; exact h6
  · rw [hV.1 _ _ (by simp)]; exact h8
  · rw [hB.1 _ (by simp)]; exact h9
theorem RX.fx (h : RX e a0 T V B) : rE 18 (V.2 (a0 + 12)) (B.2 16) := h.2.2.2.2.1
/-- frames of the tape -/
def tpf (a0 : Nat) (V V' : gh_V) (B B' : md_B) : Prop := V'.1 1 (a0 + 2) = V.1 1 (a0 + 2) ∧ V'.2 (a0 + 3) = V.2 (a0 + 3) ∧ B'.1 2 = B.1 2 ∧ B'.2 1 = B.2 1
def JR (a0 z : Nat) (T : gh_T) (V : gh_V) (B : md_B) (o : Option (Int32 × gh_T × gh_V × Nat)) (o' : Option md_B) : Prop :=
  ∃ w T' V' z' B', w < 9 ∧ o = some (Int32.ofNat w, T', V', z') ∧ o' = some B' ∧ RX w a0 T' V' B' ∧ z ≤ z' ∧ wt a0 T' + (z' - z) ≤ wt a0 T ∧ tpf a0 V V' B B'
theorem judge_s (h : RX 9 a0 T V B) (hg : GZ a0 T z) (hQ : rQv a0 m V B) (h5 : V.1 5 (a0 + 6) = B.1 9) : JR a0 z T V B (f_X8_judge T V z a0) (f_X9_ended B) := by
  have hs := h.1
  have hQ0 := hQ
  obtain ⟨q1, q2, q3, q4, q5, q6, q7⟩ := hQ
  unfold f_X8_judge
  rw [hs.r3_0, Option.bind_some, Option.bind_some, q4, h5]
  by_cases csum : B.1 8 = B.1 9
  · rw [if_pos csum]
    obtain ⟨V1, B1, nf, p, s, e1, e2, e3, e4, e5, e6, e7, e8⟩ := split_s hs hQ0 csum.symm
    have hR1 : RX 9 a0 T V1 B1 := h.fld (e3.mono (by simp) (by simp)) (e4.mono (by simp) (by simp)) (by rw [e3.2 _ (by simp), e4.2 _ (by simp)]; exact h.fx)
    have ht1 : tpf a0 V V1 B B1 := ⟨e3.1 _ _ (by simp), e3.2 _ (by simp), e4.1 _ (by simp), e4.2 _ (by simp)⟩
    obtain ⟨c, c1, c2, c3⟩ := form_s hs e5 e6 e7 (V1.1 2 (a0 + 6)) (by rw [e3.1 _ _ (by simp), e4.2 _ (by simp), q5])
    rw [hs.r4_0, Option.bind_some, Option.bind_some, e1, Option.bind_some, Option.bind_some, Option.bind_some, c2, Option.bind_some, e2]
    unfold endT
    rw [c3, Option.bind_some]
    -- gga, rmc, vtg
    have take : ∀ (x : Int32) (o : Option (Int32 × gh_V)), 0 ≤ x → TKr a0 V1 B1 x o → JR a0 z T V B (o.bind (fun q84 => f_X8_judge_131 a0 T q84.2 z q84.1)) ((f_X9_fits B1 x).bind (fun q125 => if q125.1 = 0 then some (md_pa q125.2 10 4 ((q125.2.2 10 (4 : Int32).toNatClampNeg) + 1)) else (f_X9_taken (md_pa q125.2 10 0 ((q125.2.2 10 (0 : Int32).toNatClampNeg) + 1)) x).bind (fun q156 => some (q156)))) := by
      intro x o hx htk
      obtain ⟨b, V2, B2, t1, t2, t3, t4, t5, t6⟩ := htk
      rw [t1, t2, Option.bind_some, Option.bind_some]
      unfold f_X8_judge_131
      cases b with
      | false =>
        have hR2 : RX 9 a0 T V2 B2 := hR1.fld (t3.mono (by simp) (by simp)) (t4.mono (by simp) (by simp)) (by rw [t5 rfl, t4.2 _ (by simp)]; exact hR1.fx)
        rw [if_pos (show (bi false, V2).1 = 0 from rfl), if_pos (show (bi false, B2).1 = 0 from rfl)]
        refine ⟨4, T, V2, z, _, by decide, rfl, rfl, hR2.pend (j := 4) (by decide), Nat.le_refl _, by omega, ?_, ?_, ?_, ?_⟩
        · rw [t3.1 _ _ (by simp)]; exact ht1.1
        · rw [t3.2 _ (by simp)]; exact ht1.2.1
        · rw [ba_1, t4.1 _ (by simp)]; exact ht1.2.2.1
        · rw [ba_n (by decide), t4.2 _ (by simp)]; exact ht1.2.2.2
      | true =>
        have hc10 : cb [] [10] B2 (md_pa B2 10 0 (B2.2 10 (0 : Int32).toNatClampNeg + 1)) := cb.rf.pa (by simp)
        obtain ⟨B3, k1, k2, k3⟩ := t6 rfl _ hc10
        have hR2 : RX 9 a0 T V1 (md_pf B1 14 (B2.1 14)) := hR1.fld ch.rf (cb.rf.pf (by simp)) hR1.fx
        have hR3 : RX 0 a0 T V1 (md_pa B1 10 0 (B1.2 10 0 + 1)) := hR1.pend (j := 0) (by decide)
        rw [if_neg (show ¬ bi true = 0 by decide), if_neg (show ¬ bi true = 0 by decide), bind_eta, k1]
        have hcc : cb [13, 14, 17, 18, 19, 20] [11, 12, 15, 16] (md_pa B1 10 0 (B1.2 10 0 + 1)) B3 := by
          refine ⟨fun k hk => ?_, fun k hk => ?_⟩
          · rw [k2.1 _ (by simp), hc10.1 _ (by simp), t4.1 k (by simp at hk ⊢; omega)]
            rfl
          · simp at hk
            rw [k2.2 k (by simp; omega)]
            by_cases c : k = 10
            · subst c
              rw [ba_2, ba_2, t4.2 10 (by simp)]
              rfl
            · rw [ba_n c, ba_n c, t4.2 k (by simp; omega)]
        refine ⟨0, T, V2, z, B3, by decide, rfl, rfl, hR3.fld (t3.mono (by simp) (by simp)) hcc (k3 hR1.fx), Nat.le_refl _, by omega, ?_, ?_, ?_, ?_⟩
        · rw [t3.1 _ _ (by simp)]; exact ht1.1
        · rw [t3.2 _ (by simp)]; exact ht1.2.1
        · rw [hcc.1 _ (by simp), ba_1]; exact ht1.2.2.1
        · rw [hcc.2 _ (by simp), ba_n (by decide)]; exact ht1.2.2.2
    have hc : c = 0 ∨ c = 1 ∨ c = 2 ∨ c = 3 ∨ c = 4 := by omega
    rcases hc with rfl | rfl | rfl | rfl | rfl
    · -- no known form
      refine ⟨3, T, V1, z, md_pa B1 10 3 (B1.2 10 3 + 1), by decide, ?_, ?_, hR1.pend (j := 3) (by decide), Nat.le_refl _, by omega, ht1.1, ht1.2.1, ht1.2.2.1, by rw [ba_n (by decide)]; exact ht1.2.2.2⟩
      · rfl
      · exact if_neg (by decide : ¬ (0 : Int32) ≤ -1)
    · have hk := take 0 _ (by decide) (tk_gga hs e5 e6 e7 e8)
      show JR a0 z T V B ((T.2.2.1 5 a0).bind (fun b77 => (some (a0 + 8)).bind (fun b81 => (f_X4_takeGga T V1 b77 b81).bind (fun q84 => f_X8_judge_131 a0 T q84.2 z q84.1)))) (if (0 : Int32) ≤ 0 then _ else _)
      rw [hs.r5_0, Option.bind_some, Option.bind_some, if_pos (by decide)]
      exact hk
    · have hk := take 1 _ (by decide) (tk_rmc hs e5 e6 e7 e8)
      show JR a0 z T V B ((T.2.2.1 5 a0).bind (fun b77 => (some (a0 + 8)).bind (fun b81 => (f_X4_takeRmc T V1 b77 b81).bind (fun q84 => f_X8_judge_131 a0 T q84.2 z q84.1)))) (if (0 : Int32) ≤ 1 then _ else _)
      rw [hs.r5_0, Option.bind_some, Option.bind_some, if_pos (by decide)]
      exact hk
    · have hk := take 2 _ (by decide) (tk_vtg hs e5 e6 e7 e8)
      show JR a0 z T V B ((T.2.2.1 5 a0).bind (fun b77 => (some (a0 + 8)).bind (fun b81 => (f_X4_takeVtg T V1 b77 b81).bind (fun q84 => f_X8_judge_131 a0 T q84.2 z q84.1)))) (if (0 : Int32) ≤ 2 then _ else _)
      rw [hs.r5_0, Option.bind_some, Option.bind_some, if_pos (by decide)]
      exact hk
    · show JR a0 z T V B ((f_X8_takePart T V1 z a0).bind (fun q122 => f_X8_judge_125 a0 q122.2.1 q122.2.2.1 q122.2.2.2 q122.1)) (if (0 : Int32) ≤ 3 then (f_X9_fits B1 3).bind (fun q125 => if q125.1 = 0 then some (md_pa q125.2 10 4 ((q125.2.2 10 (4 : Int32).toNatClampNeg) + 1)) else (f_X9_taken (md_pa q125.2 10 0 ((q125.2.2 10 (0 : Int32).toNatClampNeg) + 1)) 3).bind (fun q156 => some (q156))) else _)
      rw [if_pos (by decide)]
      have hb79 := e5.2.2.1
      have faulty : ∀ V2 B2, ch [(3, a0 + 8)] [] V1 V2 → cb [14, 17, 18, 19, 20] [] B1 B2 → f_X8_takePart T V1 z a0 = some (0, T, V2, z) → f_X9_fits B1 3 = some (0, B2) → JR a0 z T V B ((f_X8_takePart T V1 z a0).bind (fun q122 => f_X8_judge_125 a0 q122.2.1 q122.2.2.1 q122.2.2.2 q122.1)) ((f_X9_fits B1 3).bind (fun q125 => if q125.1 = 0 then some (md_pa q125.2 10 4 ((q125.2.2 10 (4 : Int32).toNatClampNeg) + 1)) else (f_X9_taken (md_pa q125.2 10 0 ((q125.2.2 10 (0 : Int32).toNatClampNeg) + 1)) 3).bind (fun q156 => some (q156)))) := by
        intro V2 B2 t3 t4 t1 t2
        rw [t1, t2, Option.bind_some, Option.bind_some]
        have hR2 : RX 9 a0 T V2 B2 := hR1.fld (t3.mono (by simp) (by simp)) (t4.mono (by simp) (by simp)) (by rw [t3.2 _ (by simp), t4.2 _ (by simp)]; exact hR1.fx)
        refine ⟨4, T, V2, z, md_pa B2 10 4 (B2.2 10 4 + 1), by decide, rfl, rfl, hR2.pend (j := 4) (by decide), Nat.le_refl _, by omega, ?_, ?_, ?_, ?_⟩
        · rw [t3.1 _ _ (by simp)]; exact ht1.1
        · rw [t3.2 _ (by simp)]; exact ht1.2.1
        · rw [ba_1, t4.1 _ (by simp)]; exact ht1.2.2.1
        · rw [ba_n (by decide), t4.2 _ (by simp)]; exact ht1.2.2.2
      by_cases c7 : nf = 7
      · subst c7
        have hB14 : (md_pf B1 14 1).1 14 = 1 := bf_1
        have hFB : FB m s 7 p (md_pf B1 14 1) := e7.cb (show cb [14] [] B1 (md_pf B1 14 1) from cb.rf.pf (by simp)) (by simp) (by simp)
        obtain ⟨b, B2, r1, r2, r3, r4, r5⟩ := r_part e5 hFB hB14
        have hc2 : cb [14, 17, 18, 19, 20] [] B1 B2 := (cb.rf.pf (by simp)).trans r2
        have hfit : f_X9_fits B1 3 = some (bi b, B2) := by
          unfold f_X9_fits
          have h13 : (md_pf B1 14 1).1 13 = 7 := hFB.1
          rw [if_neg (by decide), if_neg (by decide), if_neg (by decide), if_pos h13, r1, Option.bind_some]
          exact fits_119 r3
        rcases c_part (z := z) hs e5 e6 e8 with ⟨hG, hcl⟩ | ⟨hG, hcl⟩
        · have hb : b = true := r4.mpr hG
          subst hb
          obtain ⟨w1, w2, w3, w4⟩ := r5 rfl
          have hR2 : RX 9 a0 T V1 B2 := hR1.fld ch.rf (hc2.mono (by simp) (by simp)) (by rw [hc2.2 _ (by simp)]; exact hR1.fx)
          have hc10 : cb [] [10] B2 (md_pa B2 10 0 (B2.2 10 (0 : Int32).toNatClampNeg + 1)) := cb.rf.pa (by simp)
          have hR3 : RX 0 a0 T V1 (md_pa B2 10 0 (B2.2 10 (0 : Int32).toNatClampNeg + 1)) := hR2.pend (j := 0) (by decide)
          obtain ⟨T', V', z', B', y1, y2, y3, y4, y5, y6, y7, y8, y9⟩ := tp_s hR3 hg e5 e6 ((hFB.cb r2 (by simp) (by simp)).cb hc10 (by simp) (by simp)) hG (by rw [ba_1]; exact w1) (by rw [ba_1]; exact w2) (by rw [ba_1]; exact w3) (by rw [ba_1]; exact w4)
          rw [hcl, y1, hfit, Option.bind_some, Option.bind_some]
          have htk : f_X9_taken (md_pa B2 10 0 (B2.2 10 (0 : Int32).toNatClampNeg + 1)) 3 = some B' := by
            unfold f_X9_taken
            rw [if_neg (by decide), if_neg (by decide), if_neg (by decide), y2]
            rfl
          refine ⟨0, T', V', z', B', by decide, rfl, ?_, y3, y4, y5, ?_, ?_, ?_, ?_⟩
          · dsimp only
            rw [if_neg (show ¬ bi true = 0 by decide), htk]
            rfl
          · rw [y6]; exact ht1.1
          · rw [y7]; exact ht1.2.1
          · rw [y8, ba_1, hc2.1 _ (by simp)]; exact ht1.2.2.1
          · rw [y9, ba_n (by decide), hc2.2 _ (by simp)]; exact ht1.2.2.2
        · have hb : b = false := by
            cases b with
            | false => rfl
            | true => exact absurd (r4.mp rfl) hG
          subst hb
          exact faulty _ B2 (ch.rf.pf (by simp)) hc2 hcl hfit
      · refine faulty V1 (md_pf B1 14 1) ch.rf (cb.rf.pf (by simp)) ?_ ?_
        · unfold f_X8_takePart
          rw [hs.r4_0, Option.bind_some, e6.1, if_neg (mt (nl_eq 7 7 rfl (by decide) (by omega)).mp c7)]
        · unfold f_X9_fits
          rw [if_neg (by decide), if_neg (by decide), if_neg (by decide), bf_n (by decide), e7.1, if_neg (mt (nl_eq 7 7 rfl (by decide) (by omega)).mp c7)]
  · rw [if_neg csum]
    refine ⟨2, T, V, z, md_pa B 10 2 (B.2 10 2 + 1), by decide, rfl, ?_, h.pend (j := 2) (by decide), Nat.le_refl _, by omega, rfl, rfl, rfl, by rw [ba_n (by decide)]⟩
    unfold f_X9_ended
    rw [if_neg (fun hc => csum hc.symm)]
    rfl
end JU
