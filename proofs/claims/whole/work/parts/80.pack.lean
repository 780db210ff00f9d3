/-! ===== PURE: signs of six bits ===== -/
def sx (c : Nat) : Nat := if 40 < c - 48 then c - 48 - 8 else c - 48
/-- bit k of a pack -/
def bfk (s p : Nat → Nat) (k : Nat) : Bool := (Int32.ofNat (sx (s (p 5 + k / 6)))).toBitVec.getLsbD (5 - k % 6)
section PK
variable {a0 m nf : Nat} {s p : Nat → Nat} {T : gh_T} {V : gh_V} {B : md_B}
theorem fc_row {r : Nat} {V' : gh_V} (h : FC a0 m s nf p V) (hr : a0 + 24 ≤ r) (hV : ch [(2, r)] [r + 1] V V') : FC a0 m s nf p V' := ⟨by rw [hV.1 _ _ (by simp; omega)]; exact h.1, by rw [hV.2 _ (by simp; omega)]; exact h.2.1, by rw [hV.2 _ (by simp; omega)]; exact h.2.2⟩
theorem sh_bit (x : Int32) {F j : Nat} (hF : F < 32) (hj : F + j < 32) : (x >>> (Int32.ofNat F &&& 31)).toBitVec.getLsbD j = x.toBitVec.getLsbD (F + j) := by
  rw [and31_small hF, sar32 x hF, BitVec.getLsbD_sshiftRight]
  simp [show j < 32 by omega, hj]
theorem unp_l (hs : sh a0 T) (hS : FS m s nf p) (hf : 5 < nf) {r n0 F : Nat} (hrq : rowq T r) (hr : a0 + 24 ≤ r) (hpk : ∀ i, i < fl p 5 → pk (s (p 5 + i))) (hF : F ≤ 5) (hL : 1 ≤ fl p 5) (hcap : n0 + 6 * fl p 5 ≤ 3240) : ∀ (k j n : Nat) (V : gh_V), j + k = fl p 5 → k < n → FC a0 m s nf p V → V.1 0 r = 3240 → V.1 2 r = Int32.ofNat (n0 + (if j = fl p 5 then 6 * j - F else 6 * j)) → ∃ V', f_X1_unpack_16 T (a0 + 8) r n V (Int32.ofNat F) (Int32.ofNat (p 5 + fl p 5 - 1)) (Int32.ofNat (p 5 + j)) = some V' ∧ ch [(2, r)] [r + 1] V V' ∧ V'.1 2 r = Int32.ofNat (n0 + (6 * fl p 5 - F)) ∧ ∀ q, wb (V'.2 (r + 1)) q = (wb (V.2 (r + 1)) q || (decide (n0 + 6 * j ≤ q ∧ q < n0 + (6 * fl p 5 - F)) && bfk s p (q - n0))) := by
  have hb := hS.b hf
  intro k
  induction k with
  | zero =>
    intro j n V hj hn hC h0 hlen
    cases n with
    | zero => omega
    | succ n =>
      have hj' : j = fl p 5 := by omega
      refine ⟨V, ?_, ch.rf, ?_, fun q => ?_⟩
      · unfold f_X1_unpack_16
        rw [if_pos ((nu_lt (by omega) (by omega)).mpr (by omega))]
      · rw [hlen, if_pos hj', hj']
      · rw [decide_eq_false (by omega), Bool.false_and, Bool.or_false]
  | succ k ih =>
    intro j n V hj hn hC h0 hlen
    cases n with
    | zero => omega
    | succ n =>
      rw [if_neg (by omega)] at hlen
      have h2 := hS.2.2.2.1 (p 5 + j) (by omega)
      have hp := hpk j (by omega)
      unfold pk at hp
      have hsix : ∀ (K : gh_V → Int32 → Int32 → Int32 → Option gh_V), (if (Int32.ofNat (s (p 5 + j)) - 48) ≤ 40 then f_X1_unpack_44 T (a0 + 8) r K V (Int32.ofNat F) (Int32.ofNat (p 5 + fl p 5 - 1)) (Int32.ofNat (p 5 + j)) (Int32.ofNat (s (p 5 + j)) - 48) else f_X1_unpack_44 T (a0 + 8) r K V (Int32.ofNat F) (Int32.ofNat (p 5 + fl p 5 - 1)) (Int32.ofNat (p 5 + j)) ((Int32.ofNat (s (p 5 + j)) - 48) + (-8))) = f_X1_unpack_44 T (a0 + 8) r K V (Int32.ofNat F) (Int32.ofNat (p 5 + fl p 5 - 1)) (Int32.ofNat (p 5 + j)) (Int32.ofNat (sx (s (p 5 + j)))) := by
        intro K
        have e48 : Int32.ofNat (s (p 5 + j)) - 48 = Int32.ofNat (s (p 5 + j) - 48) := nu_sub (n := s (p 5 + j)) (m := 48) (by omega)
        unfold sx
        rw [e48]
        by_cases c : 40 < s (p 5 + j) - 48
        · rw [if_neg (by rw [nl_ge 40 40 rfl (by decide) (by omega)]; omega), if_pos c, show (-8 : Int32) = -(8 : Int32) from rfl, ← Int32.sub_eq_add_neg, show (8 : Int32) = Int32.ofNat 8 from rfl, nu_sub (by omega)]
        · rw [if_pos (by rw [nl_ge 40 40 rfl (by decide) (by omega)]; omega), if_neg c]
      have hsx : sx (s (p 5 + j)) < 64 := by unfold sx; split <;> omega
      -- one sign
      have step : ∀ (G : Nat), G ≤ 5 → (G = 0 ∨ j + 1 = fl p 5 ∧ G = F) → (j + 1 = fl p 5 → G = F) → ∃ V1, f_X0_append T V r (Int32.ofNat (sx (s (p 5 + j))) >>> (Int32.ofNat G &&& 31)) (6 - Int32.ofNat G) = some V1 ∧ ∃ V', f_X1_unpack_16 T (a0 + 8) r n V1 (Int32.ofNat F) (Int32.ofNat (p 5 + fl p 5 - 1)) (Int32.ofNat (p 5 + (j + 1))) = some V' ∧ ch [(2, r)] [r + 1] V V' ∧ V'.1 2 r = Int32.ofNat (n0 + (6 * fl p 5 - F)) ∧ ∀ q, wb (V'.2 (r + 1)) q = (wb (V.2 (r + 1)) q || (decide (n0 + 6 * j ≤ q ∧ q < n0 + (6 * fl p 5 - F)) && bfk s p (q - n0))) := by
        intro G hG hG1 hG2
        have e6 : (6 : Int32) - Int32.ofNat G = Int32.ofNat (6 - G) := nu_sub (n := 6) (m := G) (by omega)
        obtain ⟨V1, d1, d2, d3, d4⟩ := append_s (V := V) (r := r) (d := r + 1) (W := 103) (len := n0 + 6 * j) (n := 6 - G) (R := 3240) (Int32.ofNat (sx (s (p 5 + j))) >>> (Int32.ofNat G &&& 31)) hrq.2.2.1 hrq.2.2.2 (by decide) (by omega) (by omega) hlen h0 (by decide) (by omega) (by omega)
        obtain ⟨V', g1, g2, g3, g4⟩ := ih (j + 1) n V1 (by omega) (by omega) (fc_row hC hr d2) (by rw [d2.1 _ _ (by simp)]; exact h0) (by
          rw [d3]
          by_cases c : j + 1 = fl p 5
          · rw [if_pos c]
            have := hG2 c
            congr 1
            omega
          · rw [if_neg c]
            have : G = 0 := hG1.resolve_right (fun h => c h.1)
            congr 1
            omega)
        refine ⟨V1, by rw [e6]; exact d1, V', g1, d2.trans g2, g3, fun q => ?_⟩
        rw [g4, d4]
        by_cases c1 : n0 + 6 * j ≤ q ∧ q < n0 + 6 * j + (6 - G)
        · have hb1 : (Int32.ofNat (sx (s (p 5 + j))) >>> (Int32.ofNat G &&& 31)).toBitVec.getLsbD (6 - G - 1 - (q - (n0 + 6 * j))) = bfk s p (q - n0) := by
            rw [sh_bit _ (by omega) (by omega)]
            unfold bfk
            rw [show (q - n0) / 6 = j by omega, show 5 - (q - n0) % 6 = G + (6 - G - 1 - (q - (n0 + 6 * j))) by omega]
          have hlast : q < n0 + (6 * fl p 5 - F) := by
            by_cases c : j + 1 = fl p 5
            · have := hG2 c
              omega
            · omega
          rw [decide_eq_true c1, hb1, decide_eq_false (by omega), decide_eq_true (show n0 + 6 * j ≤ q ∧ q < n0 + (6 * fl p 5 - F) by omega), Bool.false_and, Bool.or_false]
        · rw [decide_eq_false c1, Bool.false_and, Bool.or_false]
          by_cases c2 : n0 + 6 * (j + 1) ≤ q ∧ q < n0 + (6 * fl p 5 - F)
          · rw [decide_eq_true c2, decide_eq_true (show n0 + 6 * j ≤ q ∧ q < n0 + (6 * fl p 5 - F) by omega)]
          · have : ¬ (n0 + 6 * j ≤ q ∧ q < n0 + (6 * fl p 5 - F)) := by
              by_cases c : j + 1 = fl p 5
              · have := hG2 c
                omega
              · have : G = 0 := hG1.resolve_right (fun h => c h.1)
                omega
            rw [decide_eq_false c2, decide_eq_false this]
      unfold f_X1_unpack_16
      rw [if_neg (mt (nu_lt (by omega) (by omega)).mp (by omega)), c_at hs hS hC (by omega), Option.bind_some]
      dsimp only
      rw [hsix]
      unfold f_X1_unpack_44 f_X1_unpack_56
      rw [nu_s, show p 5 + j + 1 = p 5 + (j + 1) by omega]
      by_cases c : j + 1 = fl p 5
      · obtain ⟨V1, d1, V', d2⟩ := step F hF (Or.inr ⟨c, rfl⟩) (fun _ => rfl)
        rw [if_pos (by rw [nu_eq (by omega) (by omega)]; omega), d1, Option.bind_some]
        exact ⟨V', d2⟩
      · obtain ⟨V1, d1, V', d2⟩ := step 0 (by decide) (Or.inl rfl) (fun h => absurd h c)
        have d1 : f_X0_append T V r (Int32.ofNat (sx (s (p 5 + j))) >>> (0 &&& 31)) (6 - 0) = some V1 := d1
        rw [if_neg (by rw [nu_eq (by omega) (by omega)]; omega), d1, Option.bind_some]
        exact ⟨V', d2⟩
theorem unp_s (hs : sh a0 T) (hS : FS m s nf p) (hC : FC a0 m s nf p V) (hf : 5 < nf) {r n0 F : Nat} (hrq : rowq T r) (hr : a0 + 24 ≤ r) (hU : U_pack s p 5) (hF : F ≤ 5) (hcap : n0 + 6 * fl p 5 ≤ 3240) (h0 : V.1 0 r = 3240) (hlen : V.1 2 r = Int32.ofNat n0) : ∃ V', f_X1_unpack T V (a0 + 8) 5 (Int32.ofNat F) r = some V' ∧ ch [(2, r)] [r + 1] V V' ∧ V'.1 2 r = Int32.ofNat (n0 + (6 * fl p 5 - F)) ∧ ∀ q, wb (V'.2 (r + 1)) q = (wb (V.2 (r + 1)) q || (decide (n0 ≤ q ∧ q < n0 + (6 * fl p 5 - F)) && bfk s p (q - n0))) := by
  have hb := hS.b hf
  have hL := hU.1
  have ht : f_X1_to T V (a0 + 8) 5 = some (Int32.ofNat (p 5 + fl p 5), V) := c_to hs hS hC hf
  have hfr : f_X1_from T V (a0 + 8) 5 = some (Int32.ofNat (p 5), V) := c_from hs hS hC hf
  obtain ⟨V', e1, e2, e3, e4⟩ := unp_l hs hS hf hrq hr hU.2.2 hF hL hcap (fl p 5) 0 sv_fu V (by omega) (fu_lt (by omega)) hC h0 (by rw [if_neg (by omega)]; exact hlen)
  refine ⟨V', ?_, e2, e3, e4⟩
  unfold f_X1_unpack
  rw [ht, Option.bind_some, hfr, Option.bind_some]
  dsimp only
  rw [show Int32.ofNat (p 5 + fl p 5) - 1 = Int32.ofNat (p 5 + fl p 5 - 1) from nu_sub (n := p 5 + fl p 5) (m := 1) (by omega)]
  exact e1
/-- the reference's loop -/
theorem pa_l (hS : FS m s nf p) (hf : 5 < nf) {I n0 N : Nat} (hI : I ≤ 10) (hN : N ≤ 6 * fl p 5) (hcap : n0 + N ≤ 3240) (hpk : ∀ i, i < fl p 5 → pk (s (p 5 + i))) : ∀ (k j f : Nat) (B : md_B), j + k = N → FB m s nf p B → B.1 19 = Int32.ofNat I → B.2 23 I = Int32.ofNat n0 → ∃ B', f_X9_parted_156 (f + k) B (Int32.ofNat N) (Int32.ofNat j) = f_X9_parted_156 f B' (Int32.ofNat N) (Int32.ofNat N) ∧ cb [] [24] B B' ∧ ∀ q, B'.2 24 q = if 3240 * I + n0 + j ≤ q ∧ q < 3240 * I + n0 + N then (if bfk s p (q - (3240 * I + n0)) = true then 1 else 0) else B.2 24 q := by
  have hb := hS.b hf
  intro k
  induction k with
  | zero =>
    intro j f B hj hB h19 h23
    refine ⟨B, by rw [Nat.add_zero, show j = N by omega], cb.rf, fun q => by rw [if_neg (by omega)]⟩
  | succ k ih =>
    intro j f B hj hB h19 h23
    have hat : f_X9_at B 5 (Int32.ofNat (j / 6)) = some (Int32.ofNat (s (p 5 + j / 6)), B) := r_at hS hB hf (by omega)
    have h2 := hS.2.2.2.1 (p 5 + j / 6) (by omega)
    have hp := hpk (j / 6) (by omega)
    unfold pk at hp
    have e48 : Int32.ofNat (s (p 5 + j / 6)) - 48 = Int32.ofNat (s (p 5 + j / 6) - 48) := nu_sub (n := s (p 5 + j / 6)) (m := 48) (by omega)
    have e1 := nd_lit (n := j) (k := 6) 6 rfl (by omega) (by decide)
    have e2 := nm_lit (n := j) (k := 6) 6 rfl (by omega) (by decide)
    rw [e1] at e2
    have e5 : (5 : Int32) - Int32.ofNat (j % 6) = Int32.ofNat (5 - j % 6) := nu_sub (n := 5) (m := j % 6) (by omega)
    have eix : Int32.ofNat I * 3240 + Int32.ofNat n0 + Int32.ofNat j = Int32.ofNat (3240 * I + n0 + j) := by
      rw [show (3240 : Int32) = Int32.ofNat 3240 from rfl, nu_mul, nu_add, nu_add, Nat.mul_comm]
    have step : ∀ v : Int32, vp_nar .boolean v = v → (v = if bfk s p j = true then 1 else 0) → ∃ B', f_X9_parted_234 (f_X9_parted_156 (f + k)) B (Int32.ofNat N) (Int32.ofNat j) v (Int32.ofNat (3240 * I + n0 + j)) = f_X9_parted_156 f B' (Int32.ofNat N) (Int32.ofNat N) ∧ cb [] [24] B B' ∧ ∀ q, B'.2 24 q = if 3240 * I + n0 + j ≤ q ∧ q < 3240 * I + n0 + N then (if bfk s p (q - (3240 * I + n0)) = true then 1 else 0) else B.2 24 q := by
      intro v hnar hv
      obtain ⟨B', g1, g2, g3⟩ := ih (j + 1) f (md_pa B 24 (Int32.ofNat (3240 * I + n0 + j)) v) (by omega) (hB.cb (show cb [] [24] B _ from cb.rf.pa (by simp)) (by simp) (by simp)) h19 (by rw [ba_n (by decide)]; exact h23)
      refine ⟨B', ?_, (cb.rf.pa (by simp)).trans g2, fun q => ?_⟩
      · unfold f_X9_parted_234
        rw [nu_inb (by omega) (by omega), sv_g_t rfl, hnar, nu_s]
        exact g1
      · rw [g3, ba_2, nu_nat (by omega)]
        unfold upd
        by_cases c : q = 3240 * I + n0 + j
        · rw [if_neg (by omega), if_pos c, if_pos (by omega), hv, show q - (3240 * I + n0) = j by omega]
        · rw [if_neg c]
          by_cases c2 : 3240 * I + n0 + j ≤ q ∧ q < 3240 * I + n0 + N
          · rw [if_pos c2, if_pos (by omega)]
          · rw [if_neg c2, if_neg (by omega)]
    have go : ∃ B', f_X9_parted_188 (f_X9_parted_156 (f + k)) B (Int32.ofNat N) (Int32.ofNat j) (Int32.ofNat (sx (s (p 5 + j / 6)))) = f_X9_parted_156 f B' (Int32.ofNat N) (Int32.ofNat N) ∧ cb [] [24] B B' ∧ ∀ q, B'.2 24 q = if 3240 * I + n0 + j ≤ q ∧ q < 3240 * I + n0 + N then (if bfk s p (q - (3240 * I + n0)) = true then 1 else 0) else B.2 24 q := by
      unfold f_X9_parted_188
      rw [h19, nu_inb (by omega) (by omega), sv_g_t rfl, nu_nat (n := I) (by omega), h23, eix]
      simp only [e1, e2, e5]
      have hbit := bit_t (Int32.ofNat (sx (s (p 5 + j / 6)))) (m := 5 - j % 6) (by omega)
      by_cases hc : bfk s p j = true
      · rw [if_pos (hbit.mpr hc)]
        exact step 1 (by decide) (by rw [if_pos hc])
      · rw [if_neg (mt hbit.mp hc)]
        exact step 0 (by decide) (by rw [if_neg hc])
    rw [show f + (k + 1) = (f + k) + 1 by omega]
    conv => enter [1, B', 1, 1]; unfold f_X9_parted_156
    simp only [e1]
    rw [if_neg (mt (nu_le (by omega) (by omega)).mp (by omega)), hat, Option.bind_some]
    dsimp only
    rw [e48]
    unfold sx at go
    by_cases c : 40 < s (p 5 + j / 6) - 48
    · rw [if_pos c] at go
      rw [if_neg (by rw [nl_ge 40 40 rfl (by decide) (by omega)]; omega), show (8 : Int32) = Int32.ofNat 8 from rfl, nu_sub (by omega)]
      exact go
    · rw [if_neg c] at go
      rw [if_pos (by rw [nl_ge 40 40 rfl (by decide) (by omega)]; omega)]
      exact go
end PK
