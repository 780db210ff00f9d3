/-! ===== PURE: bits put behind each other ===== -/
theorem sm32 : ∀ s, s < 32 → ((BitVec.ofNat 32 s).smod 32#32).toNat = s := by decide +kernel
theorem sar32 (x : Int32) {s : Nat} (hs : s < 32) : (x >>> Int32.ofNat s).toBitVec = x.toBitVec.sshiftRight s := by
  show x.toBitVec.sshiftRight' ((BitVec.ofNat 32 s).smod 32#32) = _
  rw [BitVec.sshiftRight_eq', sm32 s hs]
theorem and31_small {m : Nat} (h : m < 32) : Int32.ofNat m &&& 31 = Int32.ofNat m := by
  rw [nu_and31 (by omega), Nat.mod_eq_of_lt h]
theorem and1 (y : Int32) : y &&& 1 = 1 ↔ y.toBitVec.getLsbD 0 = true := by
  rw [← Int32.toBitVec_inj]
  show y.toBitVec &&& 1#32 = 1#32 ↔ _
  constructor
  · intro h
    have := congrArg (fun z => BitVec.getLsbD z 0) h
    simpa using this
  · intro h
    apply BitVec.eq_of_getLsbD_eq
    intro i hi
    rw [BitVec.getLsbD_and, bv1]
    by_cases h0 : i = 0
    · subst h0
      simp [h]
    · simp [h0]
theorem bit_t (x : Int32) {m : Nat} (h : m < 32) : (x >>> (Int32.ofNat m &&& 31)) &&& 1 = 1 ↔ x.toBitVec.getLsbD m = true := by
  rw [and31_small h, and1, sar32 x h, BitVec.getLsbD_sshiftRight]
  simp [h]
theorem put_l {x : Int32} : ∀ (m n s : Nat) (B : md_B), m < n → B.1 36 = Int32.ofNat s → s + m ≤ 424 → m ≤ 32 → ∃ B', f_X9_put_4 n B x (Int32.ofNat m - 1) = some B' ∧ cb [36] [35] B B' ∧ B'.1 36 = Int32.ofNat (s + m) ∧ ∀ i, B'.2 35 i = if s ≤ i ∧ i < s + m then (if x.toBitVec.getLsbD (m - 1 - (i - s)) = true then 1 else 0) else B.2 35 i := by
  intro m
  induction m with
  | zero =>
    intro n s B hn hs h1 h2
    cases n with
    | zero => omega
    | succ n =>
      unfold f_X9_put_4
      rw [if_pos (show Int32.ofNat 0 - 1 < 0 by decide)]
      exact ⟨B, rfl, cb.rf, hs, fun i => by rw [if_neg (by omega)]⟩
  | succ m ih =>
    intro n s B hn hs h1 h2
    cases n with
    | zero => omega
    | succ n =>
      have e : Int32.ofNat (m + 1) - 1 = Int32.ofNat m := nu_sub (n := m + 1) (m := 1) (by omega)
      have e2 : Int32.ofNat m + (-1) = Int32.ofNat m - 1 := (Int32.sub_eq_add_neg (Int32.ofNat m) 1).symm
      rw [e]
      have step : ∀ v : Int32, (v = if x.toBitVec.getLsbD m = true then 1 else 0) → vp_nar .boolean v = v → ∃ B', f_X9_put_30 (f_X9_put_4 n) B x (Int32.ofNat m) v (B.1 36) = some B' ∧ cb [36] [35] B B' ∧ B'.1 36 = Int32.ofNat (s + (m + 1)) ∧ ∀ i, B'.2 35 i = if s ≤ i ∧ i < s + (m + 1) then (if x.toBitVec.getLsbD (m + 1 - 1 - (i - s)) = true then 1 else 0) else B.2 35 i := by
        intro v hv hnar
        unfold f_X9_put_30
        rw [hs, nu_inb (by omega) (by omega), sv_g_t rfl, hnar, ba_1, hs, nu_s, e2]
        obtain ⟨B', g1, g2, g3, g4⟩ := ih n (s + 1) (md_pf (md_pa B 35 (Int32.ofNat s) v) 36 (Int32.ofNat (s + 1))) (by omega) bf_1 (by omega) (by omega)
        refine ⟨B', g1, ((cb.rf.pa (by simp)).pf (by simp)).trans g2, by rw [g3]; congr 1; omega, fun i => ?_⟩
        rw [g4, bf_2, ba_2, nu_nat (by omega)]
        unfold upd
        by_cases h : s + 1 ≤ i ∧ i < s + 1 + m
        · rw [if_pos h, if_pos (show s ≤ i ∧ i < s + (m + 1) by omega), show m - 1 - (i - (s + 1)) = m + 1 - 1 - (i - s) by omega]
        · rw [if_neg h]
          by_cases h0 : i = s
          · rw [if_pos h0, if_pos (show s ≤ i ∧ i < s + (m + 1) by omega), hv, show m + 1 - 1 - (i - s) = m by omega]
          · rw [if_neg h0, if_neg (by omega)]
      unfold f_X9_put_4
      rw [if_neg (nu_neg (by omega))]
      by_cases hb : x.toBitVec.getLsbD m = true
      · rw [if_pos ((bit_t x (by omega)).mpr hb)]
        exact step 1 (by rw [if_pos hb]) (by decide)
      · rw [if_neg (mt (bit_t x (by omega)).mp hb)]
        exact step 0 (by rw [if_neg hb]) (by decide)
/-- the report under way: n bits -/
def rW (a0 : Nat) (n : Nat) (V : gh_V) (B : md_B) : Prop := n ≤ 424 ∧ V.1 2 (a0 + 22) = Int32.ofNat n ∧ V.1 0 (a0 + 22) = 424 ∧ B.1 36 = Int32.ofNat n ∧ rB n (V.2 (a0 + 23)) (B.2 35) 0 15
section PU
variable {a0 : Nat} {T : gh_T} {V : gh_V} {B : md_B}
theorem pw {n : Nat} (hs : sh a0 T) (h : rW a0 n V B) (x : Int32) (k : Nat) (hk : 1 ≤ k) (hk2 : k ≤ 32) (hn : n + k ≤ 424) : ∃ V' B', f_X0_append T V (a0 + 22) x (Int32.ofNat k) = some V' ∧ f_X9_put B x (Int32.ofNat k) = some B' ∧ ch [(2, a0 + 22)] [a0 + 23] V V' ∧ cb [36] [35] B B' ∧ rW a0 (n + k) V' B' := by
  obtain ⟨h1, h2, h3, h4, h5⟩ := h
  obtain ⟨V', e1, e2, e3, e4⟩ := append_s x hs.r1_22 hs.l23 (by decide) hk hk2 h2 (R := 424) h3 (by decide) hn (by omega)
  obtain ⟨B', g1, g2, g3, g4⟩ := put_l (x := x) k sv_fu n B (fu_lt (by omega)) h4 hn hk2
  refine ⟨V', B', e1, g1, e2, g2, hn, e3, by rw [e2.1 _ _ (by simp)]; exact h3, g3, fun i hi => ?_, fun i h6 h7 => ?_⟩
  · rw [g4, e4, Nat.zero_add]
    by_cases hin : n ≤ i ∧ i < n + k
    · rw [if_pos hin, decide_eq_true hin, h5.2 i hin.1 (by omega), Bool.false_or, Bool.true_and]
    · rw [if_neg hin, decide_eq_false hin, Bool.false_and, Bool.or_false]
      have := h5.1 i (by omega)
      rwa [Nat.zero_add] at this
  · rw [e4, decide_eq_false (by omega), Bool.false_and, Bool.or_false]
    exact h5.2 i (by omega) h7
end PU
