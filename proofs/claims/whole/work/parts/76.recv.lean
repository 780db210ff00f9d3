/-! ===== PURE: a message received ===== -/
theorem its {V : gh_V} {x y a b : Int32} {X : Option (Int32 × gh_V)} (h : X = some (b, V)) : (if x = y then some (a, V) else X) = some (if x = y then a else b, V) := by
  by_cases c : x = y
  · rw [if_pos c, if_pos c]
  · rw [if_neg c, if_neg c, h]
def bo (t : Nat) : Nat := if t = 1 ∨ t = 2 ∨ t = 3 ∨ t = 4 ∨ t = 18 then 168 else if t = 5 then 424 else 0
theorem bits_of {T : gh_T} {V : gh_V} {t : Nat} (ht : t < 64) : f_X7_bitsOf T V (Int32.ofNat t) = some (Int32.ofNat (bo t), V) := by
  have h : ∀ t, t < 64 → (if Int32.ofNat t = 1 then (168 : Int32) else if Int32.ofNat t = 2 then 168 else if Int32.ofNat t = 3 then 168 else if Int32.ofNat t = 4 then 168 else if Int32.ofNat t = 5 then 424 else if Int32.ofNat t = 6 then 0 else if Int32.ofNat t = 7 then 0 else if Int32.ofNat t = 8 then 0 else if Int32.ofNat t = 9 then 0 else if Int32.ofNat t = 10 then 0 else if Int32.ofNat t = 11 then 0 else if Int32.ofNat t = 12 then 0 else if Int32.ofNat t = 13 then 0 else if Int32.ofNat t = 14 then 0 else if Int32.ofNat t = 15 then 0 else if Int32.ofNat t = 16 then 0 else if Int32.ofNat t = 17 then 0 else if Int32.ofNat t = 18 then 168 else 0) = Int32.ofNat (bo t) := by decide +kernel
  rw [← h t ht]
  unfold f_X7_bitsOf
  generalize Int32.ofNat t = x
  exact its (its (its (its (its (its (its (its (its (its (its (its (its (its (its (its (its (its rfl)))))))))))))))))
section RC
variable {a0 z : Nat} {T : gh_T} {V : gh_V} {B : md_B}
/-- the reference makes a row -/
theorem m193 {N : Nat} {ty x : Int32} (hN : N < 40) : ∀ (k j n : Nat) (C : md_B), j + k = 3 → k < n → ∃ C', f_X9_message_193 n C ty x (Int32.ofNat N) (Int32.ofNat j) = f_X9_message_243 (md_pa (md_pa C' 29 (Int32.ofNat (24 * N)) x) 29 (Int32.ofNat (24 * N + 23)) 0) ty (Int32.ofNat N) ∧ cb [] [31] C C' ∧ (∀ q, j ≤ q → q < 3 → C'.2 31 (3 * N + q) = 0) ∧ ∀ q, (q < 3 * N + j ∨ 3 * N + 3 ≤ q) → C'.2 31 q = C.2 31 q := by
  have e24 : 24 * Int32.ofNat N = Int32.ofNat (24 * N) := nu_mul 24 N
  have e23 : Int32.ofNat (24 * N) + 23 = Int32.ofNat (24 * N + 23) := nu_add (24 * N) 23
  intro k
  induction k with
  | zero =>
    intro j n C hj hn
    cases n with
    | zero => omega
    | succ n =>
      refine ⟨C, ?_, cb.rf, fun q h1 h2 => by omega, fun _ _ => rfl⟩
      unfold f_X9_message_193
      rw [if_pos ((nl_le 3 3 rfl (by decide) (by omega)).mpr (by omega)), e24, e23, nu_inb (by omega) (by omega), sv_g_t rfl, nu_inb (by omega) (by omega), sv_g_t rfl]
  | succ k ih =>
    intro j n C hj hn
    cases n with
    | zero => omega
    | succ n =>
      have e3 : 3 * Int32.ofNat N + Int32.ofNat j = Int32.ofNat (3 * N + j) := by
        rw [show (3 : Int32) = Int32.ofNat 3 from rfl, nu_mul, nu_add]
      obtain ⟨C', c1, c2, c3, c4⟩ := ih (j + 1) n (md_pa C 31 (Int32.ofNat (3 * N + j)) 0) (by omega) (by omega)
      refine ⟨C', ?_, (cb.rf.pa (by simp)).trans c2, fun q h1 h2 => ?_, fun q hq => ?_⟩
      · rw [← c1]
        conv => lhs; unfold f_X9_message_193
        rw [if_neg (mt (nl_le 3 3 rfl (by decide) (by omega)).mp (by omega)), e3, nu_inb (by omega) (by omega), sv_g_t rfl, nu_s]
      · by_cases e : q = j
        · rw [c4 _ (by omega), ba_2, nu_nat (by omega)]
          unfold upd
          rw [if_pos (by omega)]
        · exact c3 q (by omega) h2
      · rw [c4 q (by omega), ba_2, nu_nat (by omega)]
        unfold upd
        rw [if_neg (by omega)]
theorem m162 {N : Nat} {ty x : Int32} (hN : N < 40) : ∀ (k j n : Nat) (C : md_B), j + k = 24 → k < n → ∃ C', f_X9_message_162 n C ty x (Int32.ofNat N) (Int32.ofNat j) = f_X9_message_193 sv_fu C' ty x (Int32.ofNat N) 0 ∧ cb [] [29] C C' ∧ (∀ q, j ≤ q → q < 24 → C'.2 29 (24 * N + q) = -2147483648) ∧ ∀ q, (q < 24 * N + j ∨ 24 * N + 24 ≤ q) → C'.2 29 q = C.2 29 q := by
  intro k
  induction k with
  | zero =>
    intro j n C hj hn
    cases n with
    | zero => omega
    | succ n =>
      refine ⟨C, ?_, cb.rf, fun q h1 h2 => by omega, fun _ _ => rfl⟩
      unfold f_X9_message_162
      rw [if_pos ((nl_le 24 24 rfl (by decide) (by omega)).mpr (by omega))]
  | succ k ih =>
    intro j n C hj hn
    cases n with
    | zero => omega
    | succ n =>
      have e3 : 24 * Int32.ofNat N + Int32.ofNat j = Int32.ofNat (24 * N + j) := by
        rw [show (24 : Int32) = Int32.ofNat 24 from rfl, nu_mul, nu_add]
      obtain ⟨C', c1, c2, c3, c4⟩ := ih (j + 1) n (md_pa C 29 (Int32.ofNat (24 * N + j)) (-2147483648)) (by omega) (by omega)
      refine ⟨C', ?_, (cb.rf.pa (by simp)).trans c2, fun q h1 h2 => ?_, fun q hq => ?_⟩
      · rw [← c1]
        conv => lhs; unfold f_X9_message_162
        rw [if_neg (mt (nl_le 24 24 rfl (by decide) (by omega)).mp (by omega)), e3, nu_inb (by omega) (by omega), sv_g_t rfl, nu_s]
      · by_cases e : q = j
        · rw [c4 _ (by omega), ba_2, nu_nat (by omega)]
          unfold upd
          rw [if_pos (by omega)]
        · exact c3 q (by omega) h2
      · rw [c4 q (by omega), ba_2, nu_nat (by omega)]
        unfold upd
        rw [if_neg (by omega)]
theorem mnew {N : Nat} {ty x : Int32} (hN : N < 40) (h28 : B.1 28 = Int32.ofNat N) : ∃ C, f_X9_message_138 B ty x (-2147483648) = f_X9_message_243 C ty (Int32.ofNat N) ∧ cb [28] [29, 31] B C ∧ C.1 28 = Int32.ofNat (N + 1) ∧ (∀ k, k < 24 → C.2 29 (24 * N + k) = if k = 0 then x else if k = 23 then 0 else -2147483648) ∧ (∀ k, k < 3 → C.2 31 (3 * N + k) = 0) ∧ rLf N B C := by
  obtain ⟨C1, c1, c2, c3, c4⟩ := m162 (ty := ty) (x := x) hN 24 0 sv_fu (md_pf B 28 (Int32.ofNat (N + 1))) rfl (fu_lt (by decide))
  obtain ⟨C2, d1, d2, d3, d4⟩ := m193 (ty := ty) (x := x) hN 3 0 sv_fu C1 rfl (fu_lt (by decide))
  have hcb : cb [28] [29, 31] B (md_pa (md_pa C2 29 (Int32.ofNat (24 * N)) x) 29 (Int32.ofNat (24 * N + 23)) 0) := ((((cb.rf.pf (by simp)).trans (c2.mono (by simp) (by simp))).trans (d2.mono (by simp) (by simp))).pa (by simp)).pa (by simp)
  have e29 : ∀ q, (md_pa (md_pa C2 29 (Int32.ofNat (24 * N)) x) 29 (Int32.ofNat (24 * N + 23)) 0).2 29 q = if q = 24 * N + 23 then 0 else if q = 24 * N then x else C1.2 29 q := by
    intro q
    rw [ba_2, ba_2, nu_nat (by omega), nu_nat (by omega), d2.2 29 (by simp)]
    rfl
  refine ⟨_, ?_, hcb, ?_, fun k hk => ?_, fun k hk => ?_, fun q hq => ?_, fun q hq => ?_, fun q hq => ?_⟩
  · unfold f_X9_message_138
    rw [if_neg (by decide), h28, nu_s]
    exact c1.trans d1
  · rw [ba_1, ba_1, d2.1 _ (by simp), c2.1 _ (by simp), bf_1]
  · rw [e29]
    by_cases c : k = 23
    · rw [if_pos (by omega), c]
      simp
    · rw [if_neg (by omega)]
      by_cases c0 : k = 0
      · rw [if_pos (by omega), if_pos c0]
      · rw [if_neg (by omega), if_neg c0, if_neg c]
        exact c3 k (by omega) hk
  · rw [ba_n (by decide), ba_n (by decide)]
    exact d3 k (by omega) hk
  · rw [e29, if_neg (by omega), if_neg (by omega), c4 q (by omega)]
    rfl
  · rw [hcb.2 30 (by simp)]
  · rw [ba_n (by decide), ba_n (by decide), d4 q (by omega), c2.2 31 (by simp)]
    rfl
/-- a vessel takes what the message says -/
theorem learn_all {i v t K : Nat} (hs : sh a0 T) (hv : T.2.2.2.2 (a0 + 21) i = some v) (hi : i < 40) (h33 : B.1 33 = 0) (hM : rB K (V.2 (a0 + 19)) (B.2 25) 0 103) (ht : bo t = K) (ht0 : 0 < K) (h29 : ∀ k, k < 24 → V.2 (v + 1) k = B.2 29 (24 * i + k)) (htx : ∀ k, k < 3 → rVt V v B i k) : ∃ V' B', f_X7_learn T V v (Int32.ofNat t) (a0 + 18) = some V' ∧ f_X9_message_243 B (Int32.ofNat t) (Int32.ofNat i) = some B' ∧ ch [] [v + 1, v + 2, v + 3] V V' ∧ cb [32, 34] [29, 30, 31] B B' ∧ rLf i B B' ∧ rV V' v B' i := by
  obtain ⟨hav, hvq⟩ := hs.2.2.2.1 i v hv
  obtain ⟨k1, k2, k3, k4, k5, k6, k7, k8, k9, k10⟩ := hvq
  have e24 : 24 * Int32.ofNat i = Int32.ofNat (24 * i) := nu_mul 24 i
  have e1 : Int32.ofNat (24 * i) + 1 = Int32.ofNat (24 * i + 1) := nu_add (24 * i) 1
  have e23 : Int32.ofNat (24 * i) + 23 = Int32.ofNat (24 * i + 23) := nu_add (24 * i) 23
  obtain ⟨C, hC⟩ : ∃ C, C = md_pa (md_pa B 29 (Int32.ofNat (24 * i + 1)) (Int32.ofNat t)) 29 (Int32.ofNat (24 * i + 23)) (B.2 29 (24 * i + 23) + 1) := ⟨_, rfl⟩
  have h243 : f_X9_message_243 B (Int32.ofNat t) (Int32.ofNat i) = f_X9_reports C (Int32.ofNat i) (Int32.ofNat t) := by
    unfold f_X9_message_243
    have e : (md_pa B 29 (Int32.ofNat (24 * i + 1)) (Int32.ofNat t)).2 29 (24 * i + 23) = B.2 29 (24 * i + 23) := by
      rw [ba_2, nu_nat (by omega)]
      unfold upd
      rw [if_neg (by omega)]
    rw [e24, e1, e23, nu_inb (by omega) (by omega), sv_g_t rfl, nu_inb (by omega) (by omega), sv_g_t rfl, sv_g_t rfl, nu_nat (n := 24 * i + 23) (by omega), e, ← hC, bind_eta]
  have hCe : ∀ q, C.2 29 q = if q = 24 * i + 23 then B.2 29 (24 * i + 23) + 1 else if q = 24 * i + 1 then Int32.ofNat t else B.2 29 q := by
    intro q
    rw [hC, ba_2, ba_2, nu_nat (by omega), nu_nat (by omega)]
    rfl
  have hCc : cb [] [29] B C := by rw [hC]; exact (cb.rf.pa (by simp)).pa (by simp)
  obtain ⟨B0, hB0⟩ : ∃ B0, B0 = md_pf (md_pf C 34 (Int32.ofNat i)) 32 38 := ⟨_, rfl⟩
  have hBc : cb [32, 34] [29] B B0 := by rw [hB0]; exact ((hCc.mono (by simp) (by simp)).pf (by simp)).pf (by simp)
  have hB2 : ∀ k, B0.2 k = C.2 k := fun k => by rw [hB0]; rfl
  have hm : rLm a0 K i V B0 := by
    refine ⟨?_, hi, ?_, ?_, ?_⟩
    · rw [← ht]
      unfold bo
      split
      · omega
      · split <;> omega
    · rw [hBc.2 _ (by simp)]; exact hM
    · rw [hBc.1 _ (by simp)]; exact h33
    · rw [hB0, bf_n (by decide), bf_1]
  have hL : rL v i (Int32.ofNat t) 38 V B0 V B0 := by
    refine ⟨ch.rf, cb.rf, ⟨fun _ _ => rfl, fun _ _ => rfl, fun _ _ => rfl⟩, by rw [hB0, bf_1]; rfl, fun k hk n1 n23 => ?_, ?_, ?_, fun k hk => (htx k hk).fr rfl (fun _ _ => rfl) (by rw [hBc.2 _ (by simp)]) (fun _ _ => by rw [hBc.2 _ (by simp)])⟩
    · rw [hB2, hCe, if_neg (by omega), if_neg (by omega)]
      exact h29 k hk
    · rw [hB2, hCe, if_neg (by omega), if_pos rfl]
    · rw [hB2, hCe, if_pos rfl, h29 23 (by decide)]
  have fin : ∀ V' B', f_X7_learn T V v (Int32.ofNat t) (a0 + 18) = some V' → f_X9_reports C (Int32.ofNat i) (Int32.ofNat t) = some B' → ch [] [v + 1, v + 2, v + 3] V V' → cb [32] [29, 30, 31] B0 B' → rLf i B0 B' → rV V' v B' i → ∃ V' B', f_X7_learn T V v (Int32.ofNat t) (a0 + 18) = some V' ∧ f_X9_message_243 B (Int32.ofNat t) (Int32.ofNat i) = some B' ∧ ch [] [v + 1, v + 2, v + 3] V V' ∧ cb [32, 34] [29, 30, 31] B B' ∧ rLf i B B' ∧ rV V' v B' i := by
    intro V' B' q1 q2 q3 q4 q5 q6
    refine ⟨V', B', q1, h243.trans q2, q3, (hBc.mono (by simp) (by simp)).trans (q4.mono (by simp) (by simp)), ⟨fun j hj => ?_, fun j hj => ?_, fun j hj => ?_⟩, q6⟩
    · rw [q5.1 j hj, hB2, hCe, if_neg (by omega), if_neg (by omega)]
    · rw [q5.2.1 j hj, hBc.2 _ (by simp)]
    · rw [q5.2.2 j hj, hBc.2 _ (by simp)]
  unfold bo at ht
  by_cases c1 : t = 1 ∨ t = 2 ∨ t = 3
  · rw [if_pos (by omega)] at ht
    rw [← ht] at hm
    obtain ⟨V', B', q1, q2, q3, q4, q5, q6⟩ := learn_1 hs hm hav k5 k8 ⟨k6, k7, k9, k10⟩ (by
      rcases c1 with c | c | c
      · exact Or.inl (by rw [c]; rfl)
      · exact Or.inr (Or.inl (by rw [c]; rfl))
      · exact Or.inr (Or.inr (by rw [c]; rfl))) hB0 hL
    exact fin V' B' q1 q2 q3 q4 q5 q6
  · by_cases c4 : t = 4
    · rw [if_pos (by omega)] at ht
      rw [← ht] at hm
      obtain ⟨V', B', q1, q2, q3, q4, q5, q6⟩ := learn_4 hs hm hav k5 k8 ⟨k6, k7, k9, k10⟩ (by rw [c4]; rfl) hB0 hL
      exact fin V' B' q1 q2 q3 q4 q5 q6
    · by_cases c18 : t = 18
      · rw [if_pos (by omega)] at ht
        rw [← ht] at hm
        obtain ⟨V', B', q1, q2, q3, q4, q5, q6⟩ := learn_18 hs hm hav k5 k8 ⟨k6, k7, k9, k10⟩ (by rw [c18]; rfl) hB0 hL
        exact fin V' B' q1 q2 q3 q4 q5 q6
      · rw [if_neg (by omega)] at ht
        by_cases c5 : t = 5
        · rw [if_pos c5] at ht
          rw [← ht] at hm
          obtain ⟨V', B', q1, q2, q3, q4, q5, q6⟩ := learn_5 hs hm hav k5 k8 ⟨k6, k7, k9, k10⟩ (by rw [c5]; rfl) hB0 hL
          exact fin V' B' q1 q2 q3 q4 q5 q6
        · rw [if_neg c5] at ht
          omega
end RC
