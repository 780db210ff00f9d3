/-! ===== PURE: values of the fix ===== -/
def bi (b : Bool) : Int32 := if b = true then 1 else 0
def GR (a0 m nf : Nat) (s p : Nat → Nat) (V0 : gh_V) (B0 : md_B) (b : Bool) (K : List Nat) (V : gh_V) (B : md_B) : Prop :=
  ch [(3, a0 + 8)] [a0 + 13] V0 V ∧ cb [14] [15] B0 B ∧ FC a0 m s nf p V ∧ FB m s nf p B ∧ V.1 3 (a0 + 8) = bi b ∧ B.1 14 = bi b ∧ (b = true → ∀ k ∈ K, V.2 (a0 + 13) k = B.2 15 k)
theorem ofn_ne {k : Nat} {K : List Nat} (h : k ∈ K) : k ∈ K := h
section TK
variable {a0 m nf : Nat} {s p : Nat → Nat} {T : gh_T} {V0 V : gh_V} {B0 B : md_B} {b : Bool} {K : List Nat}
theorem st_a (h : GR a0 m nf s p V0 B0 b K V B) (k : Nat) (hk : k < 18) (y x : Int32) (hyx : b = true → y = x) : GR a0 m nf s p V0 B0 b (k :: K) (gh_pa V (a0 + 13) (Int32.ofNat k) y) (md_pa B 15 (Int32.ofNat k) x) := by
  obtain ⟨h1, h2, h3, h4, h5, h6, h7⟩ := h
  have hV : ch [(3, a0 + 8)] [a0 + 13] V (gh_pa V (a0 + 13) (Int32.ofNat k) y) := ch.rf.pa (by simp)
  have hB : cb [14] [15] B (md_pa B 15 (Int32.ofNat k) x) := cb.rf.pa (by simp)
  refine ⟨h1.trans hV, h2.trans hB, h3.ch hV, h4.cb hB (by simp) (by simp), h5, h6, fun hb j hj => ?_⟩
  rw [pa_2, ba_2, nu_nat (by omega)]
  unfold upd
  by_cases e : j = k
  · rw [if_pos e, if_pos e]
    exact hyx hb
  · rw [if_neg e, if_neg e]
    exact h7 hb j ((List.mem_cons.mp hj).resolve_left e)
theorem st_0 (h : GR a0 m nf s p V0 B0 b K V B) (S : Option Int32) : ∃ y V1 x B1, cr (a0 + 8) V S = (y, V1) ∧ br B S = (x, B1) ∧ (S.isSome = true → y = x ∧ S = some y) ∧ GR a0 m nf s p V0 B0 (b && S.isSome) K V1 B1 := by
  cases S with
  | some y =>
    refine ⟨y, V, y, B, rfl, rfl, fun _ => ⟨rfl, rfl⟩, ?_⟩
    rw [Option.isSome_some, Bool.and_true]
    exact h
  | none =>
    obtain ⟨h1, h2, h3, h4, h5, h6, h7⟩ := h
    refine ⟨-2147483648, gh_pf V 3 (a0 + 8) 0, -2147483648, md_pf B 14 0, rfl, rfl, fun h => by simp at h, h1.pf (by simp), h2.pf (by simp), h3.wr, h4.wr, ?_, ?_, fun hb => ?_⟩
    · rw [pf_1, Option.isSome_none, Bool.and_false]
      rfl
    · rw [bf_1, Option.isSome_none, Bool.and_false]
      rfl
    · simp at hb
theorem st (h : GR a0 m nf s p V0 B0 b K V B) (S : Option Int32) (k : Nat) (hk : k < 18) : ∃ y V1 x B1, cr (a0 + 8) V S = (y, V1) ∧ br B S = (x, B1) ∧ GR a0 m nf s p V0 B0 (b && S.isSome) (k :: K) (gh_pa V1 (a0 + 13) (Int32.ofNat k) y) (md_pa B1 15 (Int32.ofNat k) x) := by
  obtain ⟨y, V1, x, B1, e1, e2, e3, e4⟩ := st_0 h S
  refine ⟨y, V1, x, B1, e1, e2, st_a e4 k hk y x (fun hb => (e3 ?_).1)⟩
  cases hS : S.isSome with
  | true => rfl
  | false => rw [hS, Bool.and_false] at hb; exact absurd hb (by decide)
/-- a value and its unit -/
theorem st_u (h : GR a0 m nf s p V0 B0 b K V B) (S : Option Int32) (M : Int32 → Option Int32) (U : Prop) [Decidable U] (hM : ∀ y, S = some y → M y = if U then some y else none) (k : Nat) (hk : k < 18) : ∃ y V1 x B1, cr (a0 + 8) V S = (y, V1) ∧ br B (S.bind M) = (x, B1) ∧ GR a0 m nf s p V0 B0 (b && (S.bind M).isSome) (k :: K) (if U then gh_pa V1 (a0 + 13) (Int32.ofNat k) y else gh_pf (gh_pa V1 (a0 + 13) (Int32.ofNat k) y) 3 (a0 + 8) 0) (md_pa B1 15 (Int32.ofNat k) x) := by
  by_cases hU : U
  · have e : S.bind M = S := by
      cases S with
      | none => rfl
      | some y =>
        show M y = some y
        rw [hM y rfl, if_pos hU]
    rw [e]
    simp only [if_pos hU]
    exact st h S k hk
  · have e : S.bind M = none := by
      cases S with
      | none => rfl
      | some y =>
        show M y = none
        rw [hM y rfl, if_neg hU]
    rw [e]
    simp only [if_neg hU]
    obtain ⟨h1, h2, h3, h4, h5, h6, h7⟩ := h
    have hc : ∃ y V1, cr (a0 + 8) V S = (y, V1) ∧ ch [(3, a0 + 8)] [a0 + 13] V V1 := by
      cases S with
      | none => exact ⟨_, _, rfl, ch.rf.pf (by simp)⟩
      | some y => exact ⟨_, _, rfl, ch.rf⟩
    obtain ⟨y, V1, c1, c2⟩ := hc
    have hV : ch [(3, a0 + 8)] [a0 + 13] V (gh_pf (gh_pa V1 (a0 + 13) (Int32.ofNat k) y) 3 (a0 + 8) 0) := (c2.pa (by simp)).pf (by simp)
    have hB : cb [14] [15] B (md_pa (md_pf B 14 0) 15 (Int32.ofNat k) (-2147483648)) := (cb.rf.pf (by simp)).pa (by simp)
    refine ⟨y, V1, -2147483648, md_pf B 14 0, c1, rfl, h1.trans hV, h2.trans hB, h3.ch hV, h4.cb hB (by simp) (by simp), ?_, ?_, fun hb => ?_⟩
    · rw [pf_1, Option.isSome_none, Bool.and_false]
      rfl
    · rw [ba_1, bf_1, Option.isSome_none, Bool.and_false]
      rfl
    · simp at hb
theorem meas_u {f u : Nat} {S : Option Int32} (hf : 1 ≤ f) (hS : ∀ y, S = some y → (y = -2147483648 ↔ fl p (f - 1) = 0)) : ∀ y, S = some y → S_meas s p f u y = if U_unit s p f u then some y else none := by
  intro y hy
  have := hS y hy
  unfold S_meas
  by_cases c : fl p f = 0
  · have hU : U_unit s p f u ↔ fl p (f - 1) = 0 := by unfold U_unit; rw [if_pos c]
    by_cases c2 : fl p (f - 1) = 0
    · rw [if_neg (by simp [c, this.mpr c2]), if_pos (hU.mpr c2)]
    · rw [if_pos (Or.inl ⟨c, fun h => c2 (this.mp h)⟩), if_neg (mt hU.mp c2)]
  · have hU : U_unit s p f u ↔ (fl p f = 1 ∧ s (p f) = u) := by unfold U_unit; rw [if_neg c]
    by_cases c2 : fl p f = 1 ∧ s (p f) = u
    · rw [if_neg (by simp [c, c2]), if_pos (hU.mpr c2)]
    · rw [if_pos (Or.inr ⟨c, c2⟩), if_neg (mt hU.mp c2)]
theorem dec_u {f d w : Nat} (hw : w + d ≤ 9) : ∀ y, S_dec s p f d w = some y → (y = -2147483648 ↔ fl p f = 0) := by
  intro y hy
  unfold S_dec at hy
  by_cases c : fl p f = 0
  · rw [if_pos c] at hy
    cases hy
    exact ⟨fun _ => c, fun _ => rfl⟩
  · rw [if_neg c] at hy
    cases hD : sD s (p f) (fl p f) 1 w 6 d with
    | none => rw [hD] at hy; cases hy
    | some v =>
      rw [hD] at hy
      cases hy
      have hv := sD_lt hD
      have hp := p9 hw
      exact ⟨fun h => absurd h (none_ne (by omega)), fun h => absurd h c⟩
theorem sgn_u {f d w : Nat} (hw : w + d ≤ 9) : ∀ y, S_sgn s p f d w = some y → (y = -2147483648 ↔ fl p f = 0) := by
  intro y hy
  unfold S_sgn at hy
  have hp := p9 hw
  by_cases c : fl p f = 0
  · rw [if_pos c] at hy
    cases hy
    exact ⟨fun _ => c, fun _ => rfl⟩
  · rw [if_neg c] at hy
    by_cases c4 : s (p f) = 45
    · rw [if_pos c4] at hy
      cases hD : sD s (p f + 1) (fl p f - 1) 1 w 6 d with
      | none => rw [hD] at hy; cases hy
      | some v =>
        rw [hD] at hy
        cases hy
        have hv := sD_lt hD
        exact ⟨fun h => absurd h (neg_none (none_ne (by omega))), fun h => absurd h c⟩
    · rw [if_neg c4] at hy
      cases hD : sD s (p f) (fl p f) 1 w 6 d with
      | none => rw [hD] at hy; cases hy
      | some v =>
        rw [hD] at hy
        cases hy
        have hv := sD_lt hD
        exact ⟨fun h => absurd h (none_ne (by omega)), fun h => absurd h c⟩
theorem cou_u {f : Nat} : ∀ y, S_cou s p f = some y → (y = -2147483648 ↔ fl p f = 0) := by
  intro y hy
  unfold S_cou at hy
  cases hD : S_dec s p f 2 3 with
  | none => rw [hD] at hy; cases hy
  | some v =>
    rw [hD] at hy
    have hy : (if 36000 ≤ v then none else some v) = some y := hy
    by_cases c : 36000 ≤ v
    · rw [if_pos c] at hy
      cases hy
    · rw [if_neg c] at hy
      have hv : v = y := Option.some.inj hy
      rw [← hv]
      exact dec_u (d := 2) (w := 3) (by decide) v hD
theorem cou_b (f : Nat) : (S_dec s p f 2 3).bind (fun y => if Int32.ofNat 35999 < y then none else some y) = S_cou s p f := by
  unfold S_cou
  refine congrArg (fun g => (S_dec s p f 2 3).bind g) ?_
  funext y
  have : (Int32.ofNat 35999 < y) ↔ 36000 ≤ y := by
    rw [Int32.le_iff_toInt_le, Int32.lt_iff_toInt_lt]
    show (35999 : Int) < _ ↔ (36000 : Int) ≤ _
    omega
  by_cases c : 36000 ≤ y
  · rw [if_pos c, if_pos (this.mpr c)]
  · rw [if_neg c, if_neg (mt this.mp c)]
/-- the fix takes the values -/
theorem settle_0 {j : Nat} : f_X4_settle T V (a0 + 11) 0 j = some (0, V) := by
  unfold f_X4_settle
  have : sv_fu = sv_fu - 1 + 1 := (Nat.sub_add_cancel (Nat.le_of_lt (fu_lt (by decide)))).symm
  rw [this]
  unfold f_X4_settle_2
  rw [if_pos rfl]
  exact sv_g_t (by decide)
theorem settle_1 (hs : sh a0 T) {j : Nat} {n1 n2 : String} (L : List Nat) (hL : sv_sta[j]? = some (n1, n2, L.map Int32.ofNat)) (hl : L.length < 1000) (h18 : ∀ e ∈ L, e < 18) : ∃ V', f_X4_settle T V (a0 + 11) 1 j = some (1, V') ∧ ch [] [a0 + 12] V V' ∧ (∀ e ∈ L, V'.2 (a0 + 12) e = V.2 (a0 + 13) e) ∧ ∀ e, e ∉ L → V'.2 (a0 + 12) e = V.2 (a0 + 12) e := by
  have loop : ∀ (k i n : Nat) (W : gh_V), i + k = L.length → k < n → ch [] [a0 + 12] V W → (∀ q e, q < i → L[q]? = some e → W.2 (a0 + 12) e = V.2 (a0 + 13) e) → (∀ e, (∀ q, q < i → L[q]? ≠ some e) → W.2 (a0 + 12) e = V.2 (a0 + 12) e) → ∃ V', f_X4_settle_2 T (a0 + 11) j n W 1 (Int32.ofNat i) = some (1, V') ∧ ch [] [a0 + 12] V V' ∧ (∀ q e, q < L.length → L[q]? = some e → V'.2 (a0 + 12) e = V.2 (a0 + 13) e) ∧ ∀ e, (∀ q, q < L.length → L[q]? ≠ some e) → V'.2 (a0 + 12) e = V.2 (a0 + 12) e := by
    intro k
    induction k with
    | zero =>
      intro i n W hi hn hW h1 h2
      cases n with
      | zero => omega
      | succ n =>
        have : i = L.length := by omega
        subst this
        refine ⟨W, ?_, hW, h1, h2⟩
        unfold f_X4_settle_2
        rw [if_neg (by decide), hL, Option.bind_some]
        simp only [List.length_map]
        rw [if_pos ((nu_le (by omega) (by omega)).mpr (Nat.le_refl _))]
        exact sv_g_t (by decide)
    | succ k ih =>
      intro i n W hi hn hW h1 h2
      cases n with
      | zero => omega
      | succ n =>
        have hlt : L[i] < 18 := h18 _ (List.getElem_mem (by omega))
        have hg : (L.map Int32.ofNat).getD i 0 = Int32.ofNat L[i] := by
          rw [List.getD_eq_getElem?_getD, List.getElem?_map, List.getElem?_eq_getElem (by omega)]
          rfl
        have hgi : L[i]? = some L[i] := List.getElem?_eq_getElem (by omega)
        obtain ⟨V', e1, e2⟩ := ih (i + 1) n (gh_pa W (a0 + 12) (Int32.ofNat L[i]) (W.2 (a0 + 13) L[i])) (by omega) (by omega) (hW.pa (by simp)) (fun q e hq he => by
          rw [pa_2, nu_nat (by omega), hW.2 (a0 + 13) (by simp)]
          unfold upd
          by_cases c : e = L[i]
          · rw [if_pos c, c]
          · rw [if_neg c]
            refine h1 q e ?_ he
            by_cases cq : q = i
            · subst cq
              rw [hgi] at he
              exact absurd (Option.some.inj he).symm c
            · omega) (fun e he => by
          rw [pa_2, nu_nat (by omega)]
          unfold upd
          rw [if_neg (fun c => he i (by omega) (by rw [c]; exact hgi))]
          exact h2 e (fun q hq => he q (by omega)))
        refine ⟨V', ?_, e2⟩
        rw [← e1]
        conv => lhs; unfold f_X4_settle_2
        rw [if_neg (by decide), hL, Option.bind_some]
        simp only [List.length_map]
        rw [if_neg (mt (nu_le (by omega) (by omega)).mp (by omega)), hs.r0_11, Option.bind_some, Option.bind_some]
        simp only [List.length_map]
        rw [nu_inb (by omega) (by omega), sv_g_t rfl, hs.r1_11, Option.bind_some, Option.bind_some]
        simp only [List.length_map]
        rw [nu_inb (by omega) (by omega), sv_g_t rfl, nu_nat (by omega), hg, hs.l13, nu_inb (by omega) hlt, sv_g_t rfl, hs.l12, nu_inb (by omega) hlt, sv_g_t rfl, nu_nat (by omega), nu_s]
  obtain ⟨V', e1, e2, e3, e4⟩ := loop L.length 0 sv_fu V (by omega) (fu_lt (by omega)) ch.rf (fun q e hq => by omega) (fun e _ => rfl)
  refine ⟨V', e1, e2, fun e he => ?_, fun e he => e4 e (fun q hq hc => he (List.mem_of_getElem? hc))⟩
  obtain ⟨q, hq, hqe⟩ := List.getElem_of_mem he
  exact e3 q e hq (by rw [List.getElem?_eq_getElem hq, hqe])
theorem keep_s {lo hi : Nat} (hh : hi < 18) (hlo : lo ≤ hi) : ∃ B', f_X9_keep B (Int32.ofNat lo) (Int32.ofNat hi) = some B' ∧ cb [] [16] B B' ∧ ∀ e, B'.2 16 e = if lo ≤ e ∧ e ≤ hi then B.2 15 e else B.2 16 e := by
  have loop : ∀ (k i n : Nat) (C : md_B), i + k = hi + 1 → lo ≤ i → k < n → cb [] [16] B C → (∀ e, C.2 16 e = if lo ≤ e ∧ e < i then B.2 15 e else B.2 16 e) → ∃ B', f_X9_keep_2 n C (Int32.ofNat hi) (Int32.ofNat i) = some B' ∧ cb [] [16] B B' ∧ ∀ e, B'.2 16 e = if lo ≤ e ∧ e ≤ hi then B.2 15 e else B.2 16 e := by
    intro k
    induction k with
    | zero =>
      intro i n C hi' hlo' hn hC h1
      cases n with
      | zero => omega
      | succ n =>
        refine ⟨C, ?_, hC, fun e => ?_⟩
        · unfold f_X9_keep_2
          rw [if_pos ((nu_lt (by omega) (by omega)).mpr (by omega))]
        · rw [h1 e]
          by_cases c : lo ≤ e ∧ e ≤ hi
          · rw [if_pos c, if_pos (by omega)]
          · rw [if_neg c, if_neg (by omega)]
    | succ k ih =>
      intro i n C hi' hlo' hn hC h1
      cases n with
      | zero => omega
      | succ n =>
        obtain ⟨B', e1, e2⟩ := ih (i + 1) n (md_pa C 16 (Int32.ofNat i) (C.2 15 i)) (by omega) (by omega) (by omega) (hC.pa (by simp)) (fun e => by
          rw [ba_2, nu_nat (by omega), hC.2 15 (by simp)]
          unfold upd
          by_cases c : e = i
          · rw [if_pos c, if_pos (by omega), c]
          · rw [if_neg c, h1 e]
            by_cases c2 : lo ≤ e ∧ e < i
            · rw [if_pos c2, if_pos (by omega)]
            · rw [if_neg c2, if_neg (by omega)])
        refine ⟨B', ?_, e2⟩
        rw [← e1]
        conv => lhs; unfold f_X9_keep_2
        rw [if_neg (mt (nu_lt (by omega) (by omega)).mp (by omega)), nu_inb (by omega) (by omega), sv_g_t rfl, sv_g_t rfl, nu_nat (by omega), nu_s]
  exact loop (hi + 1 - lo) lo sv_fu B (by omega) (Nat.le_refl _) (fu_lt (by omega)) cb.rf (fun e => by rw [if_neg (by omega)])
def TKr (a0 : Nat) (V : gh_V) (B : md_B) (x : Int32) (o : Option (Int32 × gh_V)) : Prop :=
  ∃ b V' B1, o = some (bi b, V') ∧ f_X9_fits B x = some (bi b, B1) ∧ ch [(3, a0 + 8)] [a0 + 12, a0 + 13] V V' ∧ cb [14] [15] B B1 ∧ (b = false → V'.2 (a0 + 12) = V.2 (a0 + 12)) ∧ (b = true → ∀ B2, cb [] [10] B1 B2 → ∃ B3, f_X9_taken B2 x = some B3 ∧ cb [] [16] B2 B3 ∧ (rE 18 (V.2 (a0 + 12)) (B.2 16) → rE 18 (V'.2 (a0 + 12)) (B3.2 16)))
theorem fits_119 {b : Bool} (h : B.1 14 = bi b) : f_X9_fits_119 B = some (bi b, B) := by
  unfold f_X9_fits_119
  rw [h]
  exact sv_g_t (by cases b <;> decide)
/-- the end of a taking -/
theorem tk_end (hs : sh a0 T) {x : Int32} {j : Nat} {n1 n2 : String} {Bf : md_B} (h : GR a0 m nf s p V0 B0 b K V B) (hB0 : cb [14] [] Bf B0) (hfit : f_X9_fits Bf x = f_X9_fits_119 B) (L : List Nat) (hL : sv_sta[j]? = some (n1, n2, L.map Int32.ofNat)) (hl : L.length < 1000) (h18 : ∀ e ∈ L, e < 18) (hK : ∀ e ∈ L, e ∈ K) (htk : ∀ B2 : md_B, ∃ B3, f_X9_taken B2 x = some B3 ∧ cb [] [16] B2 B3 ∧ (∀ e ∈ L, B3.2 16 e = B2.2 15 e) ∧ ∀ e, e < 18 → e ∉ L → B3.2 16 e = B2.2 16 e) {y : Int32} (hy : V.1 3 (a0 + 8) = y) : TKr a0 V0 Bf x ((f_X4_settle T V (a0 + 11) y j).bind (fun q171 => sv_g (decide (vp_nar .boolean q171.1 = q171.1)) (some (q171.1, q171.2)))) := by
  obtain ⟨h1, h2, h3, h4, h5, h6, h7⟩ := h
  rw [fits_119 h6] at hfit
  rw [h5] at hy
  rw [← hy]
  have hBB : cb [14] [15] Bf B := (hB0.mono (by simp) (by simp)).trans h2
  cases b with
  | false =>
    refine ⟨false, V, B, ?_, hfit, h1.mono (by simp) (by simp), hBB, fun _ => h1.2 _ (by simp), fun c => by simp at c⟩
    show (f_X4_settle T V (a0 + 11) 0 j).bind _ = _
    rw [settle_0, Option.bind_some]
    exact sv_g_t (by decide : decide (vp_nar .boolean (0 : Int32) = 0) = true)
  | true =>
    obtain ⟨V', e1, e2, e3, e4⟩ := settle_1 (V := V) hs L hL hl h18
    refine ⟨true, V', B, ?_, hfit, (h1.mono (by simp) (by simp)).trans (e2.mono (by simp) (by simp)), hBB, fun c => by simp at c, fun _ B2 hB2 => ?_⟩
    · show (f_X4_settle T V (a0 + 11) 1 j).bind _ = _
      rw [e1, Option.bind_some]
      exact sv_g_t (by decide : decide (vp_nar .boolean (1 : Int32) = 1) = true)
    · obtain ⟨B3, g1, g2, g3, g4⟩ := htk B2
      refine ⟨B3, g1, g2, fun hr e he => ?_⟩
      by_cases hm : e ∈ L
      · rw [e3 e hm, g3 e hm, hB2.2 _ (by simp)]
        exact h7 rfl e (hK e hm)
      · rw [e4 e hm, g4 e he hm, hB2.2 _ (by simp), hBB.2 _ (by simp), h1.2 _ (by simp)]
        exact hr e he
theorem tk_no {x : Int32} (hfit : f_X9_fits B x = some (0, md_pf B 14 1)) : TKr a0 V B x (some (0, V)) :=
  ⟨false, V, md_pf B 14 1, rfl, hfit, ch.rf, cb.rf.pf (by simp), fun _ => rfl, fun c => by simp at c⟩
end TK
