/-! ===== PURE: the class's shape, the relation ===== -/
def sh_refs : List (Nat × Nat × Nat) := [(0, 0, 1), (1, 0, 2), (2, 0, 4), (3, 0, 6), (4, 0, 8), (5, 0, 11), (6, 0, 14), (7, 0, 18), (8, 0, 20), (9, 0, 22), (0, 2, 3), (0, 4, 5), (0, 6, 7), (0, 8, 9), (1, 8, 10), (0, 11, 12), (1, 11, 13), (0, 14, 15), (1, 14, 16), (2, 14, 17), (1, 18, 19), (0, 20, 21), (1, 22, 23)]
def sh_lens : List (Nat × Nat) := [(1, 9), (3, 2000), (5, 115), (7, 78), (9, 78), (10, 80), (12, 18), (13, 18), (15, 11), (16, 11), (17, 11), (19, 103), (21, 40), (23, 15)]
/-- the rows of bits of parts that wait -/
def sh_row (a0 : Nat) (T : gh_T) : Prop := (∀ i r, T.2.2.2.2 (a0 + 15) i = some r → a0 + 24 ≤ r ∧ gh_is T r 0 ∧ gh_is T (r + 1) 10 ∧ T.2.2.1 1 r = some (r + 1) ∧ T.2.2.2.1 (r + 1) = 103) ∧ ∀ i j r, T.2.2.2.2 (a0 + 15) i = some r → T.2.2.2.2 (a0 + 15) j = some r → i = j
/-- the vessels -/
def sh_ves (a0 : Nat) (T : gh_T) : Prop := (∀ i v, T.2.2.2.2 (a0 + 21) i = some v → a0 + 24 ≤ v ∧ gh_is T v 7 ∧ gh_is T (v + 1) 10 ∧ gh_is T (v + 2) 10 ∧ gh_is T (v + 3) 9 ∧ T.2.2.1 0 v = some (v + 1) ∧ T.2.2.1 1 v = some (v + 2) ∧ T.2.2.1 2 v = some (v + 3) ∧ T.2.2.2.1 (v + 1) = 24 ∧ T.2.2.2.1 (v + 2) = 3 ∧ T.2.2.2.1 (v + 3) = 60) ∧ ∀ i j v, T.2.2.2.2 (a0 + 21) i = some v → T.2.2.2.2 (a0 + 21) j = some v → i = j
def sh (a0 : Nat) (T : gh_T) : Prop := (∀ q ∈ sh_refs, T.2.2.1 q.1 (a0 + q.2.1) = some (a0 + q.2.2)) ∧ (∀ q ∈ sh_lens, T.2.2.2.1 (a0 + q.1) = q.2) ∧ sh_row a0 T ∧ sh_ves a0 T
theorem sh.r0_0 {a0 : Nat} {T : gh_T} (h : sh a0 T) : T.2.2.1 0 a0 = some (a0 + 1) := h.1 (0, 0, 1) (by decide)
theorem sh.r1_0 {a0 : Nat} {T : gh_T} (h : sh a0 T) : T.2.2.1 1 a0 = some (a0 + 2) := h.1 (1, 0, 2) (by decide)
theorem sh.r2_0 {a0 : Nat} {T : gh_T} (h : sh a0 T) : T.2.2.1 2 a0 = some (a0 + 4) := h.1 (2, 0, 4) (by decide)
theorem sh.r3_0 {a0 : Nat} {T : gh_T} (h : sh a0 T) : T.2.2.1 3 a0 = some (a0 + 6) := h.1 (3, 0, 6) (by decide)
theorem sh.r4_0 {a0 : Nat} {T : gh_T} (h : sh a0 T) : T.2.2.1 4 a0 = some (a0 + 8) := h.1 (4, 0, 8) (by decide)
theorem sh.r5_0 {a0 : Nat} {T : gh_T} (h : sh a0 T) : T.2.2.1 5 a0 = some (a0 + 11) := h.1 (5, 0, 11) (by decide)
theorem sh.r6_0 {a0 : Nat} {T : gh_T} (h : sh a0 T) : T.2.2.1 6 a0 = some (a0 + 14) := h.1 (6, 0, 14) (by decide)
theorem sh.r7_0 {a0 : Nat} {T : gh_T} (h : sh a0 T) : T.2.2.1 7 a0 = some (a0 + 18) := h.1 (7, 0, 18) (by decide)
theorem sh.r8_0 {a0 : Nat} {T : gh_T} (h : sh a0 T) : T.2.2.1 8 a0 = some (a0 + 20) := h.1 (8, 0, 20) (by decide)
theorem sh.r9_0 {a0 : Nat} {T : gh_T} (h : sh a0 T) : T.2.2.1 9 a0 = some (a0 + 22) := h.1 (9, 0, 22) (by decide)
theorem sh.r0_2 {a0 : Nat} {T : gh_T} (h : sh a0 T) : T.2.2.1 0 (a0 + 2) = some (a0 + 3) := h.1 (0, 2, 3) (by decide)
theorem sh.r0_4 {a0 : Nat} {T : gh_T} (h : sh a0 T) : T.2.2.1 0 (a0 + 4) = some (a0 + 5) := h.1 (0, 4, 5) (by decide)
theorem sh.r0_6 {a0 : Nat} {T : gh_T} (h : sh a0 T) : T.2.2.1 0 (a0 + 6) = some (a0 + 7) := h.1 (0, 6, 7) (by decide)
theorem sh.r0_8 {a0 : Nat} {T : gh_T} (h : sh a0 T) : T.2.2.1 0 (a0 + 8) = some (a0 + 9) := h.1 (0, 8, 9) (by decide)
theorem sh.r1_8 {a0 : Nat} {T : gh_T} (h : sh a0 T) : T.2.2.1 1 (a0 + 8) = some (a0 + 10) := h.1 (1, 8, 10) (by decide)
theorem sh.r0_11 {a0 : Nat} {T : gh_T} (h : sh a0 T) : T.2.2.1 0 (a0 + 11) = some (a0 + 12) := h.1 (0, 11, 12) (by decide)
theorem sh.r1_11 {a0 : Nat} {T : gh_T} (h : sh a0 T) : T.2.2.1 1 (a0 + 11) = some (a0 + 13) := h.1 (1, 11, 13) (by decide)
theorem sh.r0_14 {a0 : Nat} {T : gh_T} (h : sh a0 T) : T.2.2.1 0 (a0 + 14) = some (a0 + 15) := h.1 (0, 14, 15) (by decide)
theorem sh.r1_14 {a0 : Nat} {T : gh_T} (h : sh a0 T) : T.2.2.1 1 (a0 + 14) = some (a0 + 16) := h.1 (1, 14, 16) (by decide)
theorem sh.r2_14 {a0 : Nat} {T : gh_T} (h : sh a0 T) : T.2.2.1 2 (a0 + 14) = some (a0 + 17) := h.1 (2, 14, 17) (by decide)
theorem sh.r1_18 {a0 : Nat} {T : gh_T} (h : sh a0 T) : T.2.2.1 1 (a0 + 18) = some (a0 + 19) := h.1 (1, 18, 19) (by decide)
theorem sh.r0_20 {a0 : Nat} {T : gh_T} (h : sh a0 T) : T.2.2.1 0 (a0 + 20) = some (a0 + 21) := h.1 (0, 20, 21) (by decide)
theorem sh.r1_22 {a0 : Nat} {T : gh_T} (h : sh a0 T) : T.2.2.1 1 (a0 + 22) = some (a0 + 23) := h.1 (1, 22, 23) (by decide)
theorem sh.l1 {a0 : Nat} {T : gh_T} (h : sh a0 T) : T.2.2.2.1 (a0 + 1) = 9 := h.2.1 (1, 9) (by decide)
theorem sh.l3 {a0 : Nat} {T : gh_T} (h : sh a0 T) : T.2.2.2.1 (a0 + 3) = 2000 := h.2.1 (3, 2000) (by decide)
theorem sh.l5 {a0 : Nat} {T : gh_T} (h : sh a0 T) : T.2.2.2.1 (a0 + 5) = 115 := h.2.1 (5, 115) (by decide)
theorem sh.l7 {a0 : Nat} {T : gh_T} (h : sh a0 T) : T.2.2.2.1 (a0 + 7) = 78 := h.2.1 (7, 78) (by decide)
theorem sh.l9 {a0 : Nat} {T : gh_T} (h : sh a0 T) : T.2.2.2.1 (a0 + 9) = 78 := h.2.1 (9, 78) (by decide)
theorem sh.l10 {a0 : Nat} {T : gh_T} (h : sh a0 T) : T.2.2.2.1 (a0 + 10) = 80 := h.2.1 (10, 80) (by decide)
theorem sh.l12 {a0 : Nat} {T : gh_T} (h : sh a0 T) : T.2.2.2.1 (a0 + 12) = 18 := h.2.1 (12, 18) (by decide)
theorem sh.l13 {a0 : Nat} {T : gh_T} (h : sh a0 T) : T.2.2.2.1 (a0 + 13) = 18 := h.2.1 (13, 18) (by decide)
theorem sh.l15 {a0 : Nat} {T : gh_T} (h : sh a0 T) : T.2.2.2.1 (a0 + 15) = 11 := h.2.1 (15, 11) (by decide)
theorem sh.l16 {a0 : Nat} {T : gh_T} (h : sh a0 T) : T.2.2.2.1 (a0 + 16) = 11 := h.2.1 (16, 11) (by decide)
theorem sh.l17 {a0 : Nat} {T : gh_T} (h : sh a0 T) : T.2.2.2.1 (a0 + 17) = 11 := h.2.1 (17, 11) (by decide)
theorem sh.l19 {a0 : Nat} {T : gh_T} (h : sh a0 T) : T.2.2.2.1 (a0 + 19) = 103 := h.2.1 (19, 103) (by decide)
theorem sh.l21 {a0 : Nat} {T : gh_T} (h : sh a0 T) : T.2.2.2.1 (a0 + 21) = 40 := h.2.1 (21, 40) (by decide)
theorem sh.l23 {a0 : Nat} {T : gh_T} (h : sh a0 T) : T.2.2.2.1 (a0 + 23) = 15 := h.2.1 (23, 15) (by decide)
/-- bit i of a row of words -/
def wb (w : Nat → Int32) (i : Nat) : Bool := (w (i / 32)).toBitVec.getLsbD (31 - i % 32)
/-- a row of signs 0 .. 255, at most L of them -/
def rR (L : Nat) (n : Int32) (f : Nat → Int32) (m : Int32) (g : Nat → Int32) : Prop := ∃ k : Nat, k ≤ L ∧ n = Int32.ofNat k ∧ m = Int32.ofNat k ∧ ∀ i, i < k → f i &&& 255 = g i
def rE (n : Nat) (f g : Nat → Int32) : Prop := ∀ i, i < n → f i = g i
def rB (n : Nat) (w g : Nat → Int32) (off N : Nat) : Prop := (∀ i, i < n → g (off + i) = if wb w i = true then 1 else 0) ∧ ∀ i, n ≤ i → i < 32 * N → wb w i = false
/-- the sentence under way: m signs -/
def rQ (m : Nat) (start ln sm : Int32) (f : Nat → Int32) (sg su : Int32) (g : Nat → Int32) : Prop := m ≤ 78 ∧ ln = Int32.ofNat m ∧ sg = Int32.ofNat (m + 1) ∧ sm = su ∧ start = g 0 ∧ (start = 36 ∨ start = 33) ∧ ∀ i, i < m → f i = g (i + 1) ∧ ∃ c : Nat, 32 ≤ c ∧ c ≤ 126 ∧ f i = Int32.ofNat c
def rS (st start ln sm ts : Int32) (f : Nat → Int32) (may sg su td : Int32) (g : Nat → Int32) : Prop := st = may ∧ (st = 0 ∨ ∃ m : Nat, rQ m start ln sm f sg su g ∧ (st = 1 ∧ ts = 0 ∨ 0 < m ∧ (st = 2 ∧ ts = 0 ∨ ts = td ∧ (st = 3 ∨ st = 4 ∨ st = 5))))
def rP (a0 : Nat) (T : gh_T) (V : gh_V) (B : md_B) : Prop := (∀ i r, T.2.2.2.2 (a0 + 15) i = some r → V.1 0 r = 3240) ∧ ∀ i, i < 11 → V.2 (a0 + 17) i = B.2 22 i ∧ V.2 (a0 + 16) i = B.2 21 i ∧ (B.2 22 i = 0 ∨ ∃ c n r : Nat, 1 ≤ c ∧ c ≤ 8 ∧ n ≤ 360 * c ∧ B.2 22 i = Int32.ofNat c ∧ T.2.2.2.2 (a0 + 15) i = some r ∧ V.1 2 r = Int32.ofNat n ∧ B.2 23 i = Int32.ofNat n ∧ rB n (V.2 (r + 1)) (B.2 24) (3240 * i) 103)
/-- the latest message -/
def rM (n : Int32) (w : Nat → Int32) (has b : Int32) (g : Nat → Int32) : Prop := has = 0 ∧ n = 0 ∨ has = 1 ∧ ∃ k : Nat, 1 ≤ k ∧ k ≤ 3240 ∧ n = Int32.ofNat k ∧ b = Int32.ofNat k ∧ rB k w g 0 103
def rV (V : gh_V) (v : Nat) (B : md_B) (i : Nat) : Prop := (∀ k, k < 24 → V.2 (v + 1) k = B.2 29 (24 * i + k)) ∧ ∀ k, k < 3 → ∃ m : Nat, m ≤ (if k = 0 then 7 else 20) ∧ V.2 (v + 2) k = Int32.ofNat m ∧ B.2 31 (3 * i + k) = Int32.ofNat m ∧ ∀ j, j < m → V.2 (v + 3) (20 * k + j) = B.2 30 (60 * i + 20 * k + j) ∧ ∃ c : Nat, 32 ≤ c ∧ c ≤ 95 ∧ V.2 (v + 3) (20 * k + j) = Int32.ofNat c
def rF (a0 : Nat) (T : gh_T) (V : gh_V) (B : md_B) : Prop := ∃ n : Nat, n ≤ 40 ∧ V.1 1 (a0 + 20) = Int32.ofNat n ∧ B.1 28 = Int32.ofNat n ∧ ∀ i, i < n → ∃ v, T.2.2.2.2 (a0 + 21) i = some v ∧ rV V v B i
def Rel (a0 : Nat) (T : gh_T) (V : gh_V) (B : md_B) : Prop :=
  sh a0 T ∧ rR 2000 (V.1 1 (a0 + 2)) (V.2 (a0 + 3)) (B.1 2) (B.2 1) ∧ rR 115 (V.1 1 (a0 + 4)) (V.2 (a0 + 5)) (B.1 4) (B.2 3) ∧ rE 9 (V.2 (a0 + 1)) (B.2 10) ∧
  rS (V.1 1 (a0 + 6)) (V.1 2 (a0 + 6)) (V.1 3 (a0 + 6)) (V.1 4 (a0 + 6)) (V.1 5 (a0 + 6)) (V.2 (a0 + 7)) (B.1 5) (B.1 7) (B.1 8) (B.1 9) (B.2 6) ∧
  rE 18 (V.2 (a0 + 12)) (B.2 16) ∧ rP a0 T V B ∧ rM (V.1 2 (a0 + 18)) (V.2 (a0 + 19)) (B.1 27) (B.1 26) (B.2 25) ∧ rF a0 T V B ∧ V.1 0 (a0 + 22) = 424 ∧ B.1 33 = 0
/-! frames -/
theorem rP.fr {a0 : Nat} {T : gh_T} {V V' : gh_V} {B B' : md_B} {F : List (Nat × Nat)} {D F' D' : List Nat} (h : rP a0 T V B) (hs : sh a0 T) (hV : ch F D V V') (hB : cb F' D' B B') (h1 : ∀ x ∈ F, x.2 < a0 + 24) (h2 : ∀ d ∈ D, d < a0 + 24 ∧ d ≠ a0 + 17 ∧ d ≠ a0 + 16) (h3 : 22 ∉ D' ∧ 21 ∉ D' ∧ 23 ∉ D' ∧ 24 ∉ D') : rP a0 T V' B' := by
  refine ⟨fun i r hr => ?_, fun i hi => ?_⟩
  · have hk := (hs.2.2.1.1 i r hr).1
    rw [hV.1 _ _ (fun c => by have := h1 _ c; simp only at this; omega)]
    exact h.1 i r hr
  · obtain ⟨g1, g2, g3⟩ := h.2 i hi
    rw [hV.2 (a0 + 17) (fun c => (h2 _ c).2.1 rfl), hV.2 (a0 + 16) (fun c => (h2 _ c).2.2 rfl), hB.2 22 h3.1, hB.2 21 h3.2.1, hB.2 23 h3.2.2.1, hB.2 24 h3.2.2.2]
    refine ⟨g1, g2, ?_⟩
    rcases g3 with g3 | ⟨c, n, r, q1, q2, q3, q4, q5, q6, q7, q8⟩
    · exact Or.inl g3
    · have hk := (hs.2.2.1.1 i r q5).1
      refine Or.inr ⟨c, n, r, q1, q2, q3, q4, q5, ?_, q7, ?_⟩
      · rw [hV.1 _ _ (fun c => by have := h1 _ c; simp only at this; omega)]
        exact q6
      · rw [hV.2 _ (fun c => by have := (h2 _ c).1; omega)]
        exact q8
theorem rV.fr {V V' : gh_V} {v i : Nat} {B B' : md_B} (h : rV V v B i) (h1 : V'.2 (v + 1) = V.2 (v + 1)) (h2 : V'.2 (v + 2) = V.2 (v + 2)) (h3 : V'.2 (v + 3) = V.2 (v + 3)) (h4 : B'.2 29 = B.2 29) (h5 : B'.2 31 = B.2 31) (h6 : B'.2 30 = B.2 30) : rV V' v B' i := by
  unfold rV
  rw [h1, h2, h3, h4, h5, h6]
  exact h
theorem rF.fr {a0 : Nat} {T : gh_T} {V V' : gh_V} {B B' : md_B} {F : List (Nat × Nat)} {D F' D' : List Nat} (h : rF a0 T V B) (hs : sh a0 T) (hV : ch F D V V') (hB : cb F' D' B B') (h1 : (1, a0 + 20) ∉ F) (h2 : ∀ d ∈ D, d < a0 + 24) (h3 : 28 ∉ F' ∧ 29 ∉ D' ∧ 30 ∉ D' ∧ 31 ∉ D') : rF a0 T V' B' := by
  obtain ⟨n, q1, q2, q3, q4⟩ := h
  refine ⟨n, q1, by rw [hV.1 _ _ h1]; exact q2, by rw [hB.1 _ h3.1]; exact q3, fun i hi => ?_⟩
  obtain ⟨v, hv, hr⟩ := q4 i hi
  have hk := (hs.2.2.2.1 i v hv).1
  exact ⟨v, hv, hr.fr (hV.2 _ (fun c => by have := h2 _ c; omega)) (hV.2 _ (fun c => by have := h2 _ c; omega)) (hV.2 _ (fun c => by have := h2 _ c; omega)) (hB.2 _ h3.2.1) (hB.2 _ h3.2.2.2) (hB.2 _ h3.2.2.1)⟩
