/-! ===== PURE: a report told ===== -/
def rT (a0 v i n : Nat) (V : gh_V) (B : md_B) : Prop := rW a0 n V B ∧ rV V v B i ∧ i < 40 ∧ B.1 33 = 1 ∧ B.1 34 = Int32.ofNat i
def tv (V : gh_V) (v w : Nat) : Int32 := if V.2 (v + 1) w = -2147483648 then 0 else V.2 (v + 1) w
theorem rV.ch {a0 : Nat} {T : gh_T} {V V' : gh_V} {B B' : md_B} {v i j : Nat} {F' : List Nat} (h : rV V v B i) (hs : sh a0 T) (hv : T.2.2.2.2 (a0 + 21) j = some v) (hV : ch [(2, a0 + 22)] [a0 + 23] V V') (hB : cb F' [35] B B') : rV V' v B' i := by
  have hk := (hs.2.2.2.1 j v hv).1
  exact h.fr (hV.2 _ (by simp; omega)) (hV.2 _ (by simp; omega)) (hV.2 _ (by simp; omega)) (hB.2 _ (by simp)) (hB.2 _ (by simp)) (hB.2 _ (by simp))
section TE
variable {a0 : Nat} {T : gh_T} {V : gh_V} {B : md_B} {v i n : Nat}
theorem tp (hs : sh a0 T) (hv : T.2.2.2.2 (a0 + 21) i = some v) (h : rT a0 v i n V B) (x : Int32) (k : Nat) (hk : 1 ≤ k) (hk2 : k ≤ 32) (hn : n + k ≤ 424) : ∃ V' B', f_X0_append T V (a0 + 22) x (Int32.ofNat k) = some V' ∧ f_X9_put B x (Int32.ofNat k) = some B' ∧ ch [(2, a0 + 22)] [a0 + 23] V V' ∧ cb [32, 36] [35] B B' ∧ rT a0 v i (n + k) V' B' := by
  obtain ⟨h1, h2, h3, h4, h5⟩ := h
  obtain ⟨V', B', e1, e2, e3, e4, e5⟩ := pw hs h1 x k hk hk2 hn
  exact ⟨V', B', e1, e2, e3, e4.mono (by simp) (by simp), e5, h2.ch hs hv e3 e4, h3, by rw [e4.1 _ (by simp)]; exact h4, by rw [e4.1 _ (by simp)]; exact h5⟩
theorem rT.pl {x : Int32} (h : rT a0 v i n V B) : rT a0 v i n V (md_pf B 32 x) := by
  obtain ⟨⟨q1, q2, q3, q4, q5⟩, h2, h3, h4, h5⟩ := h
  exact ⟨⟨q1, q2, q3, by rw [bf_n (by decide)]; exact q4, q5⟩, h2, h3, by rw [bf_n (by decide)]; exact h4, by rw [bf_n (by decide)]; exact h5⟩
theorem go_t (hs : sh a0 T) (hv : T.2.2.2.2 (a0 + 21) i = some v) (h : rT a0 v i n V B) (w k : Nat) (s : Int32) (hw : w < 24) (hk : 1 ≤ k) (hk2 : k ≤ 32) (hn : n + k ≤ 424) : ∃ V' B', f_X0_append T V (a0 + 22) (tv V v w) (Int32.ofNat k) = some V' ∧ f_X9_go B (Int32.ofNat w) (Int32.ofNat k) s = some B' ∧ ch [(2, a0 + 22)] [a0 + 23] V V' ∧ cb [32, 36] [35] B B' ∧ rT a0 v i (n + k) V' B' := by
  have h0 := h
  obtain ⟨h1, h2, h3, h4, h5⟩ := h
  obtain ⟨V', B', e1, e2, e3, e4, e5⟩ := tp hs hv h0 (tv V v w) k hk hk2 hn
  refine ⟨V', md_pf B' 32 (B'.1 32 + Int32.ofNat k), e1, ?_, e3, e4.pf (by simp), e5.pl⟩
  have e24 : 24 * Int32.ofNat i + Int32.ofNat w = Int32.ofNat (24 * i + w) := by
    rw [show (24 : Int32) = Int32.ofNat 24 from rfl, nu_mul, nu_add]
  unfold f_X9_go f_X9_go_77 f_X9_go_81
  rw [if_neg (by rw [h4]; decide), h5, e24, nu_inb (by omega) (by omega), sv_g_t rfl, nu_nat (by omega), ← h2.1 w hw, sv_g_t rfl]
  unfold tv at e2
  by_cases hx : V.2 (v + 1) w = -2147483648
  · rw [if_pos hx] at e2
    rw [if_pos hx, e2]
    rfl
  · rw [if_neg hx] at e2
    rw [if_neg hx, e2]
    rfl
theorem skip_t (hs : sh a0 T) (hv : T.2.2.2.2 (a0 + 21) i = some v) (h : rT a0 v i n V B) (k : Nat) (hk : 1 ≤ k) (hk2 : k ≤ 32) (hn : n + k ≤ 424) : ∃ V' B', f_X0_append T V (a0 + 22) 0 (Int32.ofNat k) = some V' ∧ f_X9_skip B (Int32.ofNat k) = some B' ∧ ch [(2, a0 + 22)] [a0 + 23] V V' ∧ cb [32, 36] [35] B B' ∧ rT a0 v i (n + k) V' B' := by
  have h0 := h
  obtain ⟨h1, h2, h3, h4, h5⟩ := h
  obtain ⟨V', B', e1, e2, e3, e4, e5⟩ := tp hs hv h0 0 k hk hk2 hn
  refine ⟨V', md_pf B' 32 (B'.1 32 + Int32.ofNat k), e1, ?_, e3, e4.pf (by simp), e5.pl⟩
  unfold f_X9_skip f_X9_skip_13
  rw [if_neg (by rw [h4]; decide), e2]
  rfl
theorem a63 : ∀ c, c < 96 → 32 ≤ c → Int32.ofNat c &&& 63 = if Int32.ofNat c < 64 then Int32.ofNat c else Int32.ofNat c - 64 := by decide +kernel
/-- what a text tells at a place -/
theorem sign_s (hs : sh a0 T) (hv : T.2.2.2.2 (a0 + 21) i = some v) (hr : rV V v B i) (t j : Nat) (ht : t < 3) (hj : j < 100) : ∃ m : Nat, m ≤ 20 ∧ B.2 31 (3 * i + t) = Int32.ofNat m ∧ (m ≤ j ∧ f_X7_signOf T V v (Int32.ofNat t) (Int32.ofNat j) = some (-2147483648, V) ∨ j < m ∧ ∃ c : Nat, 32 ≤ c ∧ c ≤ 95 ∧ B.2 30 (60 * i + 20 * t + j) = Int32.ofNat c ∧ f_X7_signOf T V v (Int32.ofNat t) (Int32.ofNat j) = some (Int32.ofNat c, V)) := by
  have hv9 := hs.2.2.2.1 i v hv
  obtain ⟨m, m1, m2, m3, m4⟩ := hr.len t ht
  refine ⟨m, m1, m3, ?_⟩
  unfold f_X7_signOf
  rw [if_neg (nu_neg (by omega)), if_neg (mt (nl_le 3 3 rfl (by decide) (by omega)).mp (by omega)), if_neg (nu_neg (by omega)), hv9.2.2.2.2.2.2.1, Option.bind_some, hv9.2.2.2.2.2.2.2.2.2.1, nu_inb (by omega) ht, sv_g_t rfl, nu_nat (by omega), m2]
  by_cases c5 : m ≤ j
  · rw [if_pos ((nu_le (by omega) (by omega)).mpr c5)]
    exact Or.inl ⟨c5, rfl⟩
  · have e20 : Int32.ofNat t * 20 + Int32.ofNat j = Int32.ofNat (20 * t + j) := by
      rw [show (20 : Int32) = Int32.ofNat 20 from rfl, nu_mul, nu_add, Nat.mul_comm]
    rw [if_neg (mt (nu_le (by omega) (by omega)).mp c5), if_pos ((nl_gt 20 20 rfl (by decide) (by omega)).mpr (by omega)), hv9.2.2.2.2.2.2.2.1, Option.bind_some, hv9.2.2.2.2.2.2.2.2.2.2, e20, nu_inb (by omega) (by omega), sv_g_t rfl, nu_nat (by omega)]
    obtain ⟨q1, c, q2, q3, q4⟩ := m4 j (by omega)
    exact Or.inr ⟨by omega, c, q2, q3, by rw [← q1]; exact q4, by rw [q4]⟩
theorem words_l {t R : Nat} (ht : t < 3) (hR : R ≤ 20) (hs : sh a0 T) (hv : T.2.2.2.2 (a0 + 21) i = some v) : ∀ (m j f f' n : Nat) (V : gh_V) (B : md_B), j + m = R → m < f → m < f' → rT a0 v i n V B → n + 6 * m ≤ 424 → ∃ V' B', f_X7_tellText_3 T v (a0 + 22) f V (Int32.ofNat t) (Int32.ofNat R) (Int32.ofNat j) = some V' ∧ f_X9_words_28 f' B (Int32.ofNat t) (Int32.ofNat (60 * i + 20 * t)) (Int32.ofNat R) (Int32.ofNat j) = some B' ∧ ch [(2, a0 + 22)] [a0 + 23] V V' ∧ cb [32, 36] [35] B B' ∧ rT a0 v i (n + 6 * m) V' B' := by
  intro m
  induction m with
  | zero =>
    intro j f f' n V B hj hf hf' h hn
    cases f with
    | zero => omega
    | succ f =>
      cases f' with
      | zero => omega
      | succ f' =>
        unfold f_X7_tellText_3 f_X9_words_28
        rw [if_pos ((nu_le (by omega) (by omega)).mpr (by omega)), if_pos ((nu_le (by omega) (by omega)).mpr (by omega))]
        exact ⟨V, _, rfl, rfl, ch.rf, cb.rf.pf (by simp), h.pl⟩
  | succ m ih =>
    intro j f f' n V B hj hf hf' h hn
    cases f with
    | zero => omega
    | succ f =>
      cases f' with
      | zero => omega
      | succ f' =>
        have h0 := h
        obtain ⟨h1, h2, h3, h4, h5⟩ := h
        obtain ⟨l, l1, l2, l3⟩ := sign_s hs hv h2 t j ht (by omega)
        have e3 : 3 * Int32.ofNat i + Int32.ofNat t = Int32.ofNat (3 * i + t) := by
          rw [show (3 : Int32) = Int32.ofNat 3 from rfl, nu_mul, nu_add]
        have go : ∀ x y : Int32, x = y &&& 63 → ∃ V' B', f_X7_tellText_51 T v (a0 + 22) (f_X7_tellText_3 T v (a0 + 22) f) V (Int32.ofNat t) (Int32.ofNat R) (Int32.ofNat j) x = some V' ∧ f_X9_words_65 (f_X9_words_28 f') B (Int32.ofNat t) (Int32.ofNat (60 * i + 20 * t)) (Int32.ofNat R) (Int32.ofNat j) y = some B' ∧ ch [(2, a0 + 22)] [a0 + 23] V V' ∧ cb [32, 36] [35] B B' ∧ rT a0 v i (n + 6 * (m + 1)) V' B' := by
          intro x y hxy
          obtain ⟨V1, B1, d1, d2, d3, d4, d5⟩ := tp hs hv h0 x 6 (by decide) (by decide) (by omega)
          obtain ⟨V2, B2, g1, g2, g3, g4, g5⟩ := ih (j + 1) f f' (n + 6) V1 B1 (by omega) (by omega) (by omega) d5 (by omega)
          refine ⟨V2, B2, ?_, ?_, d3.trans g3, d4.trans g4, by rw [show n + 6 * (m + 1) = n + 6 + 6 * m by omega]; exact g5⟩
          · unfold f_X7_tellText_51
            rw [show (6 : Int32) = Int32.ofNat 6 from rfl, d1, Option.bind_some, nu_s]
            exact g1
          · unfold f_X9_words_65
            rw [← hxy, show (6 : Int32) = Int32.ofNat 6 from rfl, d2, Option.bind_some, nu_s]
            exact g2
        unfold f_X7_tellText_3 f_X9_words_28
        rw [if_neg (mt (nu_le (by omega) (by omega)).mp (by omega)), if_neg (mt (nu_le (by omega) (by omega)).mp (by omega)), h5, e3, nu_inb (by omega) (by omega), sv_g_t rfl, nu_nat (by omega), l2]
        rcases l3 with ⟨c1, c2⟩ | ⟨c1, c, q1, q2, q3, q4⟩
        · rw [c2, Option.bind_some, if_pos ((nu_le (by omega) (by omega)).mpr c1), if_pos (show ((-2147483648 : Int32), V).1 < 64 from (by decide : (-2147483648 : Int32) < 64))]
          unfold f_X7_tellText_35
          rw [if_pos rfl]
          exact go 0 0 (by decide)
        · rw [q4, Option.bind_some, if_neg (mt (nu_le (by omega) (by omega)).mp (by omega)), nu_add, nu_inb (by omega) (by omega), sv_g_t rfl, nu_nat (by omega), q3]
          unfold f_X7_tellText_35
          have hne : ¬ ((Int32.ofNat c, V) : Int32 × gh_V).1 = -2147483648 := by
            intro hc
            have : Int32.ofNat c < 0 := by
              show ((Int32.ofNat c, V) : Int32 × gh_V).1 < 0
              rw [hc]
              decide
            exact nu_neg (by omega) this
          rw [if_neg hne, if_neg hne]
          have ha := a63 c (by omega) q1
          by_cases hc : Int32.ofNat c < 64
          · rw [if_pos hc] at ha
            rw [if_pos (show ((Int32.ofNat c, V) : Int32 × gh_V).1 < 64 from hc)]
            exact go _ _ ha.symm
          · rw [if_neg hc] at ha
            rw [if_neg (show ¬ ((Int32.ofNat c, V) : Int32 × gh_V).1 < 64 from hc)]
            exact go _ _ ha.symm
theorem words_t (hs : sh a0 T) (hv : T.2.2.2.2 (a0 + 21) i = some v) (h : rT a0 v i n V B) (t R : Nat) (ht : t < 3) (hR : R = if t = 0 then 7 else 20) (hn : n + 6 * R ≤ 424) : ∃ V' B', f_X7_tellText T V v (Int32.ofNat t) (a0 + 22) (Int32.ofNat R) = some V' ∧ f_X9_words B (Int32.ofNat t) = some B' ∧ ch [(2, a0 + 22)] [a0 + 23] V V' ∧ cb [32, 36] [35] B B' ∧ rT a0 v i (n + 6 * R) V' B' := by
  have hR2 : R ≤ 20 := by rw [hR]; split <;> omega
  obtain ⟨V', B', e1, e2, e3, e4, e5⟩ := words_l ht hR2 hs hv R 0 sv_fu sv_fu n V B (by omega) (fu_lt (by omega)) (fu_lt (by omega)) h hn
  refine ⟨V', B', e1, ?_, e3, e4, e5⟩
  have e60 : 60 * Int32.ofNat i + 20 * Int32.ofNat t = Int32.ofNat (60 * i + 20 * t) := by
    rw [show (20 : Int32) = Int32.ofNat 20 from rfl, show (60 : Int32) = Int32.ofNat 60 from rfl, nu_mul, nu_mul, nu_add]
  have hr : f_X9_room B (Int32.ofNat t) = some (Int32.ofNat R, B) := by
    unfold f_X9_room
    by_cases h0 : t = 0
    · subst h0
      rw [hR]
      rfl
    · rw [if_neg (mt (nl_eq 0 0 rfl (by decide) (by omega)).mp h0), hR, if_neg h0]
      rfl
  unfold f_X9_words
  rw [hr, Option.bind_some, if_neg (show ¬ ((Int32.ofNat R, B) : Int32 × md_B).2.1 33 = 0 by show ¬ B.1 33 = 0; rw [h.2.2.2.1]; decide), h.2.2.2.2, e60]
  exact e2
/-! the class's loop over a layout, a step -/
section LY
variable {r j f e : Nat} {w : String × String × List Int32}
theorem tl_go {wh k : Nat} (hw : sv_sta[j]? = some w) (h1 : 2 * e + 1 < w.2.2.length) (hL : w.2.2.length < 100) (h2 : w.2.2.getD (2 * e) 0 = Int32.ofNat wh) (hwh : wh < 24) (h3 : w.2.2.getD (2 * e + 1) 0 = Int32.ofNat k) (hr : T.2.2.1 0 v = some (v + 1)) (hl : T.2.2.2.1 (v + 1) = 24) : f_X7_tell_37 T v r (f + 1) V j (Int32.ofNat (2 * e)) = (f_X0_append T V r (tv V v wh) (Int32.ofNat k)).bind (fun V' => f_X7_tell_37 T v r f V' j (Int32.ofNat (2 * (e + 1)))) := by
  rw [f_X7_tell_37, hw, Option.bind_some, nu_s, if_neg (mt (nu_le (by omega) (by omega)).mp (by omega)), Option.bind_some, nu_inb (by omega) (by omega), sv_g_t rfl, Option.bind_some, nu_inb (by omega) h1, sv_g_t rfl, nu_nat (by omega), nu_nat (by omega), h2, h3, if_pos ((nl_gt 30 30 rfl (by decide) (by omega)).mpr (by omega)), if_neg (nu_neg (by omega)), if_neg (mt (nl_le 24 24 rfl (by decide) (by omega)).mp (by omega)), hr, Option.bind_some, hl, nu_inb (by omega) hwh, sv_g_t rfl, nu_nat (by omega)]
  have e2 : Int32.ofNat (2 * e) + 2 = Int32.ofNat (2 * (e + 1)) := nu_add (2 * e) 2
  unfold tv f_X7_tell_113 f_X7_tell_114 f_X7_tell_133 f_X7_tell_138
  rw [e2]
  by_cases hx : V.2 (v + 1) wh = -2147483648
  · rw [if_pos hx, if_pos hx, if_pos rfl]
  · rw [if_neg hx, if_neg hx, if_neg (by decide), hr, Option.bind_some, hl, nu_inb (by omega) hwh, sv_g_t rfl, nu_nat (by omega)]
theorem tl_skip {k : Nat} (hw : sv_sta[j]? = some w) (h1 : 2 * e + 1 < w.2.2.length) (hL : w.2.2.length < 100) (h2 : w.2.2.getD (2 * e) 0 = -1) (h3 : w.2.2.getD (2 * e + 1) 0 = Int32.ofNat k) : f_X7_tell_37 T v r (f + 1) V j (Int32.ofNat (2 * e)) = (f_X0_append T V r 0 (Int32.ofNat k)).bind (fun V' => f_X7_tell_37 T v r f V' j (Int32.ofNat (2 * (e + 1)))) := by
  rw [f_X7_tell_37, hw, Option.bind_some, nu_s, if_neg (mt (nu_le (by omega) (by omega)).mp (by omega)), Option.bind_some, nu_inb (by omega) (by omega), sv_g_t rfl, Option.bind_some, nu_inb (by omega) h1, sv_g_t rfl, nu_nat (by omega), nu_nat (by omega), h2, h3, if_pos (by decide), if_pos (by decide)]
  have e2 : Int32.ofNat (2 * e) + 2 = Int32.ofNat (2 * (e + 1)) := nu_add (2 * e) 2
  unfold f_X7_tell_113 f_X7_tell_114 f_X7_tell_133 f_X7_tell_138
  rw [e2, if_pos rfl]
theorem tl_text {t k : Nat} (hw : sv_sta[j]? = some w) (h1 : 2 * e + 1 < w.2.2.length) (hL : w.2.2.length < 100) (h2 : w.2.2.getD (2 * e) 0 = Int32.ofNat (30 + t)) (ht : t < 3) (h3 : w.2.2.getD (2 * e + 1) 0 / 6 = Int32.ofNat k) : f_X7_tell_37 T v r (f + 1) V j (Int32.ofNat (2 * e)) = (f_X7_tellText T V v (Int32.ofNat t) r (Int32.ofNat k)).bind (fun V' => f_X7_tell_37 T v r f V' j (Int32.ofNat (2 * (e + 1)))) := by
  have e30 : Int32.ofNat (30 + t) - 30 = Int32.ofNat t := by
    rw [show (30 : Int32) = Int32.ofNat 30 from rfl, nu_sub (by omega)]
    congr 1
    omega
  rw [f_X7_tell_37, hw, Option.bind_some, nu_s, if_neg (mt (nu_le (by omega) (by omega)).mp (by omega)), Option.bind_some, nu_inb (by omega) (by omega), sv_g_t rfl, Option.bind_some, nu_inb (by omega) h1, sv_g_t rfl, nu_nat (by omega), nu_nat (by omega), h2, h3, if_neg (mt (nl_gt 30 30 rfl (by decide) (by omega)).mp (by omega)), e30]
  have e2 : Int32.ofNat (2 * e) + 2 = Int32.ofNat (2 * (e + 1)) := nu_add (2 * e) 2
  unfold f_X7_tell_138
  rw [e2]
theorem tl_end (hw : sv_sta[j]? = some w) (h1 : w.2.2.length ≤ 2 * e + 1) (hL : w.2.2.length < 100) (he : e < 100) : f_X7_tell_37 T v r (f + 1) V j (Int32.ofNat (2 * e)) = some V := by
  rw [f_X7_tell_37, hw, Option.bind_some, nu_s, if_pos ((nu_le (by omega) (by omega)).mpr h1)]
end LY
end TE
