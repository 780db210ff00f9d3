/-! ===== PURE: a vessel learns ===== -/
/-- a text of a vessel -/
def rVt (V : gh_V) (v : Nat) (B : md_B) (i k : Nat) : Prop := ∃ m : Nat, m ≤ (if k = 0 then 7 else 20) ∧ V.2 (v + 2) k = Int32.ofNat m ∧ B.2 31 (3 * i + k) = Int32.ofNat m ∧ ∀ j, j < m → V.2 (v + 3) (20 * k + j) = B.2 30 (60 * i + 20 * k + j) ∧ ∃ c : Nat, 32 ≤ c ∧ c ≤ 95 ∧ V.2 (v + 3) (20 * k + j) = Int32.ofNat c
def rLm (a0 K i : Nat) (V0 : gh_V) (B0 : md_B) : Prop := K ≤ 424 ∧ i < 40 ∧ rB K (V0.2 (a0 + 19)) (B0.2 25) 0 103 ∧ B0.1 33 = 0 ∧ B0.1 34 = Int32.ofNat i
/-- rows of the vessel i alone -/
def rLf (i : Nat) (B0 B : md_B) : Prop := (∀ j, (j < 24 * i ∨ 24 * i + 24 ≤ j) → B.2 29 j = B0.2 29 j) ∧ (∀ j, (j < 60 * i ∨ 60 * i + 60 ≤ j) → B.2 30 j = B0.2 30 j) ∧ ∀ j, (j < 3 * i ∨ 3 * i + 3 ≤ j) → B.2 31 j = B0.2 31 j
def rL (v i : Nat) (ty : Int32) (pos : Nat) (V0 : gh_V) (B0 : md_B) (V : gh_V) (B : md_B) : Prop :=
  ch [] [v + 1, v + 2, v + 3] V0 V ∧ cb [32] [29, 30, 31] B0 B ∧ rLf i B0 B ∧ B.1 32 = Int32.ofNat pos ∧ (∀ k, k < 24 → k ≠ 1 → k ≠ 23 → V.2 (v + 1) k = B.2 29 (24 * i + k)) ∧ B.2 29 (24 * i + 1) = ty ∧ B.2 29 (24 * i + 23) = V.2 (v + 1) 23 + 1 ∧ ∀ k, k < 3 → rVt V v B i k
def lv (V0 : gh_V) (a0 pos k : Nat) (sg : Int32) : Int32 := if sg = 0 then rd (wb (V0.2 (a0 + 19))) pos k else (rd (wb (V0.2 (a0 + 19))) pos k <<< ((32 - Int32.ofNat k) &&& 31)) >>> ((32 - Int32.ofNat k) &&& 31)
section LE
variable {a0 v i K pos : Nat} {ty : Int32} {T : gh_T} {V0 V : gh_V} {B0 B : md_B}
theorem rL.msg (hm : rLm a0 K i V0 B0) (hv : a0 + 24 ≤ v) (h : rL v i ty pos V0 B0 V B) : V.2 (a0 + 19) = V0.2 (a0 + 19) ∧ B.2 25 = B0.2 25 ∧ B.1 33 = 0 ∧ B.1 34 = Int32.ofNat i := by
  obtain ⟨h1, h2, -⟩ := h
  exact ⟨h1.2 _ (by simp; omega), h2.2 _ (by simp), by rw [h2.1 _ (by simp)]; exact hm.2.2.2.1, by rw [h2.1 _ (by simp)]; exact hm.2.2.2.2⟩
theorem rLm.rd (hm : rLm a0 K i V0 B0) {q n : Nat} (h : q + n ≤ K) : rd (wb (V0.2 (a0 + 19))) q n = rd (gb (B0.2 25)) q n :=
  rd_eq n (fun j hj => by rw [hm.2.2.1.gbe (by omega), Nat.zero_add])
theorem rVt.fr {V V' : gh_V} {B B' : md_B} {k : Nat} (h : rVt V v B i k) (h2 : V'.2 (v + 2) k = V.2 (v + 2) k) (h3 : ∀ j, j < 20 → V'.2 (v + 3) (20 * k + j) = V.2 (v + 3) (20 * k + j)) (h5 : B'.2 31 (3 * i + k) = B.2 31 (3 * i + k)) (h6 : ∀ j, j < 20 → B'.2 30 (60 * i + 20 * k + j) = B.2 30 (60 * i + 20 * k + j)) : rVt V' v B' i k := by
  obtain ⟨m, m1, m2, m3, m4⟩ := h
  refine ⟨m, m1, by rw [h2]; exact m2, by rw [h5]; exact m3, fun j hj => ?_⟩
  have : j < 20 := by split at m1 <;> omega
  rw [h3 j this, h6 j this]
  exact m4 j hj
theorem lg (hm : rLm a0 K i V0 B0) (hv : a0 + 24 ≤ v) (h : rL v i ty pos V0 B0 V B) (w k : Nat) (sg : Int32) (hw : w < 24) (h1 : w ≠ 1) (h23 : w ≠ 23) (hk : 1 ≤ k) (hk2 : k ≤ 32) (hp : pos + k ≤ K) : ∃ B', f_X9_go B (Int32.ofNat w) (Int32.ofNat k) sg = some B' ∧ rL v i ty (pos + k) V0 B0 (gh_pa V (v + 1) (Int32.ofNat w) (lv V0 a0 pos k sg)) B' := by
  have hK := hm.1
  have hi := hm.2.1
  obtain ⟨g1, g2, g3, g4⟩ := h.msg hm hv
  have e24 : 24 * Int32.ofNat i + Int32.ofNat w = Int32.ofNat (24 * i + w) := by
    rw [show (24 : Int32) = Int32.ofNat 24 from rfl, nu_mul, nu_add]
  obtain ⟨q1, q2, q3, q4, q5, q6, q7, q8⟩ := h
  have hrd : f_X9_read B (B.1 32) (Int32.ofNat k) = some (rd (wb (V0.2 (a0 + 19))) pos k, B) := by
    rw [q4, rread_s (by omega), g2, hm.rd hp]
  refine ⟨md_pf (md_pa B 29 (Int32.ofNat (24 * i + w)) (lv V0 a0 pos k sg)) 32 (Int32.ofNat (pos + k)), ?_, q1.pa (by simp), (q2.pa (by simp)).pf (by simp), ?_, bf_1, ?_, ?_, ?_, ?_⟩
  · unfold f_X9_go f_X9_go_49 f_X9_go_81 f_X9_signed lv
    rw [if_pos g3, g4, e24, hrd, Option.bind_some, Option.bind_some]
    by_cases c : sg = 0
    · rw [if_pos c, if_pos c, nu_inb (by omega) (by omega), sv_g_t rfl, ba_1, q4, nu_add]
    · rw [if_neg c, if_neg c, Option.bind_some, nu_inb (by omega) (by omega), sv_g_t rfl, ba_1, q4, nu_add]
  · refine ⟨fun j hj => ?_, fun j hj => ?_, fun j hj => ?_⟩
    · rw [bf_2, ba_2, nu_nat (by omega)]
      unfold upd
      rw [if_neg (by omega)]
      exact q3.1 j hj
    · rw [bf_2, ba_n (by decide)]; exact q3.2.1 j hj
    · rw [bf_2, ba_n (by decide)]; exact q3.2.2 j hj
  · intro k' hk' n1 n23
    rw [bf_2, pa_2, ba_2, nu_nat (by omega), nu_nat (by omega)]
    unfold upd
    by_cases e : k' = w
    · rw [if_pos e, if_pos (by omega)]
    · rw [if_neg e, if_neg (by omega)]
      exact q5 k' hk' n1 n23
  · rw [bf_2, ba_2, nu_nat (by omega)]
    unfold upd
    rw [if_neg (by omega)]
    exact q6
  · rw [bf_2, pa_2, ba_2, nu_nat (by omega), nu_nat (by omega)]
    unfold upd
    rw [if_neg (by omega), if_neg (by omega)]
    exact q7
  · intro k' hk'
    refine (q8 k' hk').fr ?_ (fun j hj => ?_) ?_ (fun j hj => ?_)
    · rw [pa_n (by omega)]
    · rw [pa_n (by omega)]
    · rw [bf_2, ba_n (by decide)]
    · rw [bf_2, ba_n (by decide)]
theorem ls (hm : rLm a0 K i V0 B0) (hv : a0 + 24 ≤ v) (h : rL v i ty pos V0 B0 V B) (k : Nat) : ∃ B', f_X9_skip B (Int32.ofNat k) = some B' ∧ rL v i ty (pos + k) V0 B0 V B' := by
  obtain ⟨g1, g2, g3, g4⟩ := h.msg hm hv
  obtain ⟨q1, q2, q3, q4, q5, q6, q7, q8⟩ := h
  refine ⟨md_pf B 32 (Int32.ofNat (pos + k)), ?_, q1, q2.pf (by simp), q3, bf_1, q5, q6, q7, q8⟩
  unfold f_X9_skip f_X9_skip_13
  rw [if_pos g3, q4, nu_add]
def s6 (v : Nat) : Nat := if v < 32 then v + 64 else v
theorem s6_in : ∀ v, v < 64 → v ≠ 0 → 32 ≤ s6 v ∧ s6 v ≤ 95 := by decide
/-- a text -/
theorem lw_l (hs : sh a0 T) (hm : rLm a0 K i V0 B0) (hv : a0 + 24 ≤ v) (hv9 : T.2.2.1 1 v = some (v + 2) ∧ T.2.2.1 2 v = some (v + 3) ∧ T.2.2.2.1 (v + 2) = 3 ∧ T.2.2.2.1 (v + 3) = 60) {t R : Nat} (ht : t < 3) (hR : R = if t = 0 then 7 else 20) (hp : pos + 6 * R ≤ K) : ∀ (m j L n n' : Nat) (V : gh_V) (B : md_B), j + m = R → m < n → m < n' → L ≤ j →
    ch [] [v + 1, v + 2, v + 3] V0 V → cb [32] [29, 30, 31] B0 B → rLf i B0 B → B.1 32 = Int32.ofNat pos → (∀ k, k < 24 → k ≠ 1 → k ≠ 23 → V.2 (v + 1) k = B.2 29 (24 * i + k)) → B.2 29 (24 * i + 1) = ty → B.2 29 (24 * i + 23) = V.2 (v + 1) 23 + 1 → (∀ k, k < 3 → k ≠ t → rVt V v B i k) → (∀ q, q < j → V.2 (v + 3) (20 * t + q) = B.2 30 (60 * i + 20 * t + q) ∧ ∃ c : Nat, 32 ≤ c ∧ c ≤ 95 ∧ V.2 (v + 3) (20 * t + q) = Int32.ofNat c) →
    ∃ V' B', f_X7_learnText_16 T v (a0 + 18) n V (Int32.ofNat t) (Int32.ofNat pos) (Int32.ofNat R) (Int32.ofNat L) (Int32.ofNat j) = some V' ∧ f_X9_words_104 n' B (Int32.ofNat t) (Int32.ofNat (60 * i + 20 * t)) (Int32.ofNat R) (Int32.ofNat L) (Int32.ofNat j) = some B' ∧ rL v i ty (pos + 6 * R) V0 B0 V' B' := by
  have hK := hm.1
  have hi := hm.2.1
  have hR2 : R ≤ 20 := by rw [hR]; split <;> omega
  intro m
  have fin : ∀ (j L : Nat) (V : gh_V) (B : md_B), j ≤ R → L ≤ j → ch [] [v + 1, v + 2, v + 3] V0 V → cb [32] [29, 30, 31] B0 B → rLf i B0 B → B.1 32 = Int32.ofNat pos → (∀ k, k < 24 → k ≠ 1 → k ≠ 23 → V.2 (v + 1) k = B.2 29 (24 * i + k)) → B.2 29 (24 * i + 1) = ty → B.2 29 (24 * i + 23) = V.2 (v + 1) 23 + 1 → (∀ k, k < 3 → k ≠ t → rVt V v B i k) → (∀ q, q < j → V.2 (v + 3) (20 * t + q) = B.2 30 (60 * i + 20 * t + q) ∧ ∃ c : Nat, 32 ≤ c ∧ c ≤ 95 ∧ V.2 (v + 3) (20 * t + q) = Int32.ofNat c) → ∃ V' B', f_X7_learnText_102 T v (a0 + 18) V (Int32.ofNat t) (Int32.ofNat L) = some V' ∧ f_X9_words_195 B (Int32.ofNat t) (Int32.ofNat R) (Int32.ofNat L) = some B' ∧ rL v i ty (pos + 6 * R) V0 B0 V' B' := by
    intro j L V B hj hL q1 q2 q3 q4 q5 q6 q7 q8 q9
    have e3 : 3 * Int32.ofNat i + Int32.ofNat t = Int32.ofNat (3 * i + t) := by
      rw [show (3 : Int32) = Int32.ofNat 3 from rfl, nu_mul, nu_add]
    have h34 : B.1 34 = Int32.ofNat i := by rw [q2.1 _ (by simp)]; exact hm.2.2.2.2
    refine ⟨gh_pa V (v + 2) (Int32.ofNat t) (Int32.ofNat L), md_pf (md_pa B 31 (Int32.ofNat (3 * i + t)) (Int32.ofNat L)) 32 (Int32.ofNat (pos + 6 * R)), ?_, ?_, q1.pa (by simp), (q2.pa (by simp)).pf (by simp), ?_, bf_1, ?_, q6, ?_, ?_⟩
    · unfold f_X7_learnText_102
      rw [hv9.1, Option.bind_some, hv9.2.2.1, nu_inb (by omega) ht, sv_g_t rfl]
    · unfold f_X9_words_195
      rw [h34, e3, nu_inb (by omega) (by omega), sv_g_t rfl, ba_1, q4, show (6 : Int32) = Int32.ofNat 6 from rfl, nu_mul, nu_add]
    · refine ⟨q3.1, q3.2.1, fun x hx => ?_⟩
      rw [bf_2, ba_2, nu_nat (by omega)]
      unfold upd
      rw [if_neg (by omega)]
      exact q3.2.2 x hx
    · intro k hk n1 n23
      rw [pa_n (by omega)]
      exact q5 k hk n1 n23
    · rw [pa_n (by omega)]
      exact q7
    · intro k hk
      by_cases e : k = t
      · subst e
        refine ⟨L, by rw [← hR]; omega, ?_, ?_, fun q hq => ?_⟩
        · rw [pa_2, nu_nat (by omega)]
          simp [upd]
        · rw [bf_2, ba_2, nu_nat (by omega)]
          simp [upd]
        · rw [pa_n (by omega), bf_2, ba_n (by decide)]
          exact q9 q (by omega)
      · refine (q8 k hk e).fr ?_ (fun q hq => ?_) ?_ (fun q hq => ?_)
        · rw [pa_2, nu_nat (by omega)]
          simp [upd, e]
        · rw [pa_n (by omega)]
        · rw [bf_2, ba_2, nu_nat (by omega)]
          simp [upd, e]
        · rw [bf_2, ba_n (by decide)]
  induction m with
  | zero =>
    intro j L n n' V B hj hn hn' hL q1 q2 q3 q4 q5 q6 q7 q8 q9
    cases n with
    | zero => omega
    | succ n =>
      cases n' with
      | zero => omega
      | succ n' =>
        unfold f_X7_learnText_16 f_X9_words_104
        rw [if_pos ((nu_le (by omega) (by omega)).mpr (by omega)), if_pos ((nu_le (by omega) (by omega)).mpr (by omega))]
        exact fin j L V B (by omega) hL q1 q2 q3 q4 q5 q6 q7 q8 q9
  | succ m ih =>
    intro j L n n' V B hj hn hn' hL q1 q2 q3 q4 q5 q6 q7 q8 q9
    cases n with
    | zero => omega
    | succ n =>
      cases n' with
      | zero => omega
      | succ n' =>
        have e19 : V.2 (a0 + 19) = V0.2 (a0 + 19) := q1.2 _ (by simp; omega)
        have e25 : B.2 25 = B0.2 25 := q2.2 _ (by simp)
        have ep : Int32.ofNat pos + 6 * Int32.ofNat j = Int32.ofNat (pos + 6 * j) := by
          rw [show (6 : Int32) = Int32.ofNat 6 from rfl, nu_mul, nu_add]
        have hlt := rdn_lt (wb (V0.2 (a0 + 19))) (pos + 6 * j) 6
        have r1 : f_X0_read T V (a0 + 18) (Int32.ofNat (pos + 6 * j)) 6 = some (Int32.ofNat (rdn (wb (V0.2 (a0 + 19))) (pos + 6 * j) 6), V) := by
          have := read_s (V := V) hs.r1_18 hs.l19 (by decide) (p := pos + 6 * j) (k := 6) (by decide) (by decide) (by omega)
          rw [rd_rdn _ _ 6 (by decide), e19] at this
          exact this
        have r2 : f_X9_read B (Int32.ofNat (pos + 6 * j)) 6 = some (Int32.ofNat (rdn (wb (V0.2 (a0 + 19))) (pos + 6 * j) 6), B) := by
          have := rread_s (B := B) (p := pos + 6 * j) (k := 6) (by omega)
          rw [e25, ← hm.rd (by omega), rd_rdn _ _ 6 (by decide)] at this
          exact this
        generalize rdn (wb (V0.2 (a0 + 19))) (pos + 6 * j) 6 = x at hlt r1 r2
        have hlt : x < 64 := hlt
        unfold f_X7_learnText_16 f_X9_words_104
        rw [if_neg (mt (nu_le (by omega) (by omega)).mp (by omega)), if_neg (mt (nl_le 20 20 rfl (by decide) (by omega)).mp (by omega)), if_neg (mt (nu_le (by omega) (by omega)).mp (by omega)), q4, ep, r1, r2, Option.bind_some, Option.bind_some]
        by_cases c0 : x = 0
        · rw [if_pos ((fl0 (by omega)).mpr c0), if_pos ((fl0 (by omega)).mpr c0)]
          exact fin j L V B (by omega) hL q1 q2 q3 q4 q5 q6 q7 q8 q9
        · rw [if_neg (mt (fl0 (by omega)).mp c0), if_neg (mt (fl0 (by omega)).mp c0), hv9.2.1, Option.bind_some]
          dsimp only
          rw [q4, ep, r2, Option.bind_some]
          dsimp only
          have hs6 := s6_in x hlt c0
          have e20 : Int32.ofNat t * 20 + Int32.ofNat j = Int32.ofNat (20 * t + j) := by
            rw [show (20 : Int32) = Int32.ofNat 20 from rfl, nu_mul, nu_add, Nat.mul_comm]
          have go : ∃ V' B', f_X7_learnText_81 T v (a0 + 18) (f_X7_learnText_16 T v (a0 + 18) n) V (Int32.ofNat t) (Int32.ofNat pos) (Int32.ofNat R) (Int32.ofNat L) (Int32.ofNat j) (Int32.ofNat x) (Int32.ofNat (s6 x)) (Int32.ofNat (20 * t + j)) (v + 3) = some V' ∧ f_X9_words_172 (f_X9_words_104 n') B (Int32.ofNat t) (Int32.ofNat (60 * i + 20 * t)) (Int32.ofNat R) (Int32.ofNat L) (Int32.ofNat j) (Int32.ofNat x) (Int32.ofNat (s6 x)) (Int32.ofNat (60 * i + 20 * t + j)) = some B' ∧ rL v i ty (pos + 6 * R) V0 B0 V' B' := by
            have hpb : vp_nar .byte (Int32.ofNat (s6 x)).toInt8.toInt32 = Int32.ofNat (s6 x) := pb_small (by omega)
            have next : ∀ L', L' ≤ j + 1 → ∃ V' B', f_X7_learnText_16 T v (a0 + 18) n (gh_pa V (v + 3) (Int32.ofNat (20 * t + j)) (Int32.ofNat (s6 x))) (Int32.ofNat t) (Int32.ofNat pos) (Int32.ofNat R) (Int32.ofNat L') (Int32.ofNat (j + 1)) = some V' ∧ f_X9_words_104 n' (md_pa B 30 (Int32.ofNat (60 * i + 20 * t + j)) (Int32.ofNat (s6 x))) (Int32.ofNat t) (Int32.ofNat (60 * i + 20 * t)) (Int32.ofNat R) (Int32.ofNat L') (Int32.ofNat (j + 1)) = some B' ∧ rL v i ty (pos + 6 * R) V0 B0 V' B' := by
              intro L' hL'
              refine ih (j + 1) L' n n' _ _ (by omega) (by omega) (by omega) hL' (q1.pa (by simp)) (q2.pa (by simp)) ⟨q3.1, fun y hy => ?_, q3.2.2⟩ q4 (fun k hk n1 n23 => ?_) q6 ?_ (fun k hk hkt => ?_) (fun q hq => ?_)
              · rw [ba_2, nu_nat (by omega)]
                unfold upd
                rw [if_neg (by omega)]
                exact q3.2.1 y hy
              · rw [pa_n (by omega)]
                exact q5 k hk n1 n23
              · rw [pa_n (by omega)]
                exact q7
              · refine (q8 k hk hkt).fr ?_ (fun q hq => ?_) rfl (fun q hq => ?_)
                · rw [pa_n (by omega)]
                · rw [pa_2, nu_nat (by omega)]
                  unfold upd
                  rw [if_neg (by omega)]
                · rw [ba_2, nu_nat (by omega)]
                  unfold upd
                  rw [if_neg (by omega)]
              · rw [pa_2, ba_2, nu_nat (by omega), nu_nat (by omega)]
                unfold upd
                by_cases e : q = j
                · rw [if_pos (by omega), if_pos (by omega)]
                  exact ⟨rfl, s6 x, hs6.1, hs6.2, rfl⟩
                · rw [if_neg (by omega), if_neg (by omega)]
                  exact q9 q (by omega)
            unfold f_X7_learnText_81 f_X7_learnText_96 f_X9_words_172 f_X9_words_190
            rw [hv9.2.2.2, nu_inb (by omega) (by omega), sv_g_t rfl, nu_inb (by omega) (by omega), sv_g_t rfl, hpb, nu_s]
            by_cases c32 : x = 32
            · rw [if_pos (by rw [c32]; rfl), if_pos (by rw [c32]; rfl)]
              exact next L (by omega)
            · rw [if_neg (mt (nl_eq 32 32 rfl (by decide) (by omega)).mp c32), if_neg (mt (nl_eq 32 32 rfl (by decide) (by omega)).mp c32)]
              exact next (j + 1) (Nat.le_refl _)
          unfold s6 at go
          rw [e20, nu_add]
          by_cases c : 32 ≤ x
          · rw [if_neg (by omega)] at go
            rw [if_pos ((nl_le 32 32 rfl (by decide) (by omega)).mpr c), if_pos ((nl_le 32 32 rfl (by decide) (by omega)).mpr c)]
            exact go
          · rw [if_pos (by omega)] at go
            rw [if_neg (mt (nl_le 32 32 rfl (by decide) (by omega)).mp c), if_neg (mt (nl_le 32 32 rfl (by decide) (by omega)).mp c), show (64 : Int32) = Int32.ofNat 64 from rfl, nu_add]
            exact go
theorem lw (hs : sh a0 T) (hm : rLm a0 K i V0 B0) (hv : a0 + 24 ≤ v) (hv9 : T.2.2.1 1 v = some (v + 2) ∧ T.2.2.1 2 v = some (v + 3) ∧ T.2.2.2.1 (v + 2) = 3 ∧ T.2.2.2.1 (v + 3) = 60) (h : rL v i ty pos V0 B0 V B) (t R : Nat) (ht : t < 3) (hR : R = if t = 0 then 7 else 20) (hp : pos + 6 * R ≤ K) : ∃ V' B', f_X7_learnText T V v (Int32.ofNat t) (a0 + 18) (Int32.ofNat pos) (Int32.ofNat R) = some V' ∧ f_X9_words B (Int32.ofNat t) = some B' ∧ rL v i ty (pos + 6 * R) V0 B0 V' B' := by
  obtain ⟨g1, g2, g3, g4⟩ := h.msg hm hv
  obtain ⟨q1, q2, q3, q4, q5, q6, q7, q8⟩ := h
  have hR2 : R ≤ 20 := by rw [hR]; split <;> omega
  obtain ⟨V', B', e1, e2, e3⟩ := lw_l hs hm hv hv9 ht hR hp R 0 0 sv_fu sv_fu V B (by omega) (fu_lt (by omega)) (fu_lt (by omega)) (Nat.le_refl _) q1 q2 q3 q4 q5 q6 q7 (fun k hk _ => q8 k hk) (fun q hq => by omega)
  refine ⟨V', B', ?_, ?_, e3⟩
  · unfold f_X7_learnText
    rw [if_neg (nu_neg (by omega)), if_pos ((nl_gt 3 3 rfl (by decide) (by omega)).mpr ht)]
    exact e1
  · have hr : f_X9_room B (Int32.ofNat t) = some (Int32.ofNat R, B) := by
      unfold f_X9_room
      by_cases h0 : t = 0
      · subst h0
        rw [hR]
        rfl
      · rw [if_neg (mt (nl_eq 0 0 rfl (by decide) (by omega)).mp h0), hR, if_neg h0]
        rfl
    have e60 : 60 * Int32.ofNat i + 20 * Int32.ofNat t = Int32.ofNat (60 * i + 20 * t) := by
      rw [show (20 : Int32) = Int32.ofNat 20 from rfl, show (60 : Int32) = Int32.ofNat 60 from rfl, nu_mul, nu_mul, nu_add]
    unfold f_X9_words
    rw [hr, Option.bind_some, if_pos g3, g4, e60]
    exact e2
section LN
variable {j f e : Nat} {w : String × String × List Int32} {x1 : Int32}
theorem ln_go {wh k : Nat} {sg : Int32} (hs : sh a0 T) (hw : sv_sta[j]? = some w) (h1 : 2 * e + 1 < w.2.2.length) (hL : w.2.2.length < 100) (h2 : w.2.2.getD (2 * e) 0 = Int32.ofNat wh) (hwh : wh < 24) (h3 : w.2.2.getD (2 * e + 1) 0 = Int32.ofNat k) (hk : 1 ≤ k) (hk2 : k ≤ 32) (hpos : pos ≤ 424) (hr : T.2.2.1 0 v = some (v + 1)) (hl : T.2.2.2.1 (v + 1) = 24) (hsg : ∀ V, f_X7_hasSign T V (Int32.ofNat wh) = some (sg, V)) (h19 : V.2 (a0 + 19) = V0.2 (a0 + 19)) : f_X7_learn_12 T v (a0 + 18) (f + 1) V x1 j (Int32.ofNat pos) (Int32.ofNat (2 * e)) = f_X7_learn_12 T v (a0 + 18) f (gh_pa V (v + 1) (Int32.ofNat wh) (lv V0 a0 pos k sg)) x1 j (Int32.ofNat (pos + k)) (Int32.ofNat (2 * (e + 1))) := by
  have e2 : Int32.ofNat (2 * e) + 2 = Int32.ofNat (2 * (e + 1)) := nu_add (2 * e) 2
  conv => lhs; unfold f_X7_learn_12
  rw [hw, Option.bind_some, nu_s, if_neg (mt (nu_le (by omega) (by omega)).mp (by omega)), Option.bind_some, nu_inb (by omega) (by omega), sv_g_t rfl, Option.bind_some, nu_inb (by omega) h1, sv_g_t rfl, nu_nat (by omega), nu_nat (by omega), h2, h3, if_pos ((nl_gt 30 30 rfl (by decide) (by omega)).mpr (by omega)), if_neg (nu_neg (by omega)), if_neg (mt (nl_le 24 24 rfl (by decide) (by omega)).mp (by omega)), read_s (V := V) hs.r1_18 hs.l19 (by decide) hk hk2 (by omega), Option.bind_some, hr, Option.bind_some, hsg, Option.bind_some, h19]
  unfold f_X7_learn_117 f_X7_learn_118 lv
  rw [hl, nu_inb (by omega) hwh, sv_g_t rfl, sv_g_t rfl, nu_add, e2]
  by_cases c : sg = 0
  · rw [if_pos c, if_pos c]
  · rw [if_neg c, if_neg c]
theorem ln_skip {k : Nat} (hw : sv_sta[j]? = some w) (h1 : 2 * e + 1 < w.2.2.length) (hL : w.2.2.length < 100) (h2 : w.2.2.getD (2 * e) 0 = -1) (h3 : w.2.2.getD (2 * e + 1) 0 = Int32.ofNat k) : f_X7_learn_12 T v (a0 + 18) (f + 1) V x1 j (Int32.ofNat pos) (Int32.ofNat (2 * e)) = f_X7_learn_12 T v (a0 + 18) f V x1 j (Int32.ofNat (pos + k)) (Int32.ofNat (2 * (e + 1))) := by
  have e2 : Int32.ofNat (2 * e) + 2 = Int32.ofNat (2 * (e + 1)) := nu_add (2 * e) 2
  conv => lhs; unfold f_X7_learn_12
  rw [hw, Option.bind_some, nu_s, if_neg (mt (nu_le (by omega) (by omega)).mp (by omega)), Option.bind_some, nu_inb (by omega) (by omega), sv_g_t rfl, Option.bind_some, nu_inb (by omega) h1, sv_g_t rfl, nu_nat (by omega), nu_nat (by omega), h2, h3, if_pos (by decide), if_pos (by decide)]
  unfold f_X7_learn_118
  rw [nu_add, e2]
theorem ln_text {t k kk : Nat} (hw : sv_sta[j]? = some w) (h1 : 2 * e + 1 < w.2.2.length) (hL : w.2.2.length < 100) (h2 : w.2.2.getD (2 * e) 0 = Int32.ofNat (30 + t)) (ht : t < 3) (h3 : w.2.2.getD (2 * e + 1) 0 = Int32.ofNat kk) (h4 : Int32.ofNat kk / 6 = Int32.ofNat k) : f_X7_learn_12 T v (a0 + 18) (f + 1) V x1 j (Int32.ofNat pos) (Int32.ofNat (2 * e)) = (f_X7_learnText T V v (Int32.ofNat t) (a0 + 18) (Int32.ofNat pos) (Int32.ofNat k)).bind (fun V' => f_X7_learn_12 T v (a0 + 18) f V' x1 j (Int32.ofNat (pos + kk)) (Int32.ofNat (2 * (e + 1)))) := by
  have e30 : Int32.ofNat (30 + t) - 30 = Int32.ofNat t := by
    rw [show (30 : Int32) = Int32.ofNat 30 from rfl, nu_sub (by omega)]
    congr 1
    omega
  have e2 : Int32.ofNat (2 * e) + 2 = Int32.ofNat (2 * (e + 1)) := nu_add (2 * e) 2
  conv => lhs; unfold f_X7_learn_12
  rw [hw, Option.bind_some, nu_s, if_neg (mt (nu_le (by omega) (by omega)).mp (by omega)), Option.bind_some, nu_inb (by omega) (by omega), sv_g_t rfl, Option.bind_some, nu_inb (by omega) h1, sv_g_t rfl, nu_nat (by omega), nu_nat (by omega), h2, h3, if_neg (mt (nl_gt 30 30 rfl (by decide) (by omega)).mp (by omega)), e30, h4]
  unfold f_X7_learn_118
  rw [nu_add, e2]
theorem ln_end (hw : sv_sta[j]? = some w) (h1 : w.2.2.length ≤ 2 * e + 1) (hL : w.2.2.length < 100) (he : e < 100) (hr : T.2.2.1 0 v = some (v + 1)) (hl : T.2.2.2.1 (v + 1) = 24) {x4 : Int32} : f_X7_learn_12 T v (a0 + 18) (f + 1) V x1 j x4 (Int32.ofNat (2 * e)) = some (gh_pa (gh_pa V (v + 1) 1 x1) (v + 1) 23 (V.2 (v + 1) 23 + 1)) := by
  unfold f_X7_learn_12
  rw [hw, Option.bind_some, nu_s, if_pos ((nu_le (by omega) (by omega)).mpr h1), hr, Option.bind_some, hl, show sv_inb (1 : Int32) 24 = true from by decide, sv_g_t rfl, Option.bind_some, hl, show sv_inb (23 : Int32) 24 = true from by decide, sv_g_t rfl, sv_g_t rfl]
  have : (gh_pa V (v + 1) 1 x1).2 (v + 1) (23 : Int32).toNatClampNeg = V.2 (v + 1) 23 := by
    rw [pa_2]
    show upd _ 1 _ 23 = _
    simp [upd]
  rw [this]
end LN
/-- learnt -/
theorem rL.done (h : rL v i ty pos V0 B0 V B) : rV (gh_pa (gh_pa V (v + 1) 1 ty) (v + 1) 23 (V.2 (v + 1) 23 + 1)) v B i := by
  obtain ⟨q1, q2, q3, q4, q5, q6, q7, q8⟩ := h
  refine ⟨fun k hk => ?_, fun k hk => ?_⟩
  · rw [pa_2, pa_2]
    show upd (upd _ 1 _) 23 _ k = _
    unfold upd
    by_cases e : k = 23
    · subst e
      rw [if_pos rfl, q7]
    · rw [if_neg e]
      by_cases e1 : k = 1
      · subst e1
        rw [if_pos rfl, q6]
      · rw [if_neg e1]
        exact q5 k hk e1 e
  · obtain ⟨m, m1, m2, m3, m4⟩ := q8 k hk
    refine ⟨m, m1, ?_, m3, fun j hj => ?_⟩
    · rw [pa_n (by omega), pa_n (by omega)]
      exact m2
    · rw [pa_n (by omega), pa_n (by omega)]
      exact m4 j hj

set_option maxHeartbeats 2000000 in
theorem learn_1 (hs : sh a0 T) (hm : rLm a0 168 i V0 B0) (hv : a0 + 24 ≤ v) (hr : T.2.2.1 0 v = some (v + 1)) (hl : T.2.2.2.1 (v + 1) = 24) (hv9 : T.2.2.1 1 v = some (v + 2) ∧ T.2.2.1 2 v = some (v + 3) ∧ T.2.2.2.1 (v + 2) = 3 ∧ T.2.2.2.1 (v + 3) = 60) (hty : ty = 1 ∨ ty = 2 ∨ ty = 3) (hB : B0 = md_pf (md_pf B 34 (Int32.ofNat i)) 32 38) (h : rL v i ty 38 V0 B0 V0 B0) : ∃ V' B', f_X7_learn T V0 v ty (a0 + 18) = some V' ∧ f_X9_reports B (Int32.ofNat i) ty = some B' ∧ ch [] [v + 1, v + 2, v + 3] V0 V' ∧ cb [32] [29, 30, 31] B0 B' ∧ rLf i B0 B' ∧ rV V' v B' i := by
  obtain ⟨B1, g1, h1⟩ := lg hm hv h 2 4 0 (by decide) (by decide) (by decide) (by decide) (by decide) (by decide)
  have g1 : f_X9_go B0 2 4 0 = some B1 := g1
  have x1 := (h.msg hm hv).1
  obtain ⟨V1, hV1⟩ : ∃ W, W = gh_pa V0 (v + 1) (Int32.ofNat 2) (lv V0 a0 38 4 0) := ⟨_, rfl⟩
  rw [← hV1] at h1
  have h1 : rL v i ty 42 V0 B0 V1 B1 := h1
  obtain ⟨B2, g2, h2⟩ := lg hm hv h1 3 8 1 (by decide) (by decide) (by decide) (by decide) (by decide) (by decide)
  have g2 : f_X9_go B1 3 8 1 = some B2 := g2
  have x2 := (h1.msg hm hv).1
  obtain ⟨V2, hV2⟩ : ∃ W, W = gh_pa V1 (v + 1) (Int32.ofNat 3) (lv V0 a0 42 8 1) := ⟨_, rfl⟩
  rw [← hV2] at h2
  have h2 : rL v i ty 50 V0 B0 V2 B2 := h2
  obtain ⟨B3, g3, h3⟩ := lg hm hv h2 4 10 0 (by decide) (by decide) (by decide) (by decide) (by decide) (by decide)
  have g3 : f_X9_go B2 4 10 0 = some B3 := g3
  have x3 := (h2.msg hm hv).1
  obtain ⟨V3, hV3⟩ : ∃ W, W = gh_pa V2 (v + 1) (Int32.ofNat 4) (lv V0 a0 50 10 0) := ⟨_, rfl⟩
  rw [← hV3] at h3
  have h3 : rL v i ty 60 V0 B0 V3 B3 := h3
  obtain ⟨B4, g4, h4⟩ := lg hm hv h3 5 1 0 (by decide) (by decide) (by decide) (by decide) (by decide) (by decide)
  have g4 : f_X9_go B3 5 1 0 = some B4 := g4
  have x4 := (h3.msg hm hv).1
  obtain ⟨V4, hV4⟩ : ∃ W, W = gh_pa V3 (v + 1) (Int32.ofNat 5) (lv V0 a0 60 1 0) := ⟨_, rfl⟩
  rw [← hV4] at h4
  have h4 : rL v i ty 61 V0 B0 V4 B4 := h4
  obtain ⟨B5, g5, h5⟩ := lg hm hv h4 6 28 1 (by decide) (by decide) (by decide) (by decide) (by decide) (by decide)
  have g5 : f_X9_go B4 6 28 1 = some B5 := g5
  have x5 := (h4.msg hm hv).1
  obtain ⟨V5, hV5⟩ : ∃ W, W = gh_pa V4 (v + 1) (Int32.ofNat 6) (lv V0 a0 61 28 1) := ⟨_, rfl⟩
  rw [← hV5] at h5
  have h5 : rL v i ty 89 V0 B0 V5 B5 := h5
  obtain ⟨B6, g6, h6⟩ := lg hm hv h5 7 27 1 (by decide) (by decide) (by decide) (by decide) (by decide) (by decide)
  have g6 : f_X9_go B5 7 27 1 = some B6 := g6
  have x6 := (h5.msg hm hv).1
  obtain ⟨V6, hV6⟩ : ∃ W, W = gh_pa V5 (v + 1) (Int32.ofNat 7) (lv V0 a0 89 27 1) := ⟨_, rfl⟩
  rw [← hV6] at h6
  have h6 : rL v i ty 116 V0 B0 V6 B6 := h6
  obtain ⟨B7, g7, h7⟩ := lg hm hv h6 8 12 0 (by decide) (by decide) (by decide) (by decide) (by decide) (by decide)
  have g7 : f_X9_go B6 8 12 0 = some B7 := g7
  have x7 := (h6.msg hm hv).1
  obtain ⟨V7, hV7⟩ : ∃ W, W = gh_pa V6 (v + 1) (Int32.ofNat 8) (lv V0 a0 116 12 0) := ⟨_, rfl⟩
  rw [← hV7] at h7
  have h7 : rL v i ty 128 V0 B0 V7 B7 := h7
  obtain ⟨B8, g8, h8⟩ := lg hm hv h7 9 9 0 (by decide) (by decide) (by decide) (by decide) (by decide) (by decide)
  have g8 : f_X9_go B7 9 9 0 = some B8 := g8
  have x8 := (h7.msg hm hv).1
  obtain ⟨V8, hV8⟩ : ∃ W, W = gh_pa V7 (v + 1) (Int32.ofNat 9) (lv V0 a0 128 9 0) := ⟨_, rfl⟩
  rw [← hV8] at h8
  have h8 : rL v i ty 137 V0 B0 V8 B8 := h8
  obtain ⟨B9, g9, h9⟩ := lg hm hv h8 10 6 0 (by decide) (by decide) (by decide) (by decide) (by decide) (by decide)
  have g9 : f_X9_go B8 10 6 0 = some B9 := g9
  have x9 := (h8.msg hm hv).1
  obtain ⟨V9, hV9⟩ : ∃ W, W = gh_pa V8 (v + 1) (Int32.ofNat 10) (lv V0 a0 137 6 0) := ⟨_, rfl⟩
  rw [← hV9] at h9
  have h9 : rL v i ty 143 V0 B0 V9 B9 := h9
  obtain ⟨B10, g10, h10⟩ := ls hm hv h9 25
  have g10 : f_X9_skip B9 25 = some B10 := g10
  have h10 : rL v i ty 168 V0 B0 V9 B10 := h10
  refine ⟨_, B10, ?_, ?_, (h10.1.pa (by simp)).pa (by simp), h10.2.1, h10.2.2.1, h10.done⟩
  · have hw : sv_sta[6]? = some ("SeaReceiver$Vessel", "OF_1", ([2, 4, 3, 8, 4, 10, 5, 1, 6, 28, 7, 27, 8, 12, 9, 9, 10, 6, -1, 25] : List Int32)) := rfl
    have hly : f_X7_layoutOf T V0 ty = some (6, V0) := by
      rcases hty with rfl | rfl | rfl <;> rfl
    unfold f_X7_learn
    rw [hly, Option.bind_some]
    show f_X7_learn_12 T v (a0 + 18) (sv_fu - 11 + 11) V0 ty 6 (Int32.ofNat 38) (Int32.ofNat (2 * 0)) = _
    rw [ln_go (V0 := V0) (wh := 2) (k := 4) (sg := 0) (pos := 38) (e := 0) hs hw (by decide) (by decide) (by decide) (by decide) (by decide) (by decide) (by decide) (by decide) hr hl (fun _ => rfl) x1, ← hV1, ln_go (V0 := V0) (wh := 3) (k := 8) (sg := 1) (pos := 42) (e := 1) hs hw (by decide) (by decide) (by decide) (by decide) (by decide) (by decide) (by decide) (by decide) hr hl (fun _ => rfl) x2, ← hV2, ln_go (V0 := V0) (wh := 4) (k := 10) (sg := 0) (pos := 50) (e := 2) hs hw (by decide) (by decide) (by decide) (by decide) (by decide) (by decide) (by decide) (by decide) hr hl (fun _ => rfl) x3, ← hV3, ln_go (V0 := V0) (wh := 5) (k := 1) (sg := 0) (pos := 60) (e := 3) hs hw (by decide) (by decide) (by decide) (by decide) (by decide) (by decide) (by decide) (by decide) hr hl (fun _ => rfl) x4, ← hV4, ln_go (V0 := V0) (wh := 6) (k := 28) (sg := 1) (pos := 61) (e := 4) hs hw (by decide) (by decide) (by decide) (by decide) (by decide) (by decide) (by decide) (by decide) hr hl (fun _ => rfl) x5, ← hV5, ln_go (V0 := V0) (wh := 7) (k := 27) (sg := 1) (pos := 89) (e := 5) hs hw (by decide) (by decide) (by decide) (by decide) (by decide) (by decide) (by decide) (by decide) hr hl (fun _ => rfl) x6, ← hV6, ln_go (V0 := V0) (wh := 8) (k := 12) (sg := 0) (pos := 116) (e := 6) hs hw (by decide) (by decide) (by decide) (by decide) (by decide) (by decide) (by decide) (by decide) hr hl (fun _ => rfl) x7, ← hV7, ln_go (V0 := V0) (wh := 9) (k := 9) (sg := 0) (pos := 128) (e := 7) hs hw (by decide) (by decide) (by decide) (by decide) (by decide) (by decide) (by decide) (by decide) hr hl (fun _ => rfl) x8, ← hV8, ln_go (V0 := V0) (wh := 10) (k := 6) (sg := 0) (pos := 137) (e := 8) hs hw (by decide) (by decide) (by decide) (by decide) (by decide) (by decide) (by decide) (by decide) hr hl (fun _ => rfl) x9, ← hV9, ln_skip (k := 25) (pos := 143) (e := 9) hw (by decide) (by decide) (by decide) (by decide), ln_end (e := 10) hw (by decide) (by decide) (by decide) hr hl]
  · unfold f_X9_reports f_X9_where f_X9_way f_X9_still
    rw [if_neg (by rcases hty with rfl | rfl | rfl <;> decide), ← hB]
    simp only [g1, g2, g3, g4, g5, g6, g7, g8, g9, g10, Option.bind_some]
set_option maxHeartbeats 2000000 in
theorem learn_4 (hs : sh a0 T) (hm : rLm a0 168 i V0 B0) (hv : a0 + 24 ≤ v) (hr : T.2.2.1 0 v = some (v + 1)) (hl : T.2.2.2.1 (v + 1) = 24) (hv9 : T.2.2.1 1 v = some (v + 2) ∧ T.2.2.1 2 v = some (v + 3) ∧ T.2.2.2.1 (v + 2) = 3 ∧ T.2.2.2.1 (v + 3) = 60) (hty : ty = 4) (hB : B0 = md_pf (md_pf B 34 (Int32.ofNat i)) 32 38) (h : rL v i ty 38 V0 B0 V0 B0) : ∃ V' B', f_X7_learn T V0 v ty (a0 + 18) = some V' ∧ f_X9_reports B (Int32.ofNat i) ty = some B' ∧ ch [] [v + 1, v + 2, v + 3] V0 V' ∧ cb [32] [29, 30, 31] B0 B' ∧ rLf i B0 B' ∧ rV V' v B' i := by
  obtain ⟨B1, g1, h1⟩ := lg hm hv h 11 14 0 (by decide) (by decide) (by decide) (by decide) (by decide) (by decide)
  have g1 : f_X9_go B0 11 14 0 = some B1 := g1
  have x1 := (h.msg hm hv).1
  obtain ⟨V1, hV1⟩ : ∃ W, W = gh_pa V0 (v + 1) (Int32.ofNat 11) (lv V0 a0 38 14 0) := ⟨_, rfl⟩
  rw [← hV1] at h1
  have h1 : rL v i ty 52 V0 B0 V1 B1 := h1
  obtain ⟨B2, g2, h2⟩ := lg hm hv h1 12 4 0 (by decide) (by decide) (by decide) (by decide) (by decide) (by decide)
  have g2 : f_X9_go B1 12 4 0 = some B2 := g2
  have x2 := (h1.msg hm hv).1
  obtain ⟨V2, hV2⟩ : ∃ W, W = gh_pa V1 (v + 1) (Int32.ofNat 12) (lv V0 a0 52 4 0) := ⟨_, rfl⟩
  rw [← hV2] at h2
  have h2 : rL v i ty 56 V0 B0 V2 B2 := h2
  obtain ⟨B3, g3, h3⟩ := lg hm hv h2 13 5 0 (by decide) (by decide) (by decide) (by decide) (by decide) (by decide)
  have g3 : f_X9_go B2 13 5 0 = some B3 := g3
  have x3 := (h2.msg hm hv).1
  obtain ⟨V3, hV3⟩ : ∃ W, W = gh_pa V2 (v + 1) (Int32.ofNat 13) (lv V0 a0 56 5 0) := ⟨_, rfl⟩
  rw [← hV3] at h3
  have h3 : rL v i ty 61 V0 B0 V3 B3 := h3
  obtain ⟨B4, g4, h4⟩ := lg hm hv h3 14 5 0 (by decide) (by decide) (by decide) (by decide) (by decide) (by decide)
  have g4 : f_X9_go B3 14 5 0 = some B4 := g4
  have x4 := (h3.msg hm hv).1
  obtain ⟨V4, hV4⟩ : ∃ W, W = gh_pa V3 (v + 1) (Int32.ofNat 14) (lv V0 a0 61 5 0) := ⟨_, rfl⟩
  rw [← hV4] at h4
  have h4 : rL v i ty 66 V0 B0 V4 B4 := h4
  obtain ⟨B5, g5, h5⟩ := lg hm hv h4 15 6 0 (by decide) (by decide) (by decide) (by decide) (by decide) (by decide)
  have g5 : f_X9_go B4 15 6 0 = some B5 := g5
  have x5 := (h4.msg hm hv).1
  obtain ⟨V5, hV5⟩ : ∃ W, W = gh_pa V4 (v + 1) (Int32.ofNat 15) (lv V0 a0 66 6 0) := ⟨_, rfl⟩
  rw [← hV5] at h5
  have h5 : rL v i ty 72 V0 B0 V5 B5 := h5
  obtain ⟨B6, g6, h6⟩ := lg hm hv h5 10 6 0 (by decide) (by decide) (by decide) (by decide) (by decide) (by decide)
  have g6 : f_X9_go B5 10 6 0 = some B6 := g6
  have x6 := (h5.msg hm hv).1
  obtain ⟨V6, hV6⟩ : ∃ W, W = gh_pa V5 (v + 1) (Int32.ofNat 10) (lv V0 a0 72 6 0) := ⟨_, rfl⟩
  rw [← hV6] at h6
  have h6 : rL v i ty 78 V0 B0 V6 B6 := h6
  obtain ⟨B7, g7, h7⟩ := lg hm hv h6 5 1 0 (by decide) (by decide) (by decide) (by decide) (by decide) (by decide)
  have g7 : f_X9_go B6 5 1 0 = some B7 := g7
  have x7 := (h6.msg hm hv).1
  obtain ⟨V7, hV7⟩ : ∃ W, W = gh_pa V6 (v + 1) (Int32.ofNat 5) (lv V0 a0 78 1 0) := ⟨_, rfl⟩
  rw [← hV7] at h7
  have h7 : rL v i ty 79 V0 B0 V7 B7 := h7
  obtain ⟨B8, g8, h8⟩ := lg hm hv h7 6 28 1 (by decide) (by decide) (by decide) (by decide) (by decide) (by decide)
  have g8 : f_X9_go B7 6 28 1 = some B8 := g8
  have x8 := (h7.msg hm hv).1
  obtain ⟨V8, hV8⟩ : ∃ W, W = gh_pa V7 (v + 1) (Int32.ofNat 6) (lv V0 a0 79 28 1) := ⟨_, rfl⟩
  rw [← hV8] at h8
  have h8 : rL v i ty 107 V0 B0 V8 B8 := h8
  obtain ⟨B9, g9, h9⟩ := lg hm hv h8 7 27 1 (by decide) (by decide) (by decide) (by decide) (by decide) (by decide)
  have g9 : f_X9_go B8 7 27 1 = some B9 := g9
  have x9 := (h8.msg hm hv).1
  obtain ⟨V9, hV9⟩ : ∃ W, W = gh_pa V8 (v + 1) (Int32.ofNat 7) (lv V0 a0 107 27 1) := ⟨_, rfl⟩
  rw [← hV9] at h9
  have h9 : rL v i ty 134 V0 B0 V9 B9 := h9
  obtain ⟨B10, g10, h10⟩ := ls hm hv h9 34
  have g10 : f_X9_skip B9 34 = some B10 := g10
  have h10 : rL v i ty 168 V0 B0 V9 B10 := h10
  refine ⟨_, B10, ?_, ?_, (h10.1.pa (by simp)).pa (by simp), h10.2.1, h10.2.2.1, h10.done⟩
  · have hw : sv_sta[3]? = some ("SeaReceiver$Vessel", "OF_4", ([11, 14, 12, 4, 13, 5, 14, 5, 15, 6, 10, 6, 5, 1, 6, 28, 7, 27, -1, 4, -1, 30] : List Int32)) := rfl
    have hly : f_X7_layoutOf T V0 ty = some (3, V0) := by
      rw [hty]; rfl
    unfold f_X7_learn
    rw [hly, Option.bind_some]
    show f_X7_learn_12 T v (a0 + 18) (sv_fu - 12 + 12) V0 ty 3 (Int32.ofNat 38) (Int32.ofNat (2 * 0)) = _
    rw [ln_go (V0 := V0) (wh := 11) (k := 14) (sg := 0) (pos := 38) (e := 0) hs hw (by decide) (by decide) (by decide) (by decide) (by decide) (by decide) (by decide) (by decide) hr hl (fun _ => rfl) x1, ← hV1, ln_go (V0 := V0) (wh := 12) (k := 4) (sg := 0) (pos := 52) (e := 1) hs hw (by decide) (by decide) (by decide) (by decide) (by decide) (by decide) (by decide) (by decide) hr hl (fun _ => rfl) x2, ← hV2, ln_go (V0 := V0) (wh := 13) (k := 5) (sg := 0) (pos := 56) (e := 2) hs hw (by decide) (by decide) (by decide) (by decide) (by decide) (by decide) (by decide) (by decide) hr hl (fun _ => rfl) x3, ← hV3, ln_go (V0 := V0) (wh := 14) (k := 5) (sg := 0) (pos := 61) (e := 3) hs hw (by decide) (by decide) (by decide) (by decide) (by decide) (by decide) (by decide) (by decide) hr hl (fun _ => rfl) x4, ← hV4, ln_go (V0 := V0) (wh := 15) (k := 6) (sg := 0) (pos := 66) (e := 4) hs hw (by decide) (by decide) (by decide) (by decide) (by decide) (by decide) (by decide) (by decide) hr hl (fun _ => rfl) x5, ← hV5, ln_go (V0 := V0) (wh := 10) (k := 6) (sg := 0) (pos := 72) (e := 5) hs hw (by decide) (by decide) (by decide) (by decide) (by decide) (by decide) (by decide) (by decide) hr hl (fun _ => rfl) x6, ← hV6, ln_go (V0 := V0) (wh := 5) (k := 1) (sg := 0) (pos := 78) (e := 6) hs hw (by decide) (by decide) (by decide) (by decide) (by decide) (by decide) (by decide) (by decide) hr hl (fun _ => rfl) x7, ← hV7, ln_go (V0 := V0) (wh := 6) (k := 28) (sg := 1) (pos := 79) (e := 7) hs hw (by decide) (by decide) (by decide) (by decide) (by decide) (by decide) (by decide) (by decide) hr hl (fun _ => rfl) x8, ← hV8, ln_go (V0 := V0) (wh := 7) (k := 27) (sg := 1) (pos := 107) (e := 8) hs hw (by decide) (by decide) (by decide) (by decide) (by decide) (by decide) (by decide) (by decide) hr hl (fun _ => rfl) x9, ← hV9, ln_skip (k := 4) (pos := 134) (e := 9) hw (by decide) (by decide) (by decide) (by decide), ln_skip (k := 30) (pos := 138) (e := 10) hw (by decide) (by decide) (by decide) (by decide), ln_end (e := 11) hw (by decide) (by decide) (by decide) hr hl]
  · unfold f_X9_reports f_X9_where f_X9_way f_X9_still
    rw [hty, if_pos (by decide), if_pos (by decide), ← hB]
    simp only [g1, g2, g3, g4, g5, g6, g7, g8, g9, g10, Option.bind_some]
set_option maxHeartbeats 2000000 in
theorem learn_5 (hs : sh a0 T) (hm : rLm a0 424 i V0 B0) (hv : a0 + 24 ≤ v) (hr : T.2.2.1 0 v = some (v + 1)) (hl : T.2.2.2.1 (v + 1) = 24) (hv9 : T.2.2.1 1 v = some (v + 2) ∧ T.2.2.1 2 v = some (v + 3) ∧ T.2.2.2.1 (v + 2) = 3 ∧ T.2.2.2.1 (v + 3) = 60) (hty : ty = 5) (hB : B0 = md_pf (md_pf B 34 (Int32.ofNat i)) 32 38) (h : rL v i ty 38 V0 B0 V0 B0) : ∃ V' B', f_X7_learn T V0 v ty (a0 + 18) = some V' ∧ f_X9_reports B (Int32.ofNat i) ty = some B' ∧ ch [] [v + 1, v + 2, v + 3] V0 V' ∧ cb [32] [29, 30, 31] B0 B' ∧ rLf i B0 B' ∧ rV V' v B' i := by
  obtain ⟨B1, g1, h1⟩ := ls hm hv h 2
  have g1 : f_X9_skip B0 2 = some B1 := g1
  have h1 : rL v i ty 40 V0 B0 V0 B1 := h1
  obtain ⟨B2, g2, h2⟩ := lg hm hv h1 16 30 0 (by decide) (by decide) (by decide) (by decide) (by decide) (by decide)
  have g2 : f_X9_go B1 16 30 0 = some B2 := g2
  have x2 := (h1.msg hm hv).1
  obtain ⟨V2, hV2⟩ : ∃ W, W = gh_pa V0 (v + 1) (Int32.ofNat 16) (lv V0 a0 40 30 0) := ⟨_, rfl⟩
  rw [← hV2] at h2
  have h2 : rL v i ty 70 V0 B0 V2 B2 := h2
  obtain ⟨V3, B3, d3, g3, h3⟩ := lw hs hm hv hv9 h2 0 7 (by decide) rfl (by decide)
  have g3 : f_X9_words B2 0 = some B3 := g3
  have h3 : rL v i ty 112 V0 B0 V3 B3 := h3
  obtain ⟨V4, B4, d4, g4, h4⟩ := lw hs hm hv hv9 h3 1 20 (by decide) rfl (by decide)
  have g4 : f_X9_words B3 1 = some B4 := g4
  have h4 : rL v i ty 232 V0 B0 V4 B4 := h4
  obtain ⟨B5, g5, h5⟩ := lg hm hv h4 17 8 0 (by decide) (by decide) (by decide) (by decide) (by decide) (by decide)
  have g5 : f_X9_go B4 17 8 0 = some B5 := g5
  have x5 := (h4.msg hm hv).1
  obtain ⟨V5, hV5⟩ : ∃ W, W = gh_pa V4 (v + 1) (Int32.ofNat 17) (lv V0 a0 232 8 0) := ⟨_, rfl⟩
  rw [← hV5] at h5
  have h5 : rL v i ty 240 V0 B0 V5 B5 := h5
  obtain ⟨B6, g6, h6⟩ := lg hm hv h5 18 9 0 (by decide) (by decide) (by decide) (by decide) (by decide) (by decide)
  have g6 : f_X9_go B5 18 9 0 = some B6 := g6
  have x6 := (h5.msg hm hv).1
  obtain ⟨V6, hV6⟩ : ∃ W, W = gh_pa V5 (v + 1) (Int32.ofNat 18) (lv V0 a0 240 9 0) := ⟨_, rfl⟩
  rw [← hV6] at h6
  have h6 : rL v i ty 249 V0 B0 V6 B6 := h6
  obtain ⟨B7, g7, h7⟩ := lg hm hv h6 19 9 0 (by decide) (by decide) (by decide) (by decide) (by decide) (by decide)
  have g7 : f_X9_go B6 19 9 0 = some B7 := g7
  have x7 := (h6.msg hm hv).1
  obtain ⟨V7, hV7⟩ : ∃ W, W = gh_pa V6 (v + 1) (Int32.ofNat 19) (lv V0 a0 249 9 0) := ⟨_, rfl⟩
  rw [← hV7] at h7
  have h7 : rL v i ty 258 V0 B0 V7 B7 := h7
  obtain ⟨B8, g8, h8⟩ := lg hm hv h7 20 6 0 (by decide) (by decide) (by decide) (by decide) (by decide) (by decide)
  have g8 : f_X9_go B7 20 6 0 = some B8 := g8
  have x8 := (h7.msg hm hv).1
  obtain ⟨V8, hV8⟩ : ∃ W, W = gh_pa V7 (v + 1) (Int32.ofNat 20) (lv V0 a0 258 6 0) := ⟨_, rfl⟩
  rw [← hV8] at h8
  have h8 : rL v i ty 264 V0 B0 V8 B8 := h8
  obtain ⟨B9, g9, h9⟩ := lg hm hv h8 21 6 0 (by decide) (by decide) (by decide) (by decide) (by decide) (by decide)
  have g9 : f_X9_go B8 21 6 0 = some B9 := g9
  have x9 := (h8.msg hm hv).1
  obtain ⟨V9, hV9⟩ : ∃ W, W = gh_pa V8 (v + 1) (Int32.ofNat 21) (lv V0 a0 264 6 0) := ⟨_, rfl⟩
  rw [← hV9] at h9
  have h9 : rL v i ty 270 V0 B0 V9 B9 := h9
  obtain ⟨B10, g10, h10⟩ := ls hm hv h9 4
  have g10 : f_X9_skip B9 4 = some B10 := g10
  have h10 : rL v i ty 274 V0 B0 V9 B10 := h10
  obtain ⟨B11, g11, h11⟩ := lg hm hv h10 12 4 0 (by decide) (by decide) (by decide) (by decide) (by decide) (by decide)
  have g11 : f_X9_go B10 12 4 0 = some B11 := g11
  have x11 := (h10.msg hm hv).1
  obtain ⟨V11, hV11⟩ : ∃ W, W = gh_pa V9 (v + 1) (Int32.ofNat 12) (lv V0 a0 274 4 0) := ⟨_, rfl⟩
  rw [← hV11] at h11
  have h11 : rL v i ty 278 V0 B0 V11 B11 := h11
  obtain ⟨B12, g12, h12⟩ := lg hm hv h11 13 5 0 (by decide) (by decide) (by decide) (by decide) (by decide) (by decide)
  have g12 : f_X9_go B11 13 5 0 = some B12 := g12
  have x12 := (h11.msg hm hv).1
  obtain ⟨V12, hV12⟩ : ∃ W, W = gh_pa V11 (v + 1) (Int32.ofNat 13) (lv V0 a0 278 5 0) := ⟨_, rfl⟩
  rw [← hV12] at h12
  have h12 : rL v i ty 283 V0 B0 V12 B12 := h12
  obtain ⟨B13, g13, h13⟩ := lg hm hv h12 14 5 0 (by decide) (by decide) (by decide) (by decide) (by decide) (by decide)
  have g13 : f_X9_go B12 14 5 0 = some B13 := g13
  have x13 := (h12.msg hm hv).1
  obtain ⟨V13, hV13⟩ : ∃ W, W = gh_pa V12 (v + 1) (Int32.ofNat 14) (lv V0 a0 283 5 0) := ⟨_, rfl⟩
  rw [← hV13] at h13
  have h13 : rL v i ty 288 V0 B0 V13 B13 := h13
  obtain ⟨B14, g14, h14⟩ := lg hm hv h13 15 6 0 (by decide) (by decide) (by decide) (by decide) (by decide) (by decide)
  have g14 : f_X9_go B13 15 6 0 = some B14 := g14
  have x14 := (h13.msg hm hv).1
  obtain ⟨V14, hV14⟩ : ∃ W, W = gh_pa V13 (v + 1) (Int32.ofNat 15) (lv V0 a0 288 6 0) := ⟨_, rfl⟩
  rw [← hV14] at h14
  have h14 : rL v i ty 294 V0 B0 V14 B14 := h14
  obtain ⟨B15, g15, h15⟩ := lg hm hv h14 22 8 0 (by decide) (by decide) (by decide) (by decide) (by decide) (by decide)
  have g15 : f_X9_go B14 22 8 0 = some B15 := g15
  have x15 := (h14.msg hm hv).1
  obtain ⟨V15, hV15⟩ : ∃ W, W = gh_pa V14 (v + 1) (Int32.ofNat 22) (lv V0 a0 294 8 0) := ⟨_, rfl⟩
  rw [← hV15] at h15
  have h15 : rL v i ty 302 V0 B0 V15 B15 := h15
  obtain ⟨V16, B16, d16, g16, h16⟩ := lw hs hm hv hv9 h15 2 20 (by decide) rfl (by decide)
  have g16 : f_X9_words B15 2 = some B16 := g16
  have h16 : rL v i ty 422 V0 B0 V16 B16 := h16
  obtain ⟨B17, g17, h17⟩ := ls hm hv h16 2
  have g17 : f_X9_skip B16 2 = some B17 := g17
  have h17 : rL v i ty 424 V0 B0 V16 B17 := h17
  refine ⟨_, B17, ?_, ?_, (h17.1.pa (by simp)).pa (by simp), h17.2.1, h17.2.2.1, h17.done⟩
  · have hw : sv_sta[4]? = some ("SeaReceiver$Vessel", "OF_5", ([-1, 2, 16, 30, 30, 42, 31, 120, 17, 8, 18, 9, 19, 9, 20, 6, 21, 6, -1, 4, 12, 4, 13, 5, 14, 5, 15, 6, 22, 8, 32, 120, -1, 2] : List Int32)) := rfl
    have hly : f_X7_layoutOf T V0 ty = some (4, V0) := by
      rw [hty]; rfl
    unfold f_X7_learn
    rw [hly, Option.bind_some]
    show f_X7_learn_12 T v (a0 + 18) (sv_fu - 18 + 18) V0 ty 4 (Int32.ofNat 38) (Int32.ofNat (2 * 0)) = _
    rw [ln_skip (k := 2) (pos := 38) (e := 0) hw (by decide) (by decide) (by decide) (by decide), ln_go (V0 := V0) (wh := 16) (k := 30) (sg := 0) (pos := 40) (e := 1) hs hw (by decide) (by decide) (by decide) (by decide) (by decide) (by decide) (by decide) (by decide) hr hl (fun _ => rfl) x2, ← hV2, ln_text (t := 0) (k := 7) (kk := 42) (pos := 70) (e := 2) hw (by decide) (by decide) (by decide) (by decide) (by decide) (by decide), d3, Option.bind_some, ln_text (t := 1) (k := 20) (kk := 120) (pos := 112) (e := 3) hw (by decide) (by decide) (by decide) (by decide) (by decide) (by decide), d4, Option.bind_some, ln_go (V0 := V0) (wh := 17) (k := 8) (sg := 0) (pos := 232) (e := 4) hs hw (by decide) (by decide) (by decide) (by decide) (by decide) (by decide) (by decide) (by decide) hr hl (fun _ => rfl) x5, ← hV5, ln_go (V0 := V0) (wh := 18) (k := 9) (sg := 0) (pos := 240) (e := 5) hs hw (by decide) (by decide) (by decide) (by decide) (by decide) (by decide) (by decide) (by decide) hr hl (fun _ => rfl) x6, ← hV6, ln_go (V0 := V0) (wh := 19) (k := 9) (sg := 0) (pos := 249) (e := 6) hs hw (by decide) (by decide) (by decide) (by decide) (by decide) (by decide) (by decide) (by decide) hr hl (fun _ => rfl) x7, ← hV7, ln_go (V0 := V0) (wh := 20) (k := 6) (sg := 0) (pos := 258) (e := 7) hs hw (by decide) (by decide) (by decide) (by decide) (by decide) (by decide) (by decide) (by decide) hr hl (fun _ => rfl) x8, ← hV8, ln_go (V0 := V0) (wh := 21) (k := 6) (sg := 0) (pos := 264) (e := 8) hs hw (by decide) (by decide) (by decide) (by decide) (by decide) (by decide) (by decide) (by decide) hr hl (fun _ => rfl) x9, ← hV9, ln_skip (k := 4) (pos := 270) (e := 9) hw (by decide) (by decide) (by decide) (by decide), ln_go (V0 := V0) (wh := 12) (k := 4) (sg := 0) (pos := 274) (e := 10) hs hw (by decide) (by decide) (by decide) (by decide) (by decide) (by decide) (by decide) (by decide) hr hl (fun _ => rfl) x11, ← hV11, ln_go (V0 := V0) (wh := 13) (k := 5) (sg := 0) (pos := 278) (e := 11) hs hw (by decide) (by decide) (by decide) (by decide) (by decide) (by decide) (by decide) (by decide) hr hl (fun _ => rfl) x12, ← hV12, ln_go (V0 := V0) (wh := 14) (k := 5) (sg := 0) (pos := 283) (e := 12) hs hw (by decide) (by decide) (by decide) (by decide) (by decide) (by decide) (by decide) (by decide) hr hl (fun _ => rfl) x13, ← hV13, ln_go (V0 := V0) (wh := 15) (k := 6) (sg := 0) (pos := 288) (e := 13) hs hw (by decide) (by decide) (by decide) (by decide) (by decide) (by decide) (by decide) (by decide) hr hl (fun _ => rfl) x14, ← hV14, ln_go (V0 := V0) (wh := 22) (k := 8) (sg := 0) (pos := 294) (e := 14) hs hw (by decide) (by decide) (by decide) (by decide) (by decide) (by decide) (by decide) (by decide) hr hl (fun _ => rfl) x15, ← hV15, ln_text (t := 2) (k := 20) (kk := 120) (pos := 302) (e := 15) hw (by decide) (by decide) (by decide) (by decide) (by decide) (by decide), d16, Option.bind_some, ln_skip (k := 2) (pos := 422) (e := 16) hw (by decide) (by decide) (by decide) (by decide), ln_end (e := 17) hw (by decide) (by decide) (by decide) hr hl]
  · unfold f_X9_reports f_X9_where f_X9_way f_X9_still
    rw [hty, if_pos (by decide), if_neg (by decide), if_neg (by decide), ← hB]
    simp only [g1, g2, g3, g4, g5, g6, g7, g8, g9, g10, g11, g12, g13, g14, g15, g16, g17, Option.bind_some]
set_option maxHeartbeats 2000000 in
theorem learn_18 (hs : sh a0 T) (hm : rLm a0 168 i V0 B0) (hv : a0 + 24 ≤ v) (hr : T.2.2.1 0 v = some (v + 1)) (hl : T.2.2.2.1 (v + 1) = 24) (hv9 : T.2.2.1 1 v = some (v + 2) ∧ T.2.2.1 2 v = some (v + 3) ∧ T.2.2.2.1 (v + 2) = 3 ∧ T.2.2.2.1 (v + 3) = 60) (hty : ty = 18) (hB : B0 = md_pf (md_pf B 34 (Int32.ofNat i)) 32 38) (h : rL v i ty 38 V0 B0 V0 B0) : ∃ V' B', f_X7_learn T V0 v ty (a0 + 18) = some V' ∧ f_X9_reports B (Int32.ofNat i) ty = some B' ∧ ch [] [v + 1, v + 2, v + 3] V0 V' ∧ cb [32] [29, 30, 31] B0 B' ∧ rLf i B0 B' ∧ rV V' v B' i := by
  obtain ⟨B1, g1, h1⟩ := ls hm hv h 8
  have g1 : f_X9_skip B0 8 = some B1 := g1
  have h1 : rL v i ty 46 V0 B0 V0 B1 := h1
  obtain ⟨B2, g2, h2⟩ := lg hm hv h1 4 10 0 (by decide) (by decide) (by decide) (by decide) (by decide) (by decide)
  have g2 : f_X9_go B1 4 10 0 = some B2 := g2
  have x2 := (h1.msg hm hv).1
  obtain ⟨V2, hV2⟩ : ∃ W, W = gh_pa V0 (v + 1) (Int32.ofNat 4) (lv V0 a0 46 10 0) := ⟨_, rfl⟩
  rw [← hV2] at h2
  have h2 : rL v i ty 56 V0 B0 V2 B2 := h2
  obtain ⟨B3, g3, h3⟩ := lg hm hv h2 5 1 0 (by decide) (by decide) (by decide) (by decide) (by decide) (by decide)
  have g3 : f_X9_go B2 5 1 0 = some B3 := g3
  have x3 := (h2.msg hm hv).1
  obtain ⟨V3, hV3⟩ : ∃ W, W = gh_pa V2 (v + 1) (Int32.ofNat 5) (lv V0 a0 56 1 0) := ⟨_, rfl⟩
  rw [← hV3] at h3
  have h3 : rL v i ty 57 V0 B0 V3 B3 := h3
  obtain ⟨B4, g4, h4⟩ := lg hm hv h3 6 28 1 (by decide) (by decide) (by decide) (by decide) (by decide) (by decide)
  have g4 : f_X9_go B3 6 28 1 = some B4 := g4
  have x4 := (h3.msg hm hv).1
  obtain ⟨V4, hV4⟩ : ∃ W, W = gh_pa V3 (v + 1) (Int32.ofNat 6) (lv V0 a0 57 28 1) := ⟨_, rfl⟩
  rw [← hV4] at h4
  have h4 : rL v i ty 85 V0 B0 V4 B4 := h4
  obtain ⟨B5, g5, h5⟩ := lg hm hv h4 7 27 1 (by decide) (by decide) (by decide) (by decide) (by decide) (by decide)
  have g5 : f_X9_go B4 7 27 1 = some B5 := g5
  have x5 := (h4.msg hm hv).1
  obtain ⟨V5, hV5⟩ : ∃ W, W = gh_pa V4 (v + 1) (Int32.ofNat 7) (lv V0 a0 85 27 1) := ⟨_, rfl⟩
  rw [← hV5] at h5
  have h5 : rL v i ty 112 V0 B0 V5 B5 := h5
  obtain ⟨B6, g6, h6⟩ := lg hm hv h5 8 12 0 (by decide) (by decide) (by decide) (by decide) (by decide) (by decide)
  have g6 : f_X9_go B5 8 12 0 = some B6 := g6
  have x6 := (h5.msg hm hv).1
  obtain ⟨V6, hV6⟩ : ∃ W, W = gh_pa V5 (v + 1) (Int32.ofNat 8) (lv V0 a0 112 12 0) := ⟨_, rfl⟩
  rw [← hV6] at h6
  have h6 : rL v i ty 124 V0 B0 V6 B6 := h6
  obtain ⟨B7, g7, h7⟩ := lg hm hv h6 9 9 0 (by decide) (by decide) (by decide) (by decide) (by decide) (by decide)
  have g7 : f_X9_go B6 9 9 0 = some B7 := g7
  have x7 := (h6.msg hm hv).1
  obtain ⟨V7, hV7⟩ : ∃ W, W = gh_pa V6 (v + 1) (Int32.ofNat 9) (lv V0 a0 124 9 0) := ⟨_, rfl⟩
  rw [← hV7] at h7
  have h7 : rL v i ty 133 V0 B0 V7 B7 := h7
  obtain ⟨B8, g8, h8⟩ := lg hm hv h7 10 6 0 (by decide) (by decide) (by decide) (by decide) (by decide) (by decide)
  have g8 : f_X9_go B7 10 6 0 = some B8 := g8
  have x8 := (h7.msg hm hv).1
  obtain ⟨V8, hV8⟩ : ∃ W, W = gh_pa V7 (v + 1) (Int32.ofNat 10) (lv V0 a0 133 6 0) := ⟨_, rfl⟩
  rw [← hV8] at h8
  have h8 : rL v i ty 139 V0 B0 V8 B8 := h8
  obtain ⟨B9, g9, h9⟩ := ls hm hv h8 29
  have g9 : f_X9_skip B8 29 = some B9 := g9
  have h9 : rL v i ty 168 V0 B0 V8 B9 := h9
  refine ⟨_, B9, ?_, ?_, (h9.1.pa (by simp)).pa (by simp), h9.2.1, h9.2.2.1, h9.done⟩
  · have hw : sv_sta[5]? = some ("SeaReceiver$Vessel", "OF_18", ([-1, 8, 4, 10, 5, 1, 6, 28, 7, 27, 8, 12, 9, 9, 10, 6, -1, 29] : List Int32)) := rfl
    have hly : f_X7_layoutOf T V0 ty = some (5, V0) := by
      rw [hty]; rfl
    unfold f_X7_learn
    rw [hly, Option.bind_some]
    show f_X7_learn_12 T v (a0 + 18) (sv_fu - 10 + 10) V0 ty 5 (Int32.ofNat 38) (Int32.ofNat (2 * 0)) = _
    rw [ln_skip (k := 8) (pos := 38) (e := 0) hw (by decide) (by decide) (by decide) (by decide), ln_go (V0 := V0) (wh := 4) (k := 10) (sg := 0) (pos := 46) (e := 1) hs hw (by decide) (by decide) (by decide) (by decide) (by decide) (by decide) (by decide) (by decide) hr hl (fun _ => rfl) x2, ← hV2, ln_go (V0 := V0) (wh := 5) (k := 1) (sg := 0) (pos := 56) (e := 2) hs hw (by decide) (by decide) (by decide) (by decide) (by decide) (by decide) (by decide) (by decide) hr hl (fun _ => rfl) x3, ← hV3, ln_go (V0 := V0) (wh := 6) (k := 28) (sg := 1) (pos := 57) (e := 3) hs hw (by decide) (by decide) (by decide) (by decide) (by decide) (by decide) (by decide) (by decide) hr hl (fun _ => rfl) x4, ← hV4, ln_go (V0 := V0) (wh := 7) (k := 27) (sg := 1) (pos := 85) (e := 4) hs hw (by decide) (by decide) (by decide) (by decide) (by decide) (by decide) (by decide) (by decide) hr hl (fun _ => rfl) x5, ← hV5, ln_go (V0 := V0) (wh := 8) (k := 12) (sg := 0) (pos := 112) (e := 5) hs hw (by decide) (by decide) (by decide) (by decide) (by decide) (by decide) (by decide) (by decide) hr hl (fun _ => rfl) x6, ← hV6, ln_go (V0 := V0) (wh := 9) (k := 9) (sg := 0) (pos := 124) (e := 6) hs hw (by decide) (by decide) (by decide) (by decide) (by decide) (by decide) (by decide) (by decide) hr hl (fun _ => rfl) x7, ← hV7, ln_go (V0 := V0) (wh := 10) (k := 6) (sg := 0) (pos := 133) (e := 7) hs hw (by decide) (by decide) (by decide) (by decide) (by decide) (by decide) (by decide) (by decide) hr hl (fun _ => rfl) x8, ← hV8, ln_skip (k := 29) (pos := 139) (e := 8) hw (by decide) (by decide) (by decide) (by decide), ln_end (e := 9) hw (by decide) (by decide) (by decide) hr hl]
  · unfold f_X9_reports f_X9_where f_X9_way f_X9_still
    rw [hty, if_pos (by decide), if_neg (by decide), if_pos (by decide), ← hB]
    simp only [g1, g2, g3, g4, g5, g6, g7, g8, g9, Option.bind_some]
end LE
