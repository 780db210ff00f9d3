/-! ===== PURE: texts, signs written ===== -/
theorem len_t (t : List Int32) : f_J0_length_8abf5 t = some (Int32.ofNat t.length) := by
  have h : f_J0_length_8abf5 t = some ((Int32.ofNat t.length) >>> Int32.ofNat 0) := rfl
  rw [h]
  congr 1
  apply Int32.toBitVec_inj.mp
  rw [sar32 _ (by decide)]
  simp
theorem ch_small : ∀ c, c < 128 → (((Int32.ofNat c) &&& 255).toUInt32 % 65536).toInt32 = Int32.ofNat c := by decide +kernel
theorem cha_t (l : List Nat) (hl : l.length < 1000) (h : ∀ c ∈ l, c < 128) (j : Nat) (hj : j < l.length) : f_J0_charAt_5068e (l.map Int32.ofNat) (Int32.ofNat j) = some (Int32.ofNat l[j]) := by
  unfold f_J0_charAt_5068e
  have h1 : sv_inc (Int32.ofNat j) (l.map Int32.ofNat) = true := by
    simp only [sv_inc, List.length_map, Bool.and_eq_true, decide_eq_true_eq]
    exact ⟨nu_inb (by omega) hj, (nu_lt (by omega) (by omega)).mpr hj⟩
  rw [sv_g_t h1]
  congr 1
  unfold sv_ch
  rw [nu_nat (by omega)]
  have h2 : (l.map Int32.ofNat).getD j 0 = Int32.ofNat l[j] := by
    rw [List.getD_eq_getElem?_getD, List.getElem?_map, List.getElem?_eq_getElem hj]
    rfl
  rw [h2]
  exact ch_small _ (h _ (List.getElem_mem hj))
theorem bind_some_r {α : Type} (o : Option α) : o.bind some = o := by cases o <;> rfl
def adds (T : gh_T) (a : Nat) : List Nat → gh_V → Option gh_V
  | [], V => some V
  | c :: l, V => (f_X6_add T V a (Int32.ofNat c)).bind (adds T a l)
def wrs : List Nat → md_B → Option md_B
  | [], B => some B
  | c :: l, B => (f_X9_write B (Int32.ofNat c)).bind (wrs l)
theorem addText_l {T : gh_T} {a : Nat} (l : List Nat) (hl : l.length < 1000) (h : ∀ c ∈ l, c < 128) : ∀ (m j n : Nat) (V : gh_V), j + m = l.length → m < n → f_X6_addText_2 T a (l.map Int32.ofNat) n V (Int32.ofNat j) = adds T a (l.drop j) V := by
  intro m
  induction m with
  | zero =>
    intro j n V hj hn
    cases n with
    | zero => omega
    | succ n =>
      unfold f_X6_addText_2
      rw [len_t, Option.bind_some, List.length_map, if_pos ((nu_le (by omega) (by omega)).mpr (by omega)), List.drop_eq_nil_of_le (by omega)]
      rfl
  | succ m ih =>
    intro j n V hj hn
    cases n with
    | zero => omega
    | succ n =>
      unfold f_X6_addText_2
      rw [len_t, Option.bind_some, List.length_map, if_neg (mt (nu_le (by omega) (by omega)).mp (by omega)), cha_t l hl h j (by omega), Option.bind_some, nu_s, List.drop_eq_getElem_cons (show j < l.length by omega)]
      unfold adds
      congr 1
      funext q
      exact ih (j + 1) n q (by omega) (by omega)
theorem addText_t {T : gh_T} {a : Nat} {V : gh_V} (l : List Nat) (hl : l.length < 1000) (h : ∀ c ∈ l, c < 128) : f_X6_addText T V a (l.map Int32.ofNat) = adds T a l V := by
  have := addText_l (T := T) (a := a) l hl h l.length 0 sv_fu V (by omega) (fu_lt (by omega))
  rwa [List.drop_zero] at this
theorem writeAll_l (l : List Nat) (hl : l.length < 1000) (h : ∀ c ∈ l, c < 128) : ∀ (m j n : Nat) (B : md_B), j + m = l.length → m < n → f_X9_writeAll_2 (l.map Int32.ofNat) n B (Int32.ofNat j) = wrs (l.drop j) B := by
  intro m
  induction m with
  | zero =>
    intro j n V hj hn
    cases n with
    | zero => omega
    | succ n =>
      unfold f_X9_writeAll_2
      rw [len_t, Option.bind_some, List.length_map, if_pos ((nu_le (by omega) (by omega)).mpr (by omega)), List.drop_eq_nil_of_le (by omega)]
      rfl
  | succ m ih =>
    intro j n V hj hn
    cases n with
    | zero => omega
    | succ n =>
      unfold f_X9_writeAll_2
      rw [len_t, Option.bind_some, List.length_map, if_neg (mt (nu_le (by omega) (by omega)).mp (by omega)), cha_t l hl h j (by omega), Option.bind_some, nu_s, List.drop_eq_getElem_cons (show j < l.length by omega)]
      unfold wrs
      congr 1
      funext q
      exact ih (j + 1) n q (by omega) (by omega)
theorem writeAll_t {B : md_B} (l : List Nat) (hl : l.length < 1000) (h : ∀ c ∈ l, c < 128) : f_X9_writeAll B (l.map Int32.ofNat) = wrs l B := by
  have := writeAll_l l hl h l.length 0 sv_fu B (by omega) (fu_lt (by omega))
  rwa [List.drop_zero] at this
theorem adds_app {T : gh_T} {a : Nat} : ∀ (l l' : List Nat) (V : gh_V), adds T a (l ++ l') V = (adds T a l V).bind (adds T a l') := by
  intro l
  induction l with
  | nil => intro l' V; rfl
  | cons c l ih =>
    intro l' V
    show (f_X6_add T V a (Int32.ofNat c)).bind (adds T a (l ++ l')) = ((f_X6_add T V a (Int32.ofNat c)).bind (adds T a l)).bind (adds T a l')
    rw [Option.bind_assoc]
    congr 1
    funext q
    exact ih l' q
theorem wrs_app : ∀ (l l' : List Nat) (B : md_B), wrs (l ++ l') B = (wrs l B).bind (wrs l') := by
  intro l
  induction l with
  | nil => intro l' V; rfl
  | cons c l ih =>
    intro l' V
    show (f_X9_write V (Int32.ofNat c)).bind (wrs (l ++ l')) = ((f_X9_write V (Int32.ofNat c)).bind (wrs l)).bind (wrs l')
    rw [Option.bind_assoc]
    congr 1
    funext q
    exact ih l' q
def xs (g : Nat → Int32) (p : Nat) : Nat → Int32
  | 0 => 0
  | m + 1 => xs g p m ^^^ g (p + m)
theorem xs_succ (g : Nat → Int32) (p m : Nat) : xs g p (m + 1) = xs g p m ^^^ g (p + m) := rfl
theorem xs_eq {g g' : Nat → Int32} {p : Nat} : ∀ m, (∀ i, i < m → g (p + i) = g' (p + i)) → xs g p m = xs g' p m := by
  intro m
  induction m with
  | zero => intro _; rfl
  | succ m ih =>
    intro h
    unfold xs
    rw [ih (fun i hi => h i (by omega)), h m (by omega)]
theorem xor_nat (a b : Nat) : Int32.ofNat a ^^^ Int32.ofNat b = Int32.ofNat (a ^^^ b) := by
  apply Int32.toBitVec_inj.mp
  show BitVec.ofNat 32 a ^^^ BitVec.ofNat 32 b = BitVec.ofNat 32 (a ^^^ b)
  apply BitVec.eq_of_toNat_eq
  rw [BitVec.toNat_xor, BitVec.toNat_ofNat, BitVec.toNat_ofNat, BitVec.toNat_ofNat, Nat.xor_mod_two_pow]
theorem xs_lt {g : Nat → Int32} {p : Nat} : ∀ m, (∀ i, i < m → ∃ c : Nat, c < 128 ∧ g (p + i) = Int32.ofNat c) → ∃ c : Nat, c < 128 ∧ xs g p m = Int32.ofNat c := by
  intro m
  induction m with
  | zero => intro _; exact ⟨0, by decide, rfl⟩
  | succ m ih =>
    intro h
    obtain ⟨c, c1, c2⟩ := ih (fun i hi => h i (by omega))
    obtain ⟨d, d1, d2⟩ := h m (by omega)
    refine ⟨c ^^^ d, Nat.xor_lt_two_pow (n := 7) c1 d1, ?_⟩
    unfold xs
    rw [c2, d2, xor_nat]
/-- signs sent: k of them, the sentence under way begins at s -/
def rO (a0 s k : Nat) (V : gh_V) (B : md_B) : Prop := k ≤ 115 ∧ V.1 1 (a0 + 4) = Int32.ofNat k ∧ B.1 4 = Int32.ofNat k ∧ (∀ i, i < k → ∃ c : Nat, c < 128 ∧ V.2 (a0 + 5) i = Int32.ofNat c ∧ B.2 3 i = Int32.ofNat c) ∧ (s < k → B.1 37 = xs (B.2 3) (s + 1) (k - (s + 1)))
section WR
variable {a0 : Nat} {T : gh_T} {V : gh_V} {B : md_B} {s k : Nat}
theorem w1 (hs : sh a0 T) (h : rO a0 s k V B) (c : Nat) (hc : c < 128) (hk : k < 115) (hsk : s ≤ k) (h33 : c = 33 ↔ k = s) : ∃ V' B', f_X6_add T V (a0 + 4) (Int32.ofNat c) = some V' ∧ f_X9_write B (Int32.ofNat c) = some B' ∧ ch [(1, a0 + 4)] [a0 + 5] V V' ∧ cb [4, 37] [3] B B' ∧ rO a0 s (k + 1) V' B' := by
  obtain ⟨h1, h2, h3, h4, h5⟩ := h
  have hw : ∃ B', f_X9_write B (Int32.ofNat c) = some B' ∧ cb [4, 37] [3] B B' ∧ B'.1 4 = Int32.ofNat (k + 1) ∧ B'.2 3 = upd (B.2 3) k (Int32.ofNat c) ∧ B'.1 37 = if c = 33 then 0 else B.1 37 ^^^ Int32.ofNat c := by
    unfold f_X9_write f_X9_write_37
    rw [h3, nu_inb (by omega) (by omega), sv_g_t rfl, ba_1, h3, nu_s, bf_n (by decide), ba_1]
    by_cases e : c = 33
    · rw [if_pos ((nl_eq 33 33 rfl (by decide) (by omega)).mpr e)]
      refine ⟨_, rfl, ((cb.rf.pa (by simp)).pf (by simp)).pf (by simp), by rw [bf_n (by decide), bf_1], ?_, by rw [bf_1, if_pos e]⟩
      rw [bf_2, bf_2, ba_2, nu_nat (by omega)]
    · rw [if_neg (mt (nl_eq 33 33 rfl (by decide) (by omega)).mp e)]
      refine ⟨_, rfl, ((cb.rf.pa (by simp)).pf (by simp)).pf (by simp), by rw [bf_n (by decide), bf_1], ?_, by rw [bf_1, if_neg e]⟩
      rw [bf_2, bf_2, ba_2, nu_nat (by omega)]
  obtain ⟨B', w1, w2, w3, w4, w5⟩ := hw
  refine ⟨_, B', sr_add hs.r0_4 hs.l5 (by decide) h2 hk, w1, (ch.rf.pa (by simp)).pf (by simp), w2, by omega, pf_1, w3, fun i hi => ?_, fun _ => ?_⟩
  · rw [pf_2, pa_2, nu_nat (by omega), w4, pb_small hc]
    unfold upd
    by_cases e : i = k
    · rw [if_pos e, if_pos e]
      exact ⟨c, hc, rfl, rfl⟩
    · rw [if_neg e, if_neg e]
      exact h4 i (by omega)
  · rw [w5, w4]
    by_cases e : c = 33
    · have : k = s := h33.mp e
      subst this
      rw [if_pos e, Nat.sub_self]
      rfl
    · have hlt : s < k := by
        have := mt h33.mpr e
        omega
      rw [if_neg e, h5 hlt, show k + 1 - (s + 1) = (k - (s + 1)) + 1 by omega, xs_succ]
      rw [show s + 1 + (k - (s + 1)) = k by omega]
      have e1 : upd (B.2 3) k (Int32.ofNat c) k = Int32.ofNat c := by simp [upd]
      rw [e1]
      congr 1
      apply xs_eq
      intro i hi
      simp [upd, show s + 1 + i ≠ k by omega]
theorem wl (hs : sh a0 T) : ∀ (l : List Nat) (k : Nat) (V : gh_V) (B : md_B), rO a0 s k V B → (∀ c ∈ l, c < 128 ∧ c ≠ 33) → s < k → k + l.length ≤ 115 → ∃ V' B', adds T (a0 + 4) l V = some V' ∧ wrs l B = some B' ∧ ch [(1, a0 + 4)] [a0 + 5] V V' ∧ cb [4, 37] [3] B B' ∧ rO a0 s (k + l.length) V' B' := by
  intro l
  induction l with
  | nil => intro k V B h _ _ _; exact ⟨V, B, rfl, rfl, ch.rf, cb.rf, h⟩
  | cons c l ih =>
    intro k V B h hc hk hl
    rw [List.length_cons] at hl
    obtain ⟨V1, B1, e1, e2, e3, e4, e5⟩ := w1 hs h c (hc c List.mem_cons_self).1 (by omega) (by omega) ⟨fun e => absurd e (hc c List.mem_cons_self).2, fun e => by omega⟩
    obtain ⟨V2, B2, g1, g2, g3, g4, g5⟩ := ih (k + 1) V1 B1 e5 (fun d hd => hc d (List.mem_cons_of_mem _ hd)) (by omega) (by omega)
    refine ⟨V2, B2, ?_, ?_, e3.trans g3, e4.trans g4, by rw [List.length_cons, show k + (l.length + 1) = k + 1 + l.length by omega]; exact g5⟩
    · unfold adds
      rw [e1]
      exact g1
    · unfold wrs
      rw [e2]
      exact g2
theorem wl0 (hs : sh a0 T) (l : List Nat) (h : rO a0 s s V B) (hc : ∀ c ∈ l, c < 128 ∧ c ≠ 33) (hl : s + 1 + l.length ≤ 115) : ∃ V' B', adds T (a0 + 4) (33 :: l) V = some V' ∧ wrs (33 :: l) B = some B' ∧ ch [(1, a0 + 4)] [a0 + 5] V V' ∧ cb [4, 37] [3] B B' ∧ rO a0 s (s + 1 + l.length) V' B' := by
  obtain ⟨V1, B1, e1, e2, e3, e4, e5⟩ := w1 hs h 33 (by decide) (by omega) (by omega) (by simp)
  obtain ⟨V2, B2, g1, g2, g3, g4, g5⟩ := wl hs l (s + 1) V1 B1 e5 hc (by omega) (by omega)
  refine ⟨V2, B2, ?_, ?_, e3.trans g3, e4.trans g4, g5⟩
  · unfold adds
    rw [e1]
    exact g1
  · unfold wrs
    rw [e2]
    exact g2
/-- the end of a sentence: its sum -/
def hx (v : Nat) : Nat := if v < 10 then 48 + v else 55 + v
theorem hx_lt : ∀ v, v < 16 → hx v < 128 ∧ hx v ≠ 33 := by decide
theorem six_hi (V : gh_V) {c : Nat} (hc : c < 128) : f_X8_sixteen T V ((Int32.ofNat c >>> (4 &&& 31)) &&& 15) = some (Int32.ofNat (hx (c / 16)), V) := by
  have h : ∀ c, c < 128 → (if (10 : Int32) ≤ ((Int32.ofNat c >>> (4 &&& 31)) &&& 15) then ((65 : Int32) + ((Int32.ofNat c >>> (4 &&& 31)) &&& 15)) - 10 else (48 : Int32) + ((Int32.ofNat c >>> (4 &&& 31)) &&& 15)) = Int32.ofNat (hx (c / 16)) := by decide +kernel
  rw [← h c hc]
  unfold f_X8_sixteen
  split <;> rfl
theorem six_lo (V : gh_V) {c : Nat} (hc : c < 128) : f_X8_sixteen T V (Int32.ofNat c &&& 15) = some (Int32.ofNat (hx (c % 16)), V) := by
  have h : ∀ c, c < 128 → (if (10 : Int32) ≤ (Int32.ofNat c &&& 15) then ((65 : Int32) + (Int32.ofNat c &&& 15)) - 10 else (48 : Int32) + (Int32.ofNat c &&& 15)) = Int32.ofNat (hx (c % 16)) := by decide +kernel
  rw [← h c hc]
  unfold f_X8_sixteen
  split <;> rfl
theorem hex_hi (B : md_B) {c : Nat} (hc : c < 128) : f_X9_hexOf B (Int32.ofNat c >>> (4 &&& 31)) = some (Int32.ofNat (hx (c / 16)), B) := by
  have h : ∀ c, c < 128 → (if (10 : Int32) ≤ (Int32.ofNat c >>> (4 &&& 31)) then ((65 : Int32) + (Int32.ofNat c >>> (4 &&& 31))) - 10 else (48 : Int32) + (Int32.ofNat c >>> (4 &&& 31))) = Int32.ofNat (hx (c / 16)) := by decide +kernel
  rw [← h c hc]
  unfold f_X9_hexOf
  split <;> rfl
theorem hex_lo (B : md_B) {c : Nat} (hc : c < 128) : f_X9_hexOf B (Int32.ofNat c &&& 15) = some (Int32.ofNat (hx (c % 16)), B) := by
  have h : ∀ c, c < 128 → (if (10 : Int32) ≤ (Int32.ofNat c &&& 15) then ((65 : Int32) + (Int32.ofNat c &&& 15)) - 10 else (48 : Int32) + (Int32.ofNat c &&& 15)) = Int32.ofNat (hx (c % 16)) := by decide +kernel
  rw [← h c hc]
  unfold f_X9_hexOf
  split <;> rfl
theorem close_l (hs : sh a0 T) (h : rO a0 s k V B) : ∀ (m j n : Nat), s + 1 + j + m = k → f_X8_closeSentence_6 T a0 (n + m) V (xs (B.2 3) (s + 1) j) (Int32.ofNat (s + 1 + j)) = f_X8_closeSentence_6 T a0 n V (xs (B.2 3) (s + 1) (j + m)) (Int32.ofNat k) := by
  intro m
  induction m with
  | zero =>
    intro j n hj
    rw [show s + 1 + j = k by omega]
    rfl
  | succ m ih =>
    intro j n hj
    have h0 := h
    obtain ⟨h1, h2, h3, h4, h5⟩ := h
    obtain ⟨c, c1, c2, c3⟩ := h4 (s + 1 + j) (by omega)
    have e : f_X8_closeSentence_6 T a0 (n + (m + 1)) V (xs (B.2 3) (s + 1) j) (Int32.ofNat (s + 1 + j)) = f_X8_closeSentence_6 T a0 (n + m) V (xs (B.2 3) (s + 1) (j + 1)) (Int32.ofNat (s + 1 + (j + 1))) := by
      rw [show n + (m + 1) = (n + m) + 1 by omega]
      conv => lhs; unfold f_X8_closeSentence_6
      unfold f_X6_at
      rw [hs.r2_0, Option.bind_some, h2, if_neg (mt (nu_le (by omega) (by omega)).mp (by omega)), Option.bind_some, if_neg (nu_neg (by omega)), h2, if_neg (mt (nu_le (by omega) (by omega)).mp (by omega)), hs.r0_4, Option.bind_some, hs.l5, Option.bind_some, hs.l5, if_neg (mt (nu_le (by omega) (by omega)).mp (by omega)), nu_inb (by omega) (by omega), sv_g_t rfl, nu_nat (by omega), c2, and255_small (by omega), Option.bind_some, nu_s]
      have : xs (B.2 3) (s + 1) (j + 1) = xs (B.2 3) (s + 1) j ^^^ Int32.ofNat c := by
        rw [← c3]
        rfl
      rw [this]
      rfl
    rw [e, ih (j + 1) n (by omega), show j + 1 + m = j + (m + 1) by omega]
end WR
/-! ===== PURE: a sentence sent ===== -/
def rdn (b : Nat → Bool) (p : Nat) : Nat → Nat
  | 0 => 0
  | n + 1 => 2 * rdn b p n + (if b (p + n) = true then 1 else 0)
theorem rdn_lt (b : Nat → Bool) (p : Nat) : ∀ n, rdn b p n < 2 ^ n := by
  intro n
  induction n with
  | zero => exact Nat.one_pos
  | succ n ih =>
    unfold rdn
    rw [Nat.pow_succ]
    split <;> omega
theorem rdn_eq {b c : Nat → Bool} {p q : Nat} : ∀ (n : Nat), (∀ i, i < n → b (p + i) = c (q + i)) → rdn b p n = rdn c q n := by
  intro n
  induction n with
  | zero => intro h; rfl
  | succ n ih =>
    intro h
    unfold rdn
    rw [ih (fun i hi => h i (by omega)), h n (by omega)]
theorem sl0 : ∀ x, x < 32 → (Int32.ofNat x <<< (1 &&& 31)) ||| 0 = Int32.ofNat (2 * x) := by decide +kernel
theorem sl1 : ∀ x, x < 32 → (Int32.ofNat x <<< (1 &&& 31)) ||| 1 = Int32.ofNat (2 * x + 1) := by decide +kernel
theorem rd_rdn (b : Nat → Bool) (p : Nat) : ∀ n, n ≤ 6 → rd b p n = Int32.ofNat (rdn b p n) := by
  intro n
  induction n with
  | zero => intro _; rfl
  | succ n ih =>
    intro hn
    have h1 : rdn b p n < 32 := Nat.lt_of_lt_of_le (rdn_lt b p n) (Nat.pow_le_pow_right (by decide) (by omega : n ≤ 5))
    unfold rd rdn
    rw [ih (by omega)]
    by_cases h : b (p + n) = true
    · rw [if_pos h, if_pos h]
      exact sl1 _ h1
    · rw [if_neg h, if_neg h]
      exact sl0 _ h1
/-- the sign of six bits -/
def sg6 (v : Nat) : Nat := if v < 40 then v + 48 else v + 56
theorem sg6_lt : ∀ v, v < 64 → sg6 v < 128 ∧ sg6 v ≠ 33 := by decide
theorem sx_l {k66 : md_B → Int32 → Int32 → Int32 → Int32 → Option md_B} {B : md_B} {p n i : Nat} {x6 : Int32} (hp : p + n ≤ 424) (hi : i < 100) : ∀ (m j f : Nat), j + m = 6 → m < f → f_X9_sentence_83 k66 f B (Int32.ofNat p) (Int32.ofNat n) x6 (Int32.ofNat i) (Int32.ofNat (rdn (fun t => decide (t < p + n) && gb (B.2 35) t) (p + 6 * i) j)) (Int32.ofNat (6 * i + j)) = f_X9_sentence_155 k66 B (Int32.ofNat p) (Int32.ofNat n) x6 (Int32.ofNat i) (Int32.ofNat (sg6 (rdn (fun t => decide (t < p + n) && gb (B.2 35) t) (p + 6 * i) 6))) := by
  intro m
  induction m with
  | zero =>
    intro j f hj hf
    cases f with
    | zero => omega
    | succ f =>
      have : j = 6 := by omega
      subst this
      have hb := rdn_lt (fun t => decide (t < p + n) && gb (B.2 35) t) (p + 6 * i) 6
      unfold f_X9_sentence_83
      have e6 : 6 * Int32.ofNat i + 6 = Int32.ofNat (6 * i + 6) := by
        rw [show (6 : Int32) = Int32.ofNat 6 from rfl, nu_mul, nu_add]
      rw [e6, if_pos ((nu_le (by omega) (by omega)).mpr (by omega))]
      generalize rdn (fun t => decide (t < p + n) && gb (B.2 35) t) (p + 6 * i) 6 = v at hb
      by_cases h40 : 40 ≤ v
      · rw [if_pos ((nl_le 40 40 rfl (by decide) (by omega)).mpr h40), show (56 : Int32) = Int32.ofNat 56 from rfl, nu_add]
        unfold sg6
        rw [if_neg (by omega)]
      · rw [if_neg (mt (nl_le 40 40 rfl (by decide) (by omega)).mp h40), show (48 : Int32) = Int32.ofNat 48 from rfl, nu_add]
        unfold sg6
        rw [if_pos (by omega)]
  | succ m ih =>
    intro j f hj hf
    cases f with
    | zero => omega
    | succ f =>
      have hb : rdn (fun t => decide (t < p + n) && gb (B.2 35) t) (p + 6 * i) j < 2 ^ 6 := Nat.lt_of_lt_of_le (rdn_lt _ _ j) (Nat.pow_le_pow_right (by decide) (by omega))
      have ih' := ih (j + 1) f (by omega) (by omega)
      have e6 : 6 * Int32.ofNat i + 6 = Int32.ofNat (6 * i + 6) := by
        rw [show (6 : Int32) = Int32.ofNat 6 from rfl, nu_mul, nu_add]
      have er : rdn (fun t => decide (t < p + n) && gb (B.2 35) t) (p + 6 * i) (j + 1) = 2 * rdn (fun t => decide (t < p + n) && gb (B.2 35) t) (p + 6 * i) j + (if (decide (p + 6 * i + j < p + n) && gb (B.2 35) (p + 6 * i + j)) = true then 1 else 0) := rfl
      rw [er] at ih'
      unfold f_X9_sentence_83 f_X9_sentence_124 f_X9_sentence_125
      rw [e6, if_neg (mt (nu_le (by omega) (by omega)).mp (by omega)), show (2 : Int32) = Int32.ofNat 2 from rfl, nu_mul, nu_s]
      rw [← ih']
      by_cases c1 : n ≤ 6 * i + j
      · rw [if_pos ((nu_le (by omega) (by omega)).mpr c1), if_neg (by simp; omega), show (0 : Int32) = Int32.ofNat 0 from rfl, nu_add]
        rfl
      · rw [if_neg (mt (nu_le (by omega) (by omega)).mp c1), nu_add, nu_inb (by omega) (by omega), sv_g_t rfl, nu_nat (by omega), show p + 6 * i + j = p + (6 * i + j) by omega, decide_eq_true (show p + (6 * i + j) < p + n by omega), Bool.true_and]
        unfold gb
        by_cases c2 : B.2 35 (p + (6 * i + j)) = 0
        · rw [if_pos c2, if_neg (by simp [c2]), show (0 : Int32) = Int32.ofNat 0 from rfl, nu_add]
          rfl
        · rw [if_neg c2, if_pos (by simp [c2]), show (1 : Int32) = Int32.ofNat 1 from rfl, nu_add]
          rfl
section SE
variable {a0 : Nat} {T : gh_T} {V : gh_V} {B : md_B} {s k : Nat}
theorem six_l {w g : Nat → Int32} {frm to n : Nat} {t1 : List Int32} {x5 x6 : Int32} (hs : sh a0 T) (hto : to ≤ 71) (hft : frm ≤ to) (hn : 6 * frm + n ≤ 424) (hx6 : x6 = Int32.ofNat (to - frm)) (hb : ∀ j, j < 6 * (to - frm) → wb w (6 * frm + j) = (decide (6 * frm + j < 6 * frm + n) && gb g (6 * frm + j))) : ∀ (m i f f' k : Nat) (V : gh_V) (B : md_B), i + m = to - frm → rO a0 s k V B → s < k → k + m ≤ 115 → V.2 (a0 + 23) = w → B.2 35 = g → ∃ V' B', f_X8_writeSentence_57 T a0 t1 (f + m) V (Int32.ofNat to) x5 (Int32.ofNat (frm + i)) = f_X8_writeSentence_57 T a0 t1 f V' (Int32.ofNat to) x5 (Int32.ofNat to) ∧ f_X9_sentence_66 (f' + m) B (Int32.ofNat (6 * frm)) (Int32.ofNat n) x6 (Int32.ofNat i) = f_X9_sentence_66 f' B' (Int32.ofNat (6 * frm)) (Int32.ofNat n) x6 x6 ∧ ch [(1, a0 + 4)] [a0 + 5] V V' ∧ cb [4, 37] [3] B B' ∧ rO a0 s (k + m) V' B' := by
  intro m
  induction m with
  | zero =>
    intro i f f' k V B hi h hk hk2 hw hg
    rw [show frm + i = to by omega, show i = to - frm by omega, ← hx6]
    exact ⟨V, B, rfl, rfl, ch.rf, cb.rf, h⟩
  | succ m ih =>
    intro i f f' k V B hi h hk hk2 hw hg
    have e6 : 6 * Int32.ofNat (frm + i) = Int32.ofNat (6 * (frm + i)) := nu_mul 6 _
    have e6' : 6 * Int32.ofNat i = Int32.ofNat (6 * i) := nu_mul 6 _
    have hr : rdn (wb (V.2 (a0 + 23))) (6 * (frm + i)) 6 = rdn (fun t => decide (t < 6 * frm + n) && gb (B.2 35) t) (6 * frm + 6 * i) 6 := by
      apply rdn_eq
      intro j hj
      rw [hw, hg, show 6 * (frm + i) + j = 6 * frm + (6 * i + j) by omega, show 6 * frm + 6 * i + j = 6 * frm + (6 * i + j) by omega]
      exact hb _ (by omega)
    have hlt := rdn_lt (fun t => decide (t < 6 * frm + n) && gb (B.2 35) t) (6 * frm + 6 * i) 6
    have hsg := sg6_lt _ hlt
    obtain ⟨V1, B1, d1, d2, d3, d4, d5⟩ := w1 hs h _ hsg.1 (by omega) (by omega) ⟨fun e => absurd e hsg.2, fun e => by omega⟩
    obtain ⟨V2, B2, g1, g2, g3, g4, g5⟩ := ih (i + 1) f f' (k + 1) V1 B1 (by omega) d5 (by omega) (by omega) (by rw [d3.2 _ (by simp)]; exact hw) (by rw [d4.2 _ (by simp)]; exact hg)
    refine ⟨V2, B2, ?_, ?_, d3.trans g3, d4.trans g4, by rw [show k + (m + 1) = k + 1 + m by omega]; exact g5⟩
    · rw [← g1, show f + (m + 1) = (f + m) + 1 by omega]
      conv => lhs; unfold f_X8_writeSentence_57
      unfold f_X8_writeSentence_104
      rw [if_neg (mt (nu_le (by omega) (by omega)).mp (by omega)), hs.r9_0, Option.bind_some, e6, show (6 : Int32) = Int32.ofNat 6 from rfl, read_s hs.r1_22 hs.l23 (by decide) (by decide) (by decide) (by omega), Option.bind_some, hs.r2_0, Option.bind_some, rd_rdn _ _ 6 (by decide), hr, nu_s, Nat.add_assoc frm i 1]
      revert d1
      generalize rdn (fun t => decide (t < 6 * frm + n) && gb (B.2 35) t) (6 * frm + 6 * i) 6 = v at hlt
      intro d1
      unfold sg6 at d1
      by_cases h40 : 40 ≤ v
      · rw [if_neg (by omega)] at d1
        rw [if_pos ((nl_le 40 40 rfl (by decide) (by omega)).mpr h40), show (56 : Int32) = Int32.ofNat 56 from rfl, nu_add, d1]
        rfl
      · rw [if_pos (by omega)] at d1
        rw [if_neg (mt (nl_le 40 40 rfl (by decide) (by omega)).mp h40), show (48 : Int32) = Int32.ofNat 48 from rfl, nu_add, d1]
        rfl
    · rw [← g2, show f' + (m + 1) = (f' + m) + 1 by omega]
      conv => lhs; unfold f_X9_sentence_66
      have := sx_l (k66 := f_X9_sentence_66 (f' + m)) (B := B) (x6 := x6) (p := 6 * frm) (n := n) (i := i) hn (by omega) 6 0 sv_fu rfl (fu_lt (by decide))
      rw [hx6, if_neg (mt (nu_le (by omega) (by omega)).mp (by omega)), ← hx6, e6']
      refine Eq.trans this ?_
      unfold f_X9_sentence_155
      rw [d2, Option.bind_some, nu_s]
/-- the end: fill and sum -/
theorem tail_s {t1 : List Int32} {x4 x5 x6 : Int32} {to n R F f f' : Nat} (hs : sh a0 T) (h : rO a0 s k V B) (hsk : s < k) (hk : k + 7 ≤ 115) (hx4 : x4 = Int32.ofNat to) (hto : to ≤ 71) (hR : V.1 2 (a0 + 22) = Int32.ofNat R) (hR2 : R ≤ 424) (hF : 6 * to - R = F) (hF2 : F < 10) (hr : 48 + 6 * x6 - Int32.ofNat n = Int32.ofNat (48 + F)) {x7 : Int32} : ∃ V' B', f_X8_writeSentence_57 T a0 t1 (f + 1) V x4 (Int32.ofNat s) x4 = some V' ∧ f_X9_sentence_66 (f' + 1) B x7 (Int32.ofNat n) x6 x6 = some B' ∧ ch [(1, a0 + 4)] [a0 + 5] V V' ∧ cb [4, 37] [3] B B' ∧ rO a0 s (k + 7) V' B' := by
  obtain ⟨V1, B1, d1, d2, d3, d4, d5⟩ := w1 hs h 44 (by decide) (by omega) (by omega) ⟨fun e => by omega, fun e => by omega⟩
  obtain ⟨V2, B2, g1, g2, g3, g4, g5⟩ := w1 hs d5 (48 + F) (by omega) (by omega) (by omega) ⟨fun e => by omega, fun e => by omega⟩
  obtain ⟨c, c1, c2⟩ := xs_lt (g := B2.2 3) (p := s + 1) (k + 1 + 1 - (s + 1)) (fun i hi => by
    obtain ⟨c, q1, q2, q3⟩ := g5.2.2.2.1 (s + 1 + i) (by omega)
    exact ⟨c, q1, q3⟩)
  have hh := hx_lt (c / 16) (by omega)
  have hl := hx_lt (c % 16) (by omega)
  obtain ⟨V3, B3, a1, b1, p1, r1, o1⟩ := w1 hs g5 42 (by decide) (by omega) (by omega) ⟨fun e => by omega, fun e => by omega⟩
  obtain ⟨V4, B4, a2, b2, p2, r2, o2⟩ := w1 hs o1 (hx (c / 16)) hh.1 (by omega) (by omega) ⟨fun e => absurd e hh.2, fun e => by omega⟩
  obtain ⟨V5, B5, a3, b3, p3, r3, o3⟩ := w1 hs o2 (hx (c % 16)) hl.1 (by omega) (by omega) ⟨fun e => absurd e hl.2, fun e => by omega⟩
  obtain ⟨V6, B6, a4, b4, p4, r4, o4⟩ := w1 hs o3 13 (by decide) (by omega) (by omega) ⟨fun e => by omega, fun e => by omega⟩
  obtain ⟨V7, B7, a5, b5, p5, r5, o5⟩ := w1 hs o4 10 (by decide) (by omega) (by omega) ⟨fun e => by omega, fun e => by omega⟩
  have a1 : f_X6_add T V2 (a0 + 4) 42 = some V3 := a1
  have a4 : f_X6_add T V5 (a0 + 4) 13 = some V6 := a4
  have a5 : f_X6_add T V6 (a0 + 4) 10 = some V7 := a5
  have b1 : f_X9_write B2 42 = some B3 := b1
  have b4 : f_X9_write B5 13 = some B6 := b4
  have b5 : f_X9_write B6 10 = some B7 := b5
  have d1 : f_X6_add T V (a0 + 4) 44 = some V1 := d1
  have d2 : f_X9_write B 44 = some B1 := d2
  refine ⟨V7, B7, ?_, ?_, (((((d3.trans g3).trans p1).trans p2).trans p3).trans p4).trans p5, (((((d4.trans g4).trans r1).trans r2).trans r3).trans r4).trans r5, o5⟩
  · have hcl : f_X8_closeSentence T V2 a0 (Int32.ofNat s) = some V7 := by
      unfold f_X8_closeSentence
      have hc := close_l hs g5 (k + 1 + 1 - (s + 1)) 0 (sv_fu - (k + 1 + 1 - (s + 1))) (by omega)
      rw [Nat.zero_add, Nat.add_zero, Nat.sub_add_cancel (by have := fu_lt (m := 200) (by decide); omega)] at hc
      rw [nu_s, show (0 : Int32) = xs (B2.2 3) (s + 1) 0 from rfl, hc, c2]
      have hfu : ∃ z, sv_fu - (k + 1 + 1 - (s + 1)) = z + 1 := ⟨sv_fu - (k + 1 + 1 - (s + 1)) - 1, by have := fu_lt (m := 200) (by decide); omega⟩
      obtain ⟨z, hz⟩ := hfu
      rw [hz]
      unfold f_X8_closeSentence_6
      rw [hs.r2_0, Option.bind_some, g5.2.1, if_pos ((nu_le (by omega) (by omega)).mpr (by omega)), Option.bind_some, a1, Option.bind_some, Option.bind_some, six_hi V3 c1, Option.bind_some, a2, Option.bind_some, Option.bind_some, six_lo V4 c1, Option.bind_some, a3, Option.bind_some, Option.bind_some, a4, Option.bind_some, Option.bind_some, a5, Option.bind_some]
    have e6 : 6 * Int32.ofNat to = Int32.ofNat (6 * to) := nu_mul 6 to
    unfold f_X8_writeSentence_57 f_X8_writeSentence_154
    rw [if_pos (by rw [hx4, nu_le (by omega) (by omega)]; omega), hs.r9_0, Option.bind_some, hs.r2_0, Option.bind_some, d1, Option.bind_some, Option.bind_some, hx4, e6, hR]
    have g1' : f_X6_add T V1 (a0 + 4) (48 + Int32.ofNat F) = some V2 := by
      rw [show (48 : Int32) = Int32.ofNat 48 from rfl, nu_add]
      exact g1
    by_cases hc : 6 * to ≤ R
    · have hF0 : F = 0 := by omega
      rw [hF0] at g1'
      have hle : Int32.ofNat (6 * to) - Int32.ofNat R ≤ 0 := by
        rw [Int32.le_iff_toInt_le, Int32.toInt_sub, nu_int (by omega), nu_int (by omega), Int.bmod_eq_of_le] <;> first | omega | (show _ ≤ (0 : Int); omega)
      rw [if_pos hle, show (0 : Int32) = Int32.ofNat 0 from rfl, g1', Option.bind_some, hcl]
      rfl
    · rw [nu_sub (by omega), hF, if_neg (mt (nl_ge 0 0 rfl (by decide) (by omega)).mp (by omega)), g1', Option.bind_some, hcl]
      rfl
  · unfold f_X9_sentence_66
    have h37 : B2.1 37 = Int32.ofNat c := by rw [g5.2.2.2.2 (by omega), c2]
    rw [if_pos (i32_le.mpr Int32.lt_irrefl), d2, Option.bind_some, hr, g2, Option.bind_some, b1, Option.bind_some, h37, hex_hi B3 c1, Option.bind_some, b2, Option.bind_some, hex_lo B4 c1, Option.bind_some, b3, Option.bind_some, b4, Option.bind_some, b5, Option.bind_some]
end SE
