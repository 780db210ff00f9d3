/-! ===== PURE: fields, the rest ===== -/
def S_dig (s p : Nat → Nat) (f least : Nat) (x3 : Int32) : Option Int32 := if fl p f = 1 ∧ isd (s (p f)) ∧ least ≤ s (p f) - 48 ∧ ¬ x3 < Int32.ofNat (s (p f) - 48) then some (Int32.ofNat (s (p f) - 48)) else none
abbrev pk (c : Nat) : Prop := 48 ≤ c ∧ c ≤ 87 ∨ 96 ≤ c ∧ c ≤ 119
abbrev U_pack (s p : Nat → Nat) (f : Nat) : Prop := 1 ≤ fl p f ∧ fl p f ≤ 60 ∧ ∀ i, i < fl p f → pk (s (p f + i))
def S_meas (s p : Nat → Nat) (f u : Nat) (y : Int32) : Option Int32 := if fl p f = 0 ∧ ¬ y = -2147483648 ∨ ¬ fl p f = 0 ∧ ¬ (fl p f = 1 ∧ s (p f) = u) then none else some y
theorem neg_none {x : Int32} (h : ¬ x = -2147483648) : ¬ -x = -2147483648 := by
  intro hc
  apply h
  have : - -x = -(-2147483648) := by rw [hc]
  rw [Int32.neg_neg] at this
  rw [this]
  decide
section MO
variable {a0 m nf : Nat} {s p : Nat → Nat} {T : gh_T} {V : gh_V} {B : md_B} {f : Nat}
theorem c_oneOf (hs : sh a0 T) (hS : FS m s nf p) (hC : FC a0 m s nf p V) (hf : f < nf) (l : List Nat) (hl : l.length < 1000) (h128 : ∀ d ∈ l, d < 128) : f_X1_oneOf T V (a0 + 8) (Int32.ofNat f) (l.map Int32.ofNat) = some (cr (a0 + 8) V (S_one s p f l)) := by
  have hb := hS.b hf
  unfold f_X1_oneOf f_X1_oneOf_49 f_X1_oneOf_50 f_X1_wrong S_one
  rw [c_emp hs hS hC hf, Option.bind_some]
  by_cases c : fl p f = 0
  · rw [if_pos c, if_pos c]
    rfl
  · rw [if_neg c, if_neg c, if_pos rfl, c_from hs hS hC hf, Option.bind_some, c_at hs hS hC (by omega), Option.bind_some, c_to hs hS hC hf, Option.bind_some, c_from hs hS hC hf, Option.bind_some]
    simp only
    rw [nu_sub (by omega), show p f + fl p f - p f = fl p f by omega]
    by_cases c1 : fl p f = 1
    · have h2 := hS.2.2.2.1 (p f) (by omega)
      obtain ⟨y, e1, e2⟩ := ix_s l hl h128 (c := s (p f)) (by omega)
      rw [if_pos (by rw [c1]; rfl), e1, Option.bind_some]
      by_cases c2 : y < 0
      · rw [if_pos c2, if_neg (show ¬ (fl p f = 1 ∧ s (p f) ∈ l) from fun h => e2.mpr h.2 c2)]
        rfl
      · rw [if_neg c2, if_pos (show fl p f = 1 ∧ s (p f) ∈ l from ⟨c1, e2.mp c2⟩)]
        rfl
    · rw [if_neg (mt (nl_eq 1 1 rfl (by decide) (by omega)).mp c1), if_neg (show ¬ (fl p f = 1 ∧ s (p f) ∈ l) from fun h => c1 h.1)]
      rfl
theorem c_oneOf0 (hS : FS m s nf p) (hC : FC a0 m s nf p V) (hf : nf ≤ f) (hf2 : f < 100) (t : List Int32) : f_X1_oneOf T V (a0 + 8) (Int32.ofNat f) t = some (-2147483648, V) := by
  unfold f_X1_oneOf
  rw [c_emp0 hS hC hf hf2, Option.bind_some]
  rfl
theorem c_digit (hs : sh a0 T) (hS : FS m s nf p) (hC : FC a0 m s nf p V) (hf : f < nf) {least : Nat} (hl : least < 100) (x3 : Int32) : f_X1_digit T V (a0 + 8) (Int32.ofNat f) (Int32.ofNat least) x3 = some (cr (a0 + 8) V (S_dig s p f least x3)) := by
  have hb := hS.b hf
  obtain ⟨y, hy⟩ := c_dat' (V := V) hs (i := p f) (by omega)
  unfold f_X1_digit f_X1_digit_42 f_X1_digit_43 f_X1_wrong S_dig
  rw [c_from hs hS hC hf, Option.bind_some, hy, Option.bind_some, c_to hs hS hC hf, Option.bind_some, c_from hs hS hC hf, Option.bind_some]
  simp only
  rw [nu_sub (by omega), show p f + fl p f - p f = fl p f by omega]
  by_cases c1 : fl p f = 1
  · have h2 := hS.2.2.2.1 (p f) (by omega)
    rw [c_dat hs hS hC (show p f < m by omega)] at hy
    rw [if_pos (by rw [c1]; rfl)]
    by_cases cd : isd (s (p f))
    · rw [if_pos cd] at hy
      cases hy
      have cd' := cd
      unfold isd at cd'
      by_cases c3 : least ≤ s (p f) - 48
      · rw [if_neg (mt (nu_lt (by omega) (by omega)).mp (by omega))]
        by_cases c4 : x3 < Int32.ofNat (s (p f) - 48)
        · rw [if_pos c4, if_neg (show ¬ (fl p f = 1 ∧ isd (s (p f)) ∧ least ≤ s (p f) - 48 ∧ ¬ x3 < Int32.ofNat (s (p f) - 48)) from fun h => h.2.2.2 c4)]
          rfl
        · rw [if_neg c4, if_pos (show fl p f = 1 ∧ isd (s (p f)) ∧ least ≤ s (p f) - 48 ∧ ¬ x3 < Int32.ofNat (s (p f) - 48) from ⟨c1, cd, c3, c4⟩)]
          rfl
      · rw [if_pos ((nu_lt (by omega) (by omega)).mpr (by omega)), if_neg (show ¬ (fl p f = 1 ∧ isd (s (p f)) ∧ least ≤ s (p f) - 48 ∧ ¬ x3 < Int32.ofNat (s (p f) - 48)) from fun h => c3 h.2.2.1)]
        rfl
    · rw [if_neg cd] at hy
      cases hy
      have : (-1 : Int32) < Int32.ofNat least := by
        rw [Int32.lt_iff_toInt_lt, nu_int (by omega)]
        show (-1 : Int) < _
        omega
      rw [if_pos this, if_neg (show ¬ (fl p f = 1 ∧ isd (s (p f)) ∧ least ≤ s (p f) - 48 ∧ ¬ x3 < Int32.ofNat (s (p f) - 48)) from fun h => cd h.2.1)]
      rfl
  · rw [if_neg (mt (nl_eq 1 1 rfl (by decide) (by omega)).mp c1), if_neg (show ¬ (fl p f = 1 ∧ isd (s (p f)) ∧ least ≤ s (p f) - 48 ∧ ¬ x3 < Int32.ofNat (s (p f) - 48)) from fun h => c1 h.1)]
    rfl
theorem c_pack (hs : sh a0 T) (hS : FS m s nf p) (hC : FC a0 m s nf p V) (hf : f < nf) : f_X1_checkPack T V (a0 + 8) (Int32.ofNat f) = some (if U_pack s p f then V else gh_pf V 3 (a0 + 8) 0) := by
  have hb := hS.b hf
  have loop : ∀ (k i n : Nat) (V : gh_V), FC a0 m s nf p V → i + k = fl p f → k < n → f_X1_checkPack_34 T (a0 + 8) n V (Int32.ofNat f) (Int32.ofNat (p f + i)) = some (if ∀ j, j < fl p f → i ≤ j → pk (s (p f + j)) then V else gh_pf V 3 (a0 + 8) 0) := by
    intro k
    induction k with
    | zero =>
      intro i n V hC hi hn
      cases n with
      | zero => omega
      | succ n =>
        unfold f_X1_checkPack_34
        rw [c_to hs hS hC hf, Option.bind_some, if_pos ((nu_le (by omega) (by omega)).mpr (by omega)), if_pos (fun j h1 h2 => by omega)]
    | succ k ih =>
      intro i n V hC hi hn
      cases n with
      | zero => omega
      | succ n =>
        have h2 := hS.2.2.2.1 (p f + i) (by omega)
        unfold f_X1_checkPack_34 f_X1_checkPack_64 f_X1_checkPack_78 f_X1_checkPack_82 f_X1_checkPack_83 f_X1_checkPack_95
        rw [c_to hs hS hC hf, Option.bind_some, if_neg (mt (nu_le (by omega) (by omega)).mp (by omega)), c_at hs hS hC (by omega), Option.bind_some]
        dsimp only
        rw [nu_s, show p f + i + 1 = p f + (i + 1) by omega, if_pos (show (0 : Int32) = 0 from rfl), if_neg (show ¬ (1 : Int32) = 0 by decide)]
        have good : pk (s (p f + i)) → f_X1_checkPack_34 T (a0 + 8) n V (Int32.ofNat f) (Int32.ofNat (p f + (i + 1))) = some (if ∀ j, j < fl p f → i ≤ j → pk (s (p f + j)) then V else gh_pf V 3 (a0 + 8) 0) := by
          intro hp
          rw [ih (i + 1) n V hC (by omega) (by omega)]
          have : (∀ j, j < fl p f → i + 1 ≤ j → pk (s (p f + j))) ↔ ∀ j, j < fl p f → i ≤ j → pk (s (p f + j)) := by
            constructor
            · intro h j h1 h2
              by_cases hj : j = i
              · rw [hj]; exact hp
              · exact h j h1 (by omega)
            · intro h j h1 h2
              exact h j h1 (by omega)
          by_cases hc : ∀ j, j < fl p f → i + 1 ≤ j → pk (s (p f + j))
          · rw [if_pos hc, if_pos (this.mp hc)]
          · rw [if_neg hc, if_neg (mt this.mpr hc)]
        have bad : ¬ pk (s (p f + i)) → f_X1_checkPack_34 T (a0 + 8) n (gh_pf V 3 (a0 + 8) 0) (Int32.ofNat f) (Int32.ofNat (p f + (i + 1))) = some (if ∀ j, j < fl p f → i ≤ j → pk (s (p f + j)) then V else gh_pf V 3 (a0 + 8) 0) := by
          intro hp
          rw [ih (i + 1) n _ hC.wr (by omega) (by omega), if_neg (show ¬ ∀ j, j < fl p f → i ≤ j → pk (s (p f + j)) from fun h => hp (h i (by omega) (Nat.le_refl _))), nf_two, ite_self]
        by_cases c1 : s (p f + i) < 48
        · rw [if_pos ((nl_gt 48 48 rfl (by decide) (by omega)).mpr c1), if_pos ((nl_gt 96 96 rfl (by decide) (by omega)).mpr (by omega))]
          exact bad (by unfold pk; omega)
        · rw [if_neg (mt (nl_gt 48 48 rfl (by decide) (by omega)).mp c1)]
          by_cases c2 : s (p f + i) ≤ 87
          · rw [if_pos ((nl_ge 87 87 rfl (by decide) (by omega)).mpr c2)]
            exact good (by unfold pk; omega)
          · rw [if_neg (mt (nl_ge 87 87 rfl (by decide) (by omega)).mp c2)]
            by_cases c3 : s (p f + i) < 96
            · rw [if_pos ((nl_gt 96 96 rfl (by decide) (by omega)).mpr c3)]
              exact bad (by unfold pk; omega)
            · rw [if_neg (mt (nl_gt 96 96 rfl (by decide) (by omega)).mp c3)]
              by_cases c4 : 119 < s (p f + i)
              · rw [if_pos ((nl_lt 119 119 rfl (by decide) (by omega)).mpr c4)]
                exact bad (by unfold pk; omega)
              · rw [if_neg (mt (nl_lt 119 119 rfl (by decide) (by omega)).mp c4)]
                exact good (by unfold pk; omega)
  have fin : ∀ V, FC a0 m s nf p V → f_X1_checkPack_28 T (a0 + 8) V (Int32.ofNat f) = some (if ∀ j, j < fl p f → 0 ≤ j → pk (s (p f + j)) then V else gh_pf V 3 (a0 + 8) 0) := by
    intro V hC
    unfold f_X1_checkPack_28
    rw [c_from hs hS hC hf, Option.bind_some]
    exact loop (fl p f) 0 sv_fu V hC (by omega) (fu_lt (by omega))
  unfold f_X1_checkPack f_X1_checkPack_23
  rw [c_to hs hS hC hf, Option.bind_some, c_from hs hS hC hf, Option.bind_some]
  simp only
  rw [nu_sub (by omega), show p f + fl p f - p f = fl p f by omega, fin _ hC, fin _ hC.wr, nf_two, ite_self]
  by_cases c1 : fl p f < 1
  · rw [if_pos ((nl_gt 1 1 rfl (by decide) (by omega)).mpr c1), if_neg (show ¬ U_pack s p f from fun h => by have := h.1; omega)]
  · rw [if_neg (mt (nl_gt 1 1 rfl (by decide) (by omega)).mp c1)]
    by_cases c2 : fl p f ≤ 60
    · rw [if_pos ((nl_ge 60 60 rfl (by decide) (by omega)).mpr c2)]
      by_cases hc : ∀ j, j < fl p f → 0 ≤ j → pk (s (p f + j))
      · rw [if_pos hc, if_pos (show U_pack s p f from ⟨by omega, c2, fun i hi => hc i hi (Nat.zero_le _)⟩)]
      · rw [if_neg hc, if_neg (show ¬ U_pack s p f from fun h => hc (fun j hj _ => h.2.2 j hj))]
    · rw [if_neg (mt (nl_ge 60 60 rfl (by decide) (by omega)).mp c2), if_neg (show ¬ U_pack s p f from fun h => c2 h.2.1)]
theorem r_one (hS : FS m s nf p) (hB : FB m s nf p B) (hf : f < nf) (l : List Nat) (hl : l.length < 1000) (h128 : ∀ d ∈ l, d < 128) : f_X9_one B (Int32.ofNat f) (l.map Int32.ofNat) = some (br B (S_one s p f l)) := by
  have hb := hS.b hf
  unfold f_X9_one S_one
  rw [r_size hS hB hf, Option.bind_some]
  by_cases c : fl p f = 0
  · rw [if_pos c, if_pos ((fl0 (by omega)).mpr c)]
    rfl
  · rw [if_neg c, if_neg (mt (fl0 (by omega)).mp c)]
    have h2 := hS.2.2.2.1 (p f) (by omega)
    have hat : f_X9_at B (Int32.ofNat f) 0 = some (Int32.ofNat (s (p f)), B) := r_at hS hB hf (i := 0) (by omega)
    have loop : ∀ (k j n : Nat) (x3 : Int32), j + k = l.length → k < n → f_X9_one_16 (l.map Int32.ofNat) n B (Int32.ofNat f) x3 (Int32.ofNat j) = some (br B (if ¬ x3 = 0 ∨ fl p f = 1 ∧ s (p f) ∈ l.drop j then some (Int32.ofNat (s (p f))) else none)) := by
      intro k
      induction k with
      | zero =>
        intro j n x3 hj hn
        cases n with
        | zero => omega
        | succ n =>
          unfold f_X9_one_16 f_X9_bad
          rw [len_t, Option.bind_some, List.length_map, if_pos ((nu_le (by omega) (by omega)).mpr (by omega)), List.drop_eq_nil_of_le (by omega)]
          by_cases h : x3 = 0
          · rw [if_pos h, if_neg (show ¬ (¬ x3 = 0 ∨ fl p f = 1 ∧ s (p f) ∈ []) from fun hh => hh.elim (fun c => c h) (fun c => by simp at c))]
            rfl
          · rw [if_neg h, if_pos (Or.inl h), hat]
            rfl
      | succ k ih =>
        intro j n x3 hj hn
        cases n with
        | zero => omega
        | succ n =>
          have hlt : l[j] < 128 := h128 _ (List.getElem_mem (by omega))
          unfold f_X9_one_16 f_X9_one_53 f_X9_one_57 f_X9_one_58
          rw [len_t, Option.bind_some, List.length_map, if_neg (mt (nu_le (by omega) (by omega)).mp (by omega)), List.drop_eq_getElem_cons (show j < l.length by omega), nu_s]
          by_cases h : x3 = 0
          · rw [if_pos h, r_size hS hB hf, Option.bind_some]
            by_cases c1 : fl p f = 1
            · rw [if_pos (by rw [c1]; rfl), hat, Option.bind_some, cha_t l hl h128 j (by omega), Option.bind_some]
              simp only [nu_eq (show s (p f) < 2147483648 by omega) (show l[j] < 2147483648 by omega)]
              by_cases c2 : s (p f) = l[j]
              · rw [if_pos c2, ih (j + 1) n 1 (by omega) (by omega), if_pos (Or.inl (by decide)), if_pos (Or.inr ⟨c1, by rw [c2]; exact List.mem_cons_self⟩)]
              · rw [if_neg c2, ih (j + 1) n 0 (by omega) (by omega)]
                by_cases c3 : s (p f) ∈ l.drop (j + 1)
                · rw [if_pos (Or.inr ⟨c1, c3⟩), if_pos (Or.inr ⟨c1, List.mem_cons_of_mem _ c3⟩)]
                · rw [if_neg (show ¬ (¬ (0 : Int32) = 0 ∨ fl p f = 1 ∧ s (p f) ∈ l.drop (j + 1)) from fun h => h.elim (fun c => c rfl) (fun c => c3 c.2)), if_neg (show ¬ (¬ x3 = 0 ∨ fl p f = 1 ∧ s (p f) ∈ l[j] :: l.drop (j + 1)) from fun h' => h'.elim (fun c => c h) (fun c => (List.mem_cons.mp c.2).elim c2 c3))]
            · rw [if_neg (mt (nl_eq 1 1 rfl (by decide) (by omega)).mp c1), ih (j + 1) n 0 (by omega) (by omega), if_neg (show ¬ (¬ (0 : Int32) = 0 ∨ fl p f = 1 ∧ s (p f) ∈ l.drop (j + 1)) from fun h => h.elim (fun c => c rfl) (fun c => c1 c.1)), if_neg (show ¬ (¬ x3 = 0 ∨ fl p f = 1 ∧ s (p f) ∈ l[j] :: l.drop (j + 1)) from fun h' => h'.elim (fun c => c h) (fun c => c1 c.1))]
          · rw [if_neg h, ih (j + 1) n 1 (by omega) (by omega), if_pos (Or.inl (by decide)), if_pos (Or.inl h)]
    have := loop l.length 0 sv_fu 0 (by omega) (fu_lt (by omega))
    rw [List.drop_zero] at this
    refine Eq.trans this ?_
    by_cases c2 : fl p f = 1 ∧ s (p f) ∈ l
    · rw [if_pos (Or.inr c2), if_pos c2]
    · rw [if_neg (fun h => h.elim (fun c => c rfl) c2), if_neg c2]
theorem r_side' (hS : FS m s nf p) (hB : FB m s nf p B) (hf : f < nf) {ab be : Nat} (hab : ab < 128) (hbe : be < 128) (hne : ab ≠ be) (y : Int32) : f_X9_sided B y (Int32.ofNat f) ([ab, be].map Int32.ofNat) = some (br B (S_side s p f ab be y)) := by
  have hb := hS.b hf
  have h128 : ∀ d ∈ [ab, be], d < 128 := by
    intro d hd
    simp at hd
    omega
  have hch := cha_t [ab, be] (by simp) h128 1 (by simp)
  have hch : f_J0_charAt_5068e ([ab, be].map Int32.ofNat) 1 = some (Int32.ofNat be) := hch
  unfold f_X9_sided S_side
  rw [r_one hS hB hf _ (by simp) h128, Option.bind_some]
  unfold S_one
  by_cases c : fl p f = 0
  · rw [if_pos c]
    show (if y = -2147483648 then f_X9_sided_19 ([ab, be].map Int32.ofNat) B y (-2147483648) 1 else f_X9_sided_19 ([ab, be].map Int32.ofNat) B y (-2147483648) 0) = _
    unfold f_X9_sided_19 f_X9_sided_31 f_X9_bad
    by_cases c0 : y = -2147483648
    · rw [if_pos c0, if_pos (show (-2147483648 : Int32) = -2147483648 from rfl), if_pos (show (1 : Int32) = 1 from rfl), if_pos c0, if_pos c0, if_pos c, c0]
      rfl
    · rw [if_neg c0, if_pos (show (-2147483648 : Int32) = -2147483648 from rfl), if_neg (show ¬ (0 : Int32) = 1 by decide), if_neg c0, if_neg (show ¬ (fl p f = 1 ∧ s (p f) = ab) by omega), if_neg (show ¬ (fl p f = 1 ∧ s (p f) = be) by omega)]
      rfl
  · rw [if_neg c]
    have h2 := hS.2.2.2.1 (p f) (by omega)
    by_cases c1 : fl p f = 1 ∧ s (p f) ∈ [ab, be]
    · rw [if_pos c1]
      show (if y = -2147483648 then f_X9_sided_19 ([ab, be].map Int32.ofNat) B y (Int32.ofNat (s (p f))) 1 else f_X9_sided_19 ([ab, be].map Int32.ofNat) B y (Int32.ofNat (s (p f))) 0) = _
      unfold f_X9_sided_19 f_X9_sided_31 f_X9_bad
      have hno : ¬ Int32.ofNat (s (p f)) = -2147483648 := none_ne (by omega)
      by_cases c0 : y = -2147483648
      · rw [if_pos c0, if_neg hno, if_neg (show ¬ (1 : Int32) = 0 by decide), if_pos c0, if_neg c]
        rfl
      · rw [if_neg c0, if_neg hno, if_pos (show (0 : Int32) = 0 from rfl), if_neg c0, if_neg c0, hch, Option.bind_some]
        simp only [nu_eq (show s (p f) < 2147483648 by omega) (show be < 2147483648 by omega)]
        by_cases c3 : s (p f) = be
        · rw [if_pos c3, if_neg (show ¬ (fl p f = 1 ∧ s (p f) = ab) by omega), if_pos ⟨c1.1, c3⟩]
          rfl
        · have c4 : s (p f) = ab := by
            have := c1.2
            simp at this
            omega
          rw [if_neg c3, if_pos ⟨c1.1, c4⟩]
          rfl
    · rw [if_neg c1]
      show (if y = -2147483648 then f_X9_sided_19 ([ab, be].map Int32.ofNat) (md_pf B 14 0) y (-2147483648) 1 else f_X9_sided_19 ([ab, be].map Int32.ofNat) (md_pf B 14 0) y (-2147483648) 0) = _
      unfold f_X9_sided_19 f_X9_sided_31 f_X9_bad
      have c2 : ¬ (fl p f = 1 ∧ s (p f) = ab) := fun h => c1 ⟨h.1, by rw [h.2]; simp⟩
      have c3 : ¬ (fl p f = 1 ∧ s (p f) = be) := fun h => c1 ⟨h.1, by rw [h.2]; simp⟩
      by_cases c0 : y = -2147483648
      · rw [if_pos c0, if_pos (show (-2147483648 : Int32) = -2147483648 from rfl), if_pos (show (1 : Int32) = 1 from rfl), if_pos c0, if_pos c0, if_neg c, c0]
        rfl
      · rw [if_neg c0, if_pos (show (-2147483648 : Int32) = -2147483648 from rfl), if_neg (show ¬ (0 : Int32) = 1 by decide), if_neg c0, if_neg c2, if_neg c3, Option.bind_some, bf_two]
        rfl
theorem r_side (hS : FS m s nf p) (hB : FB m s nf p B) (hf : f < nf) {ab be : Nat} (hab : ab < 128) (hbe : be < 128) (hne : ab ≠ be) (r : Option Int32) : f_X9_sided (br B r).2 (br B r).1 (Int32.ofNat f) ([ab, be].map Int32.ofNat) = some (br B (r.bind (S_side s p f ab be))) := by
  cases r with
  | some y => exact r_side' hS hB hf hab hbe hne y
  | none =>
    show f_X9_sided (md_pf B 14 0) (-2147483648) (Int32.ofNat f) _ = _
    rw [r_side' hS hB.wr hf hab hbe hne]
    unfold S_side
    rw [if_pos rfl]
    by_cases c : fl p f = 0
    · rw [if_pos c]
      rfl
    · rw [if_neg c]
      show some (-2147483648, md_pf (md_pf B 14 0) 14 0) = _
      rw [bf_two]
      rfl
theorem r_below (r : Option Int32) (n : Nat) (hn : n < 1000000) : f_X9_below (br B r).2 (br B r).1 (Int32.ofNat n) = some (br B (r.bind (fun y => if Int32.ofNat n < y then none else some y))) := by
  unfold f_X9_below f_X9_bad
  cases r with
  | none => exact if_pos rfl
  | some y =>
    show (if y = -2147483648 then some (y, B) else if y ≤ Int32.ofNat n then some (y, B) else (some (-2147483648, md_pf B 14 0)).bind (fun q12 => some (q12.1, q12.2))) = some (br B (if Int32.ofNat n < y then none else some y))
    by_cases c : y = -2147483648
    · have : ¬ Int32.ofNat n < y := by
        rw [c, Int32.lt_iff_toInt_lt, nu_int (by omega)]
        show ¬ (n : Int) < -2147483648
        omega
      rw [if_pos c, if_neg this]
      rfl
    · rw [if_neg c]
      by_cases c2 : Int32.ofNat n < y
      · rw [if_pos c2, if_neg (by rw [i32_le]; exact fun h => h c2)]
        rfl
      · rw [if_neg c2, if_pos (i32_le.mpr c2)]
        rfl
theorem r_time (hS : FS m s nf p) (hB : FB m s nf p B) (hf : f < nf) : f_X9_time B (Int32.ofNat f) = some (br B (S_time s p f)) := by
  have hb := hS.b hf
  unfold f_X9_time S_time
  rw [r_size hS hB hf, Option.bind_some]
  by_cases c : fl p f = 0
  · rw [if_pos c, if_pos ((fl0 (by omega)).mpr c)]
    rfl
  · rw [if_neg c, if_neg (mt (fl0 (by omega)).mp c)]
    have hle := nd_le s (fl p f) (p f)
    have hdg : f_X9_digits B (Int32.ofNat f) 0 = some (Int32.ofNat (nd s (p f) (fl p f)), B) := r_digits hS hB hf (i := 0) (by omega)
    simp only
    rw [hdg, Option.bind_some]
    simp only
    unfold sD
    by_cases c6 : nd s (p f) (fl p f) = 6
    · have hd : ∀ i, i < 6 → isd (s (p f + i)) := fun i hi => nd_is s (fl p f) (p f) i (by omega)
      have hw1 : f_X9_whole B (Int32.ofNat f) 0 2 = some (Int32.ofNat (wh s (p f) 2), B) := r_whole hS hB hf (i := 0) (n := 2) (by omega) (fun j hj => hd j (by omega))
      have hw2 : f_X9_whole B (Int32.ofNat f) 2 2 = some (Int32.ofNat (wh s (p f + 2) 2), B) := r_whole hS hB hf (i := 2) (n := 2) (by omega) (fun j hj => by rw [Nat.add_assoc]; exact hd (2 + j) (by omega))
      have hw3 : f_X9_whole B (Int32.ofNat f) 4 2 = some (Int32.ofNat (wh s (p f + 4) 2), B) := r_whole hS hB hf (i := 4) (n := 2) (by omega) (fun j hj => by rw [Nat.add_assoc]; exact hd (4 + j) (by omega))
      have hbe : f_X9_behind B (Int32.ofNat f) 6 3 3 = some (br B ((bh s (p f + 6) (fl p f - 6) 3).map (fun r => Int32.ofNat (vk s (p f + 6 + 1) r 0 3)))) := r_behind hS hB hf (i := 6) (most := 3) (C := 3) (by omega) (by decide) (by decide)
      rw [c6, if_pos (show Int32.ofNat 6 = 6 from rfl), hw1, Option.bind_some, hw2, Option.bind_some, hw3, Option.bind_some, hbe, Option.bind_some, if_neg (show ¬ (6 < 6 ∨ 6 < 6) by decide)]
      cases hbb : bh s (p f + 6) (fl p f - 6) 3 with
      | none => exact if_pos rfl
      | some r =>
        have hlt : vk s (p f + 6 + 1) r 0 3 < 1000 := vk_lt s (p f + 6 + 1) r (bh_is hbb) 3
        have e6 : wh s (p f) 6 = (wh s (p f) 2 * 100 + wh s (p f + 2) 2) * 100 + wh s (p f + 4) 2 := by rw [wh_two s (p f) 4, wh_two s (p f) 2]
        have l1 : wh s (p f) 2 < 100 := wh_lt s (p f) 2 (fun i hi => hd i (by omega))
        have l2 : wh s (p f + 2) 2 < 100 := wh_lt s (p f + 2) 2 (fun i hi => by rw [Nat.add_assoc]; exact hd (2 + i) (by omega))
        have l3 : wh s (p f + 4) 2 < 100 := wh_lt s (p f + 4) 2 (fun i hi => by rw [Nat.add_assoc]; exact hd (4 + i) (by omega))
        show (if Int32.ofNat (vk s (p f + 6 + 1) r 0 3) = -2147483648 then _ else _) = some (br B (tm (vk s (p f + 6 + 1) r (wh s (p f) 6) 3)))
        rw [if_neg (none_ne (by omega)), vk_add, e6]
        simp only [Option.map_some, br]
        generalize vk s (p f + 6 + 1) r 0 3 = w at hlt
        generalize wh s (p f) 2 = h at l1
        generalize wh s (p f + 2) 2 = mi at l2
        generalize wh s (p f + 4) 2 = sc at l3
        have d1 : (((h * 100 + mi) * 100 + sc) * 10 ^ 3 + w) / 10000000 = h := by omega
        have d2 : (((h * 100 + mi) * 100 + sc) * 10 ^ 3 + w) / 100000 % 100 = mi := by omega
        have d3 : (((h * 100 + mi) * 100 + sc) * 10 ^ 3 + w) % 100000 = sc * 1000 + w := by omega
        unfold tm f_X9_time_94 f_X9_bad
        rw [d1, d2, d3]
        by_cases c1 : 23 < h
        · rw [if_pos ((nl_lt 23 23 rfl (by decide) (by omega)).mpr c1), if_pos (Or.inl c1)]
          rfl
        · rw [if_neg (mt (nl_lt 23 23 rfl (by decide) (by omega)).mp c1)]
          by_cases c2 : 59 < mi
          · rw [if_pos ((nl_lt 59 59 rfl (by decide) (by omega)).mpr c2), if_pos (Or.inr (Or.inl c2))]
            rfl
          · rw [if_neg (mt (nl_lt 59 59 rfl (by decide) (by omega)).mp c2)]
            by_cases c3 : sc ≤ 59
            · rw [if_pos ((nl_ge 59 59 rfl (by decide) (by omega)).mpr c3), if_neg (by omega), show (60 : Int32) = Int32.ofNat 60 from rfl, show (1000 : Int32) = Int32.ofNat 1000 from rfl, nu_mul, nu_add, nu_mul, nu_add, nu_mul, nu_add]
              rw [show ((h * 60 + mi) * 60 + sc) * 1000 + w = (h * 60 + mi) * 60000 + (sc * 1000 + w) by omega]
            · rw [if_neg (mt (nl_ge 59 59 rfl (by decide) (by omega)).mp c3), if_pos (Or.inr (Or.inr (by omega)))]
              rfl
    · rw [if_neg (mt (nl_eq 6 6 rfl (by decide) (by omega)).mp c6), if_pos (show nd s (p f) (fl p f) < 6 ∨ 6 < nd s (p f) (fl p f) by omega)]
      rfl
theorem r_date (hS : FS m s nf p) (hB : FB m s nf p B) (hf : f < nf) : f_X9_date B (Int32.ofNat f) = some (br B (S_date s p f)) := by
  have hn : f_X9_number B (Int32.ofNat f) 6 = some (br B (S_num s p f 6)) := r_number hS hB hf (n := 6) (by decide)
  unfold f_X9_date f_X9_date_57 f_X9_bad S_date
  rw [hn, Option.bind_some]
  unfold S_num
  by_cases c : fl p f = 0
  · rw [if_pos c, if_pos c]
    rfl
  · rw [if_neg c, if_neg c]
    cases hD : sD s (p f) (fl p f) 6 6 0 0 with
    | none => exact if_pos rfl
    | some v =>
      have hv : v < 1000000 := sD_lt hD
      show (if Int32.ofNat v = -2147483648 then _ else _) = some (br B (dt v))
      unfold dt
      simp only [br, Option.map_some]
      rw [if_neg (none_ne (by omega))]
      have e1 := nm_lit (n := v) (k := 100) 100 rfl (by omega) (by decide)
      have e2 := nd_lit (n := v) (k := 100) 100 rfl (by omega) (by decide)
      have e3 := nd_lit (n := v) (k := 10000) 10000 rfl (by omega) (by decide)
      have e4 := nm_lit (n := v / 100) (k := 100) 100 rfl (by omega) (by decide)
      rw [e2] at e1
      simp only [e2, e3, e4, e1]
      rw [in_nat (n := v / 10000) (lo := 1) (hi := 31) (l := 1) (h := 31) (by omega) (by decide) (by decide) rfl rfl, Option.bind_some]
      by_cases c1 : 1 ≤ v / 10000 ∧ v / 10000 ≤ 31
      · rw [if_pos c1, if_neg (by simp)]
        simp only
        rw [in_nat (n := v / 100 % 100) (lo := 1) (hi := 12) (l := 1) (h := 12) (by omega) (by decide) (by decide) rfl rfl, Option.bind_some]
        by_cases c2 : 1 ≤ v / 100 % 100 ∧ v / 100 % 100 ≤ 12
        · rw [if_pos c2, if_neg (by simp), if_neg (by omega), show (100 : Int32) = Int32.ofNat 100 from rfl, show (10000 : Int32) = Int32.ofNat 10000 from rfl, nu_mul, nu_add, nu_mul, nu_add]
        · rw [if_neg c2, if_pos rfl, if_pos (by omega)]
          rfl
      · rw [if_neg c1, if_pos rfl, if_pos (by omega)]
        rfl
theorem r_place (hS : FS m s nf p) (hB : FB m s nf p B) (hf : f + 1 < nf) {D most ab be : Nat} (hD : D = 4 ∨ D = 5) (hm : most ≤ 180) (hab : ab < 128) (hbe : be < 128) (hne : ab ≠ be) : f_X9_place B (Int32.ofNat f) (Int32.ofNat D) (Int32.ofNat most) ([ab, be].map Int32.ofNat) = some (br B ((S_ang s p f D (most * 600000)).bind (S_side s p (f + 1) ab be))) := by
  have hf0 : f < nf := by omega
  have hb := hS.b hf0
  have hsd := fun r => r_side hS hB hf hab hbe hne r
  unfold f_X9_place f_X9_place_105 f_X9_place_100 f_X9_bad S_ang
  rw [r_size hS hB hf0, Option.bind_some, nu_s]
  by_cases c : fl p f = 0
  · rw [if_pos c, if_pos (by rw [nl_ge 0 0 rfl (by decide) (by omega)]; omega)]
    have := hsd (some (-2147483648))
    show (f_X9_sided B (-2147483648) (Int32.ofNat (f + 1)) _).bind _ = _
    have this : f_X9_sided B (-2147483648) (Int32.ofNat (f + 1)) ([ab, be].map Int32.ofNat) = _ := this
    rw [this]
    rfl
  · rw [if_neg c, if_neg (by rw [nl_ge 0 0 rfl (by decide) (by omega)]; omega)]
    have hle := nd_le s (fl p f) (p f)
    have hdg : f_X9_digits B (Int32.ofNat f) 0 = some (Int32.ofNat (nd s (p f) (fl p f)), B) := r_digits hS hB hf0 (i := 0) (by omega)
    simp only
    rw [hdg, Option.bind_some]
    simp only [nu_eq (show nd s (p f) (fl p f) < 2147483648 by omega) (show D < 2147483648 by omega)]
    unfold sD
    have hbb3 : ∀ r : Option Int32, r = none → (some (-2147483648, md_pf B 14 0) : Option (Int32 × md_B)) = some (br B (r.bind (S_side s p (f + 1) ab be))) := by
      intro r hr
      rw [hr]
      rfl
    by_cases c6 : nd s (p f) (fl p f) = D
    · have hd : ∀ i, i < D → isd (s (p f + i)) := fun i hi => nd_is s (fl p f) (p f) i (by omega)
      have e2 : Int32.ofNat D - 2 = Int32.ofNat (D - 2) := nu_sub (n := D) (m := 2) (by omega)
      have hw1 : f_X9_whole B (Int32.ofNat f) 0 (Int32.ofNat (D - 2)) = some (Int32.ofNat (wh s (p f) (D - 2)), B) := r_whole hS hB hf0 (i := 0) (n := D - 2) (by omega) (fun j hj => hd j (by omega))
      have hw2 : f_X9_whole B (Int32.ofNat f) (Int32.ofNat (D - 2)) 2 = some (Int32.ofNat (wh s (p f + (D - 2)) 2), B) := r_whole hS hB hf0 (i := D - 2) (n := 2) (by omega) (fun j hj => by rw [Nat.add_assoc]; exact hd (D - 2 + j) (by omega))
      have hbe : f_X9_behind B (Int32.ofNat f) (Int32.ofNat D) 6 4 = some (br B ((bh s (p f + D) (fl p f - D) 6).map (fun r => Int32.ofNat (vk s (p f + D + 1) r 0 4)))) := r_behind hS hB hf0 (i := D) (most := 6) (C := 4) (by omega) (by decide) (by decide)
      rw [if_pos c6, e2, hw1, Option.bind_some, hw2, Option.bind_some, hbe, Option.bind_some, if_neg (show ¬ (nd s (p f) (fl p f) < D ∨ D < nd s (p f) (fl p f)) by omega), c6]
      cases hbb : bh s (p f + D) (fl p f - D) 6 with
      | none =>
        show (if (-2147483648 : Int32) = -2147483648 then _ else _) = _
        rw [if_pos rfl]
        show (some (-2147483648, md_pf (md_pf B 14 0) 14 0) : Option (Int32 × md_B)) = _
        rw [bf_two]
        exact hbb3 _ rfl
      | some r =>
        have hlt : vk s (p f + D + 1) r 0 4 < 10000 := vk_lt s (p f + D + 1) r (bh_is hbb) 4
        have eD : wh s (p f) D = wh s (p f) (D - 2) * 100 + wh s (p f + (D - 2)) 2 := by
          have := wh_two s (p f) (D - 2)
          rwa [show D - 2 + 2 = D by omega] at this
        have l1 : wh s (p f) (D - 2) < 1000 := Nat.lt_of_lt_of_le (wh_lt s (p f) (D - 2) (fun i hi => hd i (by omega))) (Nat.pow_le_pow_right (by decide) (by omega : D - 2 ≤ 3))
        have l2 : wh s (p f + (D - 2)) 2 < 100 := wh_lt s (p f + (D - 2)) 2 (fun i hi => by rw [Nat.add_assoc]; exact hd (D - 2 + i) (by omega))
        show (if Int32.ofNat (vk s (p f + D + 1) r 0 4) = -2147483648 then _ else _) = some (br B ((ag (most * 600000) (vk s (p f + D + 1) r (wh s (p f) D) 4)).bind (S_side s p (f + 1) ab be)))
        rw [if_neg (none_ne (by omega)), vk_add, eD]
        show (if 59 < Int32.ofNat (wh s (p f + (D - 2)) 2) then (some (-2147483648, md_pf B 14 0) : Option (Int32 × md_B)).bind (fun q101 => some (q101.1, q101.2)) else if (Int32.ofNat (wh s (p f) (D - 2)) * 60 + Int32.ofNat (wh s (p f + (D - 2)) 2)) * 10000 + Int32.ofNat (vk s (p f + D + 1) r 0 4) ≤ Int32.ofNat most * 600000 then (f_X9_sided B ((Int32.ofNat (wh s (p f) (D - 2)) * 60 + Int32.ofNat (wh s (p f + (D - 2)) 2)) * 10000 + Int32.ofNat (vk s (p f + D + 1) r 0 4)) (Int32.ofNat (f + 1)) ([ab, be].map Int32.ofNat)).bind (fun q113 => some (q113.1, q113.2)) else (some (-2147483648, md_pf B 14 0) : Option (Int32 × md_B)).bind (fun q101 => some (q101.1, q101.2))) = _
        generalize vk s (p f + D + 1) r 0 4 = w at hlt
        generalize wh s (p f) (D - 2) = h at l1
        generalize wh s (p f + (D - 2)) 2 = mi at l2
        have d1 : ((h * 100 + mi) * 10 ^ 4 + w) / 1000000 = h := by omega
        have d2 : ((h * 100 + mi) * 10 ^ 4 + w) % 1000000 = mi * 10000 + w := by omega
        unfold ag
        rw [d1, d2, show (60 : Int32) = Int32.ofNat 60 from rfl, show (10000 : Int32) = Int32.ofNat 10000 from rfl, show (600000 : Int32) = Int32.ofNat 600000 from rfl, nu_mul, nu_add, nu_mul, nu_add, nu_mul]
        by_cases c1 : 59 < mi
        · rw [if_pos ((nl_lt 59 59 rfl (by decide) (by omega)).mpr c1), if_pos (Or.inl (by omega))]
          rfl
        · rw [if_neg (mt (nl_lt 59 59 rfl (by decide) (by omega)).mp c1)]
          by_cases c2 : (h * 60 + mi) * 10000 + w ≤ most * 600000
          · rw [if_pos ((nu_le (by omega) (by omega)).mpr c2), if_neg (by omega)]
            have := hsd (some (Int32.ofNat ((h * 60 + mi) * 10000 + w)))
            have this : f_X9_sided B (Int32.ofNat ((h * 60 + mi) * 10000 + w)) (Int32.ofNat (f + 1)) ([ab, be].map Int32.ofNat) = _ := this
            rw [this, Option.bind_some, show (h * 60 + mi) * 10000 + w = h * 600000 + (mi * 10000 + w) by omega]
          · rw [if_neg (mt (nu_le (by omega) (by omega)).mp c2), if_pos (Or.inr (by omega))]
            rfl
    · rw [if_neg c6, if_pos (show nd s (p f) (fl p f) < D ∨ D < nd s (p f) (fl p f) by omega)]
      rfl
theorem r_measured (hS : FS m s nf p) (hB : FB m s nf p B) (hf : f < nf) {u : Nat} (hu : u < 128) (r : Option Int32) : f_X9_measured (br B r).2 (br B r).1 (Int32.ofNat f) ([u].map Int32.ofNat) = some (br B (r.bind (S_meas s p f u))) := by
  have hb := hS.b hf
  have main : ∀ (B : md_B) (y : Int32), FB m s nf p B → f_X9_measured B y (Int32.ofNat f) ([u].map Int32.ofNat) = some (if S_meas s p f u y = none ∧ y = -2147483648 then (-2147483648, md_pf B 14 0) else br B (S_meas s p f u y)) := by
    intro B y hB
    unfold f_X9_measured
    rw [r_one hS hB hf _ (by simp) (by simp; omega), Option.bind_some]
    unfold S_one S_meas
    by_cases c : fl p f = 0
    · rw [if_pos c]
      show (if y = -2147483648 then some (y, B) else if (-2147483648 : Int32) = (-2147483648 : Int32) then (f_X9_bad B).bind (fun q22 => some (q22.1, q22.2)) else some (y, B)) = _
      by_cases c0 : y = -2147483648
      · rw [if_pos c0, if_neg (show ¬ (fl p f = 0 ∧ ¬ y = -2147483648 ∨ ¬ fl p f = 0 ∧ ¬ (fl p f = 1 ∧ s (p f) = u)) by simp [c, c0]), if_neg (show ¬ (some y = none ∧ y = -2147483648) from fun h => by simp at h)]
        rfl
      · rw [if_neg c0, if_pos (show (-2147483648 : Int32) = -2147483648 from rfl), if_pos (show (fl p f = 0 ∧ ¬ y = -2147483648 ∨ ¬ fl p f = 0 ∧ ¬ (fl p f = 1 ∧ s (p f) = u)) from Or.inl ⟨c, c0⟩), if_neg (by simp [c0])]
        rfl
    · have h2 := hS.2.2.2.1 (p f) (by omega)
      rw [if_neg c]
      by_cases c1 : fl p f = 1 ∧ s (p f) = u
      · rw [if_pos (show fl p f = 1 ∧ s (p f) ∈ [u] from ⟨c1.1, by rw [c1.2]; simp⟩)]
        show (if y = -2147483648 then some (y, B) else if Int32.ofNat (s (p f)) = (-2147483648 : Int32) then (f_X9_bad B).bind (fun q22 => some (q22.1, q22.2)) else some (y, B)) = _
        rw [if_neg (show ¬ Int32.ofNat (s (p f)) = -2147483648 from none_ne (by omega)), if_neg (show ¬ (fl p f = 0 ∧ ¬ y = -2147483648 ∨ ¬ fl p f = 0 ∧ ¬ (fl p f = 1 ∧ s (p f) = u)) by simp [c, c1]), if_neg (show ¬ (some y = none ∧ y = -2147483648) from fun h => by simp at h), ite_self]
        rfl
      · rw [if_neg (show ¬ (fl p f = 1 ∧ s (p f) ∈ [u]) from fun h => c1 ⟨h.1, by have := h.2; simp at this; exact this⟩)]
        show (if y = -2147483648 then some (y, md_pf B 14 0) else if (-2147483648 : Int32) = (-2147483648 : Int32) then (f_X9_bad (md_pf B 14 0)).bind (fun q22 => some (q22.1, q22.2)) else some (y, md_pf B 14 0)) = _
        rw [if_pos (show (-2147483648 : Int32) = -2147483648 from rfl), if_pos (show (fl p f = 0 ∧ ¬ y = -2147483648 ∨ ¬ fl p f = 0 ∧ ¬ (fl p f = 1 ∧ s (p f) = u)) from Or.inr ⟨c, c1⟩)]
        by_cases c0 : y = -2147483648
        · rw [if_pos c0, if_pos (show (none : Option Int32) = none ∧ y = -2147483648 from ⟨rfl, c0⟩), c0]
        · rw [if_neg c0, if_neg (show ¬ ((none : Option Int32) = none ∧ y = -2147483648) from fun h => c0 h.2)]
          show (some (-2147483648, md_pf (md_pf B 14 0) 14 0) : Option (Int32 × md_B)) = _
          rw [bf_two]
          rfl
  cases r with
  | some y =>
    rw [show (br B (some y)).2 = B from rfl, show (br B (some y)).1 = y from rfl, main B y hB]
    by_cases c : S_meas s p f u y = none ∧ y = -2147483648
    · rw [if_pos c]
      show _ = some (br B (S_meas s p f u y))
      rw [c.1]
      rfl
    · rw [if_neg c]
      rfl
  | none =>
    rw [show (br B none).2 = md_pf B 14 0 from rfl, show (br B none).1 = -2147483648 from rfl, main _ _ hB.wr]
    show _ = some (-2147483648, md_pf B 14 0)
    unfold S_meas
    split
    · rename_i h
      split
      · rw [bf_two]
      · rename_i h2
        exact absurd ⟨rfl, rfl⟩ h2
    · rename_i h
      split
      · rename_i h2
        exact absurd h2.1 (by simp)
      · rfl
end MO
