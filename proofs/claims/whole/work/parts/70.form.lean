/-! ===== PURE: the form of a sentence ===== -/
section FO
variable {a0 m nf : Nat} {s p : Nat → Nat} {T : gh_T} {V : gh_V} {B : md_B}
theorem isf_s (hs : sh a0 T) (hC : FC a0 m s nf p V) (hB : FB m s nf p B) (hm : 5 ≤ m) (t : List Nat) (ht : t.length = 3) (h128 : ∀ d ∈ t, d < 128) : ∃ b : Int32, f_X1_isForm T V (a0 + 8) (t.map Int32.ofNat) = some (b, V) ∧ f_X9_ends B (t.map Int32.ofNat) = some (b, B) := by
  have h0 : f_J0_charAt_5068e (t.map Int32.ofNat) 0 = some (Int32.ofNat t[0]) := cha_t t (by omega) h128 0 (by omega)
  have h1 : f_J0_charAt_5068e (t.map Int32.ofNat) 1 = some (Int32.ofNat t[1]) := cha_t t (by omega) h128 1 (by omega)
  have h2 : f_J0_charAt_5068e (t.map Int32.ofNat) 2 = some (Int32.ofNat t[2]) := cha_t t (by omega) h128 2 (by omega)
  have v2 : V.2 (a0 + 9) (2 : Int32).toNatClampNeg = Int32.ofNat (s 2) := hC.2.1 2 (by omega)
  have v3 : V.2 (a0 + 9) (3 : Int32).toNatClampNeg = Int32.ofNat (s 3) := hC.2.1 3 (by omega)
  have v4 : V.2 (a0 + 9) (4 : Int32).toNatClampNeg = Int32.ofNat (s 4) := hC.2.1 4 (by omega)
  have b2 : B.2 6 (3 : Int32).toNatClampNeg = Int32.ofNat (s 2) := hB.2.1 2 (by omega)
  have b3 : B.2 6 (4 : Int32).toNatClampNeg = Int32.ofNat (s 3) := hB.2.1 3 (by omega)
  have b4 : B.2 6 (5 : Int32).toNatClampNeg = Int32.ofNat (s 4) := hB.2.1 4 (by omega)
  have n2 : sv_inb (2 : Int32) 78 = true := by decide
  have n3 : sv_inb (3 : Int32) 78 = true := by decide
  have n4 : sv_inb (4 : Int32) 78 = true := by decide
  have gt : ∀ {α : Type} (y : Option α), sv_g true y = y := fun y => sv_g_t rfl
  unfold f_X1_isForm f_X9_ends
  simp only [hs.r0_8, hs.l9, h0, h1, h2, v2, v3, v4, b2, b3, b4, Option.bind_some, n2, n3, n4, gt]
  by_cases c1 : Int32.ofNat (s 2) = Int32.ofNat t[0]
  · rw [if_pos c1, if_pos c1]
    by_cases c2 : Int32.ofNat (s 3) = Int32.ofNat t[1]
    · rw [if_pos c2, if_pos c2]
      by_cases c3 : Int32.ofNat (s 4) = Int32.ofNat t[2]
      · rw [if_pos c3, if_pos c3]
        exact ⟨1, rfl, rfl⟩
      · rw [if_neg c3, if_neg c3]
        exact ⟨0, rfl, rfl⟩
    · rw [if_neg c2, if_neg c2]
      exact ⟨0, rfl, rfl⟩
  · rw [if_neg c1, if_neg c1]
    exact ⟨0, rfl, rfl⟩
def fno (c : Nat) : Int32 := if c = 0 then -1 else Int32.ofNat (c - 1)
theorem form_s (hs : sh a0 T) (hS : FS m s nf p) (hC : FC a0 m s nf p V) (hB : FB m s nf p B) (x : Int32) (hx : B.2 6 0 = x) : ∃ c : Nat, c ≤ 4 ∧ f_X1_form T V (a0 + 8) x = some (Int32.ofNat c, V) ∧ f_X9_form B = some (fno c, B) := by
  have h0 : 0 < nf := by have := hS.2.1; omega
  have hb := hS.b h0
  have hp0 : p 0 = 0 := hS.2.2.2.2.1
  have hto : f_X1_to T V (a0 + 8) 0 = some (Int32.ofNat (p 0 + fl p 0), V) := c_to hs hS hC h0
  have hto2 : B.2 12 (0 : Int32).toNatClampNeg = Int32.ofNat (p (0 + 1)) := (hB.2.2 0 h0).2
  unfold f_X1_form f_X9_form
  rw [hto, Option.bind_some, hto2]
  by_cases c5 : p (0 + 1) = 6
  · have e5 : p 0 + fl p 0 = 5 := by omega
    have hm : 5 ≤ m := by omega
    rw [e5, if_pos (show (Int32.ofNat 5, V).1 = 5 from rfl), c5, if_pos (show Int32.ofNat 6 = 6 from rfl)]
    have loop : ∀ (k i n n' : Nat), i + k = 5 → k < n → k < n' → ∃ c : Nat, c ≤ 4 ∧ f_X1_form_13 T (a0 + 8) n V x (Int32.ofNat i) = some (Int32.ofNat c, V) ∧ f_X9_form_15 n' B (Int32.ofNat (i + 1)) = some (fno c, B) := by
      intro k
      induction k with
      | zero =>
        intro i n n' hi hn hn'
        cases n with
        | zero => omega
        | succ n =>
          cases n' with
          | zero => omega
          | succ n' =>
            unfold f_X1_form_13 f_X9_form_15
            rw [if_pos ((nl_le 5 5 rfl (by decide) (by omega)).mpr (by omega)), if_pos ((nl_le 6 6 rfl (by decide) (by omega)).mpr (by omega)), show B.2 6 (0 : Int32).toNatClampNeg = x from hx]
            by_cases c33 : x = 33
            · obtain ⟨b1, d1, d2⟩ := isf_s hs hC hB hm [86, 68, 77] rfl (by decide)
              obtain ⟨b2, d3, d4⟩ := isf_s hs hC hB hm [86, 68, 79] rfl (by decide)
              have d1 : f_X1_isForm T V (a0 + 8) [86, 68, 77] = some (b1, V) := d1
              have d2 : f_X9_ends B [86, 68, 77] = some (b1, B) := d2
              have d3 : f_X1_isForm T V (a0 + 8) [86, 68, 79] = some (b2, V) := d3
              have d4 : f_X9_ends B [86, 68, 79] = some (b2, B) := d4
              rw [if_pos c33, if_pos c33, d1, d2, Option.bind_some, Option.bind_some]
              by_cases e1 : b1 = 0
              · rw [if_pos e1, if_pos e1]
                simp only
                rw [d3, d4, Option.bind_some, Option.bind_some]
                by_cases e2 : b2 = 0
                · rw [if_pos e2, if_pos e2]
                  exact ⟨0, by decide, rfl, rfl⟩
                · rw [if_neg e2, if_neg e2]
                  exact ⟨4, by decide, rfl, rfl⟩
              · rw [if_neg e1, if_neg e1]
                exact ⟨4, by decide, rfl, rfl⟩
            · obtain ⟨b1, d1, d2⟩ := isf_s hs hC hB hm [71, 71, 65] rfl (by decide)
              obtain ⟨b2, d3, d4⟩ := isf_s hs hC hB hm [82, 77, 67] rfl (by decide)
              obtain ⟨b3, d5, d6⟩ := isf_s hs hC hB hm [86, 84, 71] rfl (by decide)
              have d1 : f_X1_isForm T V (a0 + 8) [71, 71, 65] = some (b1, V) := d1
              have d2 : f_X9_ends B [71, 71, 65] = some (b1, B) := d2
              have d3 : f_X1_isForm T V (a0 + 8) [82, 77, 67] = some (b2, V) := d3
              have d4 : f_X9_ends B [82, 77, 67] = some (b2, B) := d4
              have d5 : f_X1_isForm T V (a0 + 8) [86, 84, 71] = some (b3, V) := d5
              have d6 : f_X9_ends B [86, 84, 71] = some (b3, B) := d6
              rw [if_neg c33, if_neg c33, d1, d2, Option.bind_some, Option.bind_some]
              by_cases e1 : b1 = 0
              · rw [if_pos e1, if_pos e1]
                simp only
                rw [d3, d4, Option.bind_some, Option.bind_some]
                by_cases e2 : b2 = 0
                · rw [if_pos e2, if_pos e2]
                  simp only
                  rw [d5, d6, Option.bind_some, Option.bind_some]
                  by_cases e3 : b3 = 0
                  · rw [if_pos e3, if_pos e3]
                    exact ⟨0, by decide, rfl, rfl⟩
                  · rw [if_neg e3, if_neg e3]
                    exact ⟨3, by decide, rfl, rfl⟩
                · rw [if_neg e2, if_neg e2]
                  exact ⟨2, by decide, rfl, rfl⟩
              · rw [if_neg e1, if_neg e1]
                exact ⟨1, by decide, rfl, rfl⟩
      | succ k ih =>
        intro i n n' hi hn hn'
        cases n with
        | zero => omega
        | succ n =>
          cases n' with
          | zero => omega
          | succ n' =>
            have hi' := hS.2.2.2.1 i (by omega)
            have hv := hC.2.1 i (by omega)
            have hbv := hB.2.1 i (by omega)
            have next := ih (i + 1) n n' (by omega) (by omega) (by omega)
            have stop : ∃ c : Nat, c ≤ 4 ∧ (some (0, V) : Option (Int32 × gh_V)) = some (Int32.ofNat c, V) ∧ (some (-1, B) : Option (Int32 × md_B)) = some (fno c, B) := ⟨0, by decide, rfl, rfl⟩
            have e1 : (Int32.ofNat i).toNatClampNeg = i := nu_nat (by omega)
            have e2 : (Int32.ofNat (i + 1)).toNatClampNeg = i + 1 := nu_nat (by omega)
            have nb8 : sv_inb (Int32.ofNat i) 78 = true := nu_inb (by omega) (by omega)
            have nb9 : sv_inb (Int32.ofNat (i + 1)) 79 = true := nu_inb (by omega) (by omega)
            have gt : ∀ {α : Type} (y : Option α), sv_g true y = y := fun y => sv_g_t rfl
            have i65 := in_nat (B := B) (n := s i) (lo := 65) (hi := 90) (l := 65) (h := 90) (by omega) (by decide) (by decide) rfl rfl
            have i48 := in_nat (B := B) (n := s i) (lo := 48) (hi := 57) (l := 48) (h := 57) (by omega) (by decide) (by decide) rfl rfl
            have n10 : ((1 : Int32) = 0) = False := eq_false (by decide)
            unfold f_X1_form_13 f_X9_form_15 f_X1_form_40 f_X1_form_62 f_X1_form_66 f_X1_form_67 f_X9_form_61
            rw [if_neg (mt (nl_le 5 5 rfl (by decide) (by omega)).mp (by omega)), if_neg (mt (nl_le 6 6 rfl (by decide) (by omega)).mp (by omega))]
            simp only [hs.r0_8, hs.l9, nb8, nb9, gt, Option.bind_some, e1, e2, hv, hbv, i65, i48, nu_s, if_true, n10, if_false]
            by_cases c1 : s i < 65
            · rw [if_pos ((nl_gt 65 65 rfl (by decide) (by omega)).mpr c1), if_pos (show (if 65 ≤ s i ∧ s i ≤ 90 then (1 : Int32) else 0) = 0 by rw [if_neg (by omega)])]
              by_cases d1 : s i < 48
              · rw [if_pos ((nl_gt 48 48 rfl (by decide) (by omega)).mpr d1), if_pos (show (if 48 ≤ s i ∧ s i ≤ 57 then (1 : Int32) else 0) = 0 by rw [if_neg (by omega)])]
                exact stop
              · rw [if_neg (mt (nl_gt 48 48 rfl (by decide) (by omega)).mp d1)]
                by_cases d2 : 57 < s i
                · rw [if_pos ((nl_lt 57 57 rfl (by decide) (by omega)).mpr d2), if_pos (show (if 48 ≤ s i ∧ s i ≤ 57 then (1 : Int32) else 0) = 0 by rw [if_neg (by omega)])]
                  exact stop
                · rw [if_neg (mt (nl_lt 57 57 rfl (by decide) (by omega)).mp d2), if_neg (show ¬ (if 48 ≤ s i ∧ s i ≤ 57 then (1 : Int32) else 0) = 0 by rw [if_pos (by omega)]; decide)]
                  exact next
            · rw [if_neg (mt (nl_gt 65 65 rfl (by decide) (by omega)).mp c1)]
              by_cases c2 : s i ≤ 90
              · rw [if_pos ((nl_ge 90 90 rfl (by decide) (by omega)).mpr c2), if_neg (show ¬ (if 65 ≤ s i ∧ s i ≤ 90 then (1 : Int32) else 0) = 0 by rw [if_pos (by omega)]; decide)]
                exact next
              · rw [if_neg (mt (nl_ge 90 90 rfl (by decide) (by omega)).mp c2), if_pos (show (if 65 ≤ s i ∧ s i ≤ 90 then (1 : Int32) else 0) = 0 by rw [if_neg (by omega)]), if_neg (mt (nl_gt 48 48 rfl (by decide) (by omega)).mp (by omega)), if_pos ((nl_lt 57 57 rfl (by decide) (by omega)).mpr (by omega)), if_pos (show (if 48 ≤ s i ∧ s i ≤ 57 then (1 : Int32) else 0) = 0 by rw [if_neg (by omega)])]
                exact stop
    obtain ⟨c, c1, c2, c3⟩ := loop 5 0 sv_fu sv_fu rfl (fu_lt (by decide)) (fu_lt (by decide))
    exact ⟨c, c1, c2, c3⟩
  · have hp1 : p (0 + 1) ≤ 79 := by omega
    rw [if_neg (mt (nl_eq 5 5 rfl (by decide) (by omega)).mp (by omega)), if_neg (mt (nl_eq 6 6 rfl (by decide) (by omega)).mp c5)]
    exact ⟨0, by decide, rfl, rfl⟩
end FO
