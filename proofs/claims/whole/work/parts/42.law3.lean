/-! ===== the law's loop ===== -/
abbrev lw_W (E : sv_E) (h0 : Nat) (ad : Nat → Nat) (B : md_B) (o : Nat) (f : Nat → Int64) (T : gh_T) (V : gh_V) : va_W := md_w E h0 ad B ++ sv_ow E o f (gh_w E T V)
abbrev lw_R : Type := gh_T → gh_V → Nat → md_B → Nat → Prop
/-- a relation that every call keeps, the answers the same; φ: how many cells may still be made -/
def lw_Sim (a0 : Nat) (I : lw_R) : Prop :=
  (∀ T V z B φ, I T V z B φ → gh_ok T ∧ gh_fr T z ∧ gh_is T a0 8) ∧
  (∀ T V z B φ z', I T V z B φ → z ≤ z' → I T V z' B φ) ∧
  (∀ T V z B φ (x1 : Int32) (x2 : Int32) (x3 : Int32) (x4 : Int32) (x5 : Int32), I T V z B φ → ∃ q r, f_X8_feed T V a0 x1 x2 x3 x4 x5 = some q ∧ f_X9_feed B x1 x2 x3 x4 x5 = some r ∧ q.1 = r.1 ∧ I T q.2 z r.2 φ) ∧
  (∀ T V z B φ (x1 : Int32), I T V z B φ → ∃ q r, f_X8_end T V a0 x1 = some q ∧ f_X9_end B x1 = some r ∧ q.1 = r.1 ∧ I T q.2 z r.2 φ) ∧
  (∀ T V z B φ, I T V z B φ → ∃ q r φ1, f_X8_stream T V z a0 = some q ∧ f_X9_stream B = some r ∧ q.1 = r.1 ∧ I q.2.1 q.2.2.1 q.2.2.2 r.2 φ1 ∧ z ≤ q.2.2.2 ∧ q.2.2.2 - z + φ1 ≤ φ) ∧
  (∀ T V z B φ (x1 : Int32), I T V z B φ → ∃ q r, f_X8_count T V a0 x1 = some q ∧ f_X9_count B x1 = some r ∧ q.1 = r.1 ∧ I T q.2 z r.2 φ) ∧
  (∀ T V z B φ (x1 : Int32), I T V z B φ → ∃ q r u, f_X8_fix T V a0 x1 = some q ∧ f_X9_fix B x1 = some r ∧ f_X9_thrown r.2 = some u ∧ u.1 = q.1 ∧ (q.1 = 0 → q.2.1 = r.1) ∧ I T q.2.2 z u.2 φ ∧ q.1 ≠ 2) ∧
  (∀ T V z B φ (x1 : Int32), I T V z B φ → ∃ q r, f_X8_find T V a0 x1 = some q ∧ f_X9_find B x1 = some r ∧ q.1 = r.1 ∧ I T q.2 z r.2 φ) ∧
  (∀ T V z B φ (x1 : Int32) (x2 : Int32), I T V z B φ → ∃ q r u, f_X8_vessel T V a0 x1 x2 = some q ∧ f_X9_vessel B x1 x2 = some r ∧ f_X9_thrown r.2 = some u ∧ u.1 = q.1 ∧ (q.1 = 0 → q.2.1 = r.1) ∧ I T q.2.2 z u.2 φ ∧ q.1 ≠ 2) ∧
  (∀ T V z B φ (x1 : Int32) (x2 : Int32) (x3 : Int32), I T V z B φ → ∃ q r, f_X8_letter T V a0 x1 x2 x3 = some q ∧ f_X9_letter B x1 x2 x3 = some r ∧ q.1 = r.1 ∧ I T q.2 z r.2 φ) ∧
  (∀ T V z B φ (x1 : Int32) (x2 : Int32), I T V z B φ → ∃ q r u, f_X8_bits T V a0 x1 x2 = some q ∧ f_X9_bits B x1 x2 = some r ∧ f_X9_thrown r.2 = some u ∧ u.1 = q.1 ∧ (q.1 = 0 → q.2.1 = r.1) ∧ I T q.2.2 z u.2 φ ∧ q.1 ≠ 2) ∧
  (∀ T V z B φ (x1 : Int32) (x2 : Int32) (x3 : Int32), I T V z B φ → ∃ q r u, f_X8_send T V a0 x1 x2 x3 = some q ∧ f_X9_send B x1 x2 x3 = some r ∧ f_X9_thrown r.2 = some u ∧ u.1 = q.1 ∧ (q.1 = 0 → q.2.1 = r.1) ∧ I T q.2.2 z u.2 φ) ∧
  (∀ T V z B φ (x1 : Int32), I T V z B φ → ∃ q r, f_X8_out T V a0 x1 = some q ∧ f_X9_out B x1 = some r ∧ q.1 = r.1 ∧ I T q.2 z r.2 φ) ∧
  (∀ T V z B φ, I T V z B φ → ∃ q r, f_X8_again T V a0 = some q ∧ f_X9_again B = some r ∧ q.1 = r.1 ∧ I T q.2 z r.2 φ) ∧
  (∀ T V z B φ, I T V z B φ → ∃ q r, f_X8_clear T V a0 = some q ∧ f_X9_clear B = some r ∧ I T q z r φ)
theorem lwi_gt {L n : Nat} (hL : L ≤ 3072) (hn : n ≤ 600) : Int32.ofNat L - 6 < Int32.ofNat (6 * n) ↔ L < 6 * n + 6 := by
  have h1 : (Int32.ofNat L).toInt = (L : Int) := by rw [Int32.toInt_ofNat_of_lt] <;> omega
  have h2 : (Int32.ofNat (6 * n)).toInt = ((6 * n : Nat) : Int) := by rw [Int32.toInt_ofNat_of_lt]; omega
  have h3 : (Int32.ofNat L - 6).toInt = (L : Int) - 6 := by
    rw [Int32.toInt_sub, h1]
    show ((L : Int) - 6).bmod (2 ^ 32) = _
    rw [Int.bmod_eq_of_le] <;> omega
  rw [Int32.lt_iff_toInt_lt, h3, h2]
  omega
theorem lwi_at {n c : Nat} (hn : n ≤ 600) (hc : c ≤ 6) : Int32.ofNat (6 * n) + Int32.ofNat c = Int32.ofNat (6 * n + c) := by
  rw [Int32.ofNat_add]
theorem lwi_nat {n : Nat} (hn : n ≤ 4000) : (Int32.ofNat n).toNatClampNeg = n := by
  exact Int32.toNatClampNeg_ofNat_of_lt (by omega)
theorem lwi_inb {n L : Nat} (hL : L ≤ 3072) (h : n < L) : sv_inb (Int32.ofNat n) L = true := by
  have h1 : (Int32.ofNat n).toInt = (n : Int) := by rw [Int32.toInt_ofNat_of_lt]; omega
  have h2 : ¬ Int32.ofNat n < 0 := by
    rw [Int32.lt_iff_toInt_lt, h1]
    show ¬ (n : Int) < 0
    omega
  have h3 := lwi_nat (n := n) (by omega)
  simp [sv_inb, h2, h3, h]
theorem lwi_i {n L c : Nat} (hL : L ≤ 3072) (hn : n ≤ 600) (hc : c ≤ 5) (h : ¬ L < 6 * n + 6) : sv_inb (Int32.ofNat (6 * n) + Int32.ofNat c) L = true := by
  rw [lwi_at hn (by omega)]
  exact lwi_inb hL (by omega)
section LWL
variable {E : sv_E} {X : sv_X} {h0 : Nat} {ad : Nat → Nat} {B B' : md_B} {o : Nat} {f f' : Nat → Int64} {T T' : gh_T} {V V' : gh_V} {a0 : Nat} {sz sz' ce sl pc : Nat} {lv : List (Nat × Value)} {st rest : List Value}
variable {index : Nat} {y : MethodName} {cb : ByteArray} {mL : Nat} {rt : Option FieldType} {n fr lo : Nat} {As : List Value} {res : Option Value} {mc ms : Nat}
theorem lw_cls (C : sv_C E X cL_law RL []) (L : sv_MV RL index y cb mL rt n) (M : sv_Met (sv_l X) E y cb mL rt fr lo [] (.ref a0 :: As) (gh_w E T V) sz res (gh_w E T' V') sz' mc ms) (o8 : gh_is T a0 8) (hc : (vwCl[8]?).map (fun q => q.1) = some y.cls) (hn : As.length = n) (hst : st = As.reverse ++ .ref a0 :: rest) (hw : (rest.map fun v => v.category).sum ≤ 8)
    (hR : fr + 1 ≤ (sv_R X).frames ∧ 8 + (mL + 11) + lo ≤ (sv_R X).locals) (hcs : ce + mc ≤ (sv_R X).cells ∧ sl + ms ≤ (sv_R X).slots) (hd : decode cL_law pc = .ok (.invokevirtual index, 3)) (kk : sv_J E X (lw_W E h0 ad B o f T' V') sz' (ce + mc) (sl + ms) (pc + 3) lv (res.toList ++ rest)) : sv_J E X (lw_W E h0 ad B o f T V) sz ce sl pc lv st := by
  obtain ⟨k8, hk8⟩ := gh_obj (E := E) (V := V) o8 (by decide)
  unfold lw_W sv_ow at kk ⊢
  rw [← List.append_assoc] at kk ⊢
  exact sv_callVP C L M sv_sx0 k8 hk8 hc hn hst hw hR hcs hd kk
theorem lw_mod (C : sv_C E X cL_law RL []) (L : sv_MV RL index y cb mL rt n) (M : sv_Met (sv_l X) E y cb mL rt fr lo [] (.ref h0 :: As) (md_w E h0 ad B) sz res (md_w E h0 ad B') sz 0 0) (hc : (vwCl[9]?).map (fun q => q.1) = some y.cls) (hn : As.length = n) (hst : st = As.reverse ++ .ref h0 :: rest) (hw : (rest.map fun v => v.category).sum ≤ 8)
    (hR : fr + 1 ≤ (sv_R X).frames ∧ 8 + (mL + 11) + lo ≤ (sv_R X).locals) (hcs : ce ≤ (sv_R X).cells ∧ sl ≤ (sv_R X).slots) (hd : decode cL_law pc = .ok (.invokevirtual index, 3)) (kk : sv_J E X (lw_W E h0 ad B' o f T V) sz ce sl (pc + 3) lv (res.toList ++ rest)) : sv_J E X (lw_W E h0 ad B o f T V) sz ce sl pc lv st :=
  sv_swap (sv_callVP C L M sv_sx0 0 rfl hc hn hst hw hR hcs hd (sv_swap kk))
theorem lw_wrp {hh : List (Nat × Nat × Nat × Nat)} (C : sv_C E X cL_law RL []) (HX : sv_TX X) (L : sv_MSW RL index y cb mL rt hh n) (M : sv_MetW (sv_l X) E y cb mL rt hh fr lo As (sv_ow E o f (gh_w E T V)) sz res (sv_ow E o f' (gh_w E T V'))) (hn : As.length = n) (hst : st = As.reverse ++ rest) (hw : (rest.map fun v => v.category).sum ≤ 8)
    (hR : fr + 1 ≤ (sv_R X).frames ∧ 8 + (mL + 11) + lo ≤ (sv_R X).locals) (hcs : ce + 1 ≤ (sv_R X).cells ∧ sl + 6 ≤ (sv_R X).slots) (hd : decode cL_law pc = .ok (.invokestatic index, 3)) (kk : ∀ z : Nat, sz ≤ z → sv_J E X (lw_W E h0 ad B o f' T V') z (ce + 1) (sl + 6) (pc + 3) lv (res.toList ++ rest)) : sv_J E X (lw_W E h0 ad B o f T V) sz ce sl pc lv st :=
  sv_callSW C HX L M hn hst hw hR hcs hd kk
end LWL
theorem lw_cmp0 {f : Nat → Int64} (x : Int32) : lg_cmp (vp_updL f 0 x.toInt64 (0 : Int32).toNatClampNeg) x.toInt64 = 0 := by
  have h : vp_updL f 0 x.toInt64 (0 : Int32).toNatClampNeg = x.toInt64 := by
    show vp_updL f 0 x.toInt64 0 = _
    simp [vp_updL]
  rw [h]
  simp [lg_cmp]
set_option maxHeartbeats 4000000 in
set_option maxRecDepth 100000 in
theorem lw_c_feed {E : sv_E} {X : sv_X} {b L h0 o a0 : Nat} {ad : Nat → Nat} {xs : Nat → Int32} {I : lw_R} (C : sv_C E X cL_law RL []) (HX : sv_TX X) (hl : (sv_l X).stackTraces = false) (hSc : sv_Sc X b L xs) (hR : sv_R X = room_1) (hN : sv_nL X = 7) (hL : L ≤ 3072) (hI : lw_Sim a0 I) {n k : Nat} {T : gh_T} {V : gh_V} {z : Nat} {B : md_B} {φ : Nat} {f : Nat → Int64} {ce sl : Nat} (hi : I T V z B φ) (hn : n ≤ 600) (hnL : ¬ L < 6 * n + 6) (hce : ce + φ + (k + 1) ≤ 601024) (hsl : sl + 128 * φ + 6 * (k + 1) ≤ 7293034)
    (kk : ∀ (T : gh_T) (V : gh_V) (z : Nat) (B : md_B) (φ : Nat) (f : Nat → Int64) (ce sl : Nat), I T V z B φ → ce + φ + k ≤ 601024 → sl + 128 * φ + 6 * k ≤ 7293034 → sv_J E X (lw_W E h0 ad B o f T V) z ce sl 639 [(0, .ref b), (1, .ref a0), (2, .ref h0), (3, .ref o), (4, .int (Int32.ofNat (6 * n)))] []) : sv_J E X (lw_W E h0 ad B o f T V) z ce sl 108 [(0, .ref b), (1, .ref a0), (2, .ref h0), (3, .ref o), (4, .int (Int32.ofNat (6 * n)))] [] := by
  obtain ⟨hok, hfr, o8⟩ := hI.1 _ _ _ _ _ hi
  obtain ⟨q, r, hq, hr, hqr, hi2⟩ := hI.2.2.1 T V z B φ (xs (Int32.ofNat (6 * n) + 1).toNatClampNeg) (xs (Int32.ofNat (6 * n) + 2).toNatClampNeg) (xs (Int32.ofNat (6 * n) + 3).toNatClampNeg) (xs (Int32.ofNat (6 * n) + 4).toNatClampNeg) (xs (Int32.ofNat (6 * n) + 5).toNatClampNeg) hi
  refine sv_aload_n 1 C dL_law_108 rfl rfl ?_
  refine sv_aload_n 0 C dL_law_109 rfl rfl ?_
  refine sv_iload 4 C dL_law_110 rfl ?_
  refine sv_iconst (v := 1) C dL_law_112 (by decide) ?_
  refine sv_iadd C dL_law_113 ?_
  refine sv_sld C hSc (lwi_i (c := 1) hL hn (by decide) hnL) dL_law_114 ?_
  refine sv_aload_n 0 C dL_law_115 rfl rfl ?_
  refine sv_iload 4 C dL_law_116 rfl ?_
  refine sv_iconst (v := 2) C dL_law_118 (by decide) ?_
  refine sv_iadd C dL_law_119 ?_
  refine sv_sld C hSc (lwi_i (c := 2) hL hn (by decide) hnL) dL_law_120 ?_
  refine sv_aload_n 0 C dL_law_121 rfl rfl ?_
  refine sv_iload 4 C dL_law_122 rfl ?_
  refine sv_iconst (v := 3) C dL_law_124 (by decide) ?_
  refine sv_iadd C dL_law_125 ?_
  refine sv_sld C hSc (lwi_i (c := 3) hL hn (by decide) hnL) dL_law_126 ?_
  refine sv_aload_n 0 C dL_law_127 rfl rfl ?_
  refine sv_iload 4 C dL_law_128 rfl ?_
  refine sv_iconst (v := 4) C dL_law_130 (by decide) ?_
  refine sv_iadd C dL_law_131 ?_
  refine sv_sld C hSc (lwi_i (c := 4) hL hn (by decide) hnL) dL_law_132 ?_
  refine sv_aload_n 0 C dL_law_133 rfl rfl ?_
  refine sv_iload 4 C dL_law_134 rfl ?_
  refine sv_iconst (v := 5) C dL_law_136 (by decide) ?_
  refine sv_iadd C dL_law_137 ?_
  refine sv_sld C hSc (lwi_i (c := 5) hL hn (by decide) hnL) dL_law_138 ?_
  refine lw_cls C mv_L_32 (m_X8_feed (sv_l X) E T z V a0 (xs (Int32.ofNat (6 * n) + 1).toNatClampNeg) (xs (Int32.ofNat (6 * n) + 2).toNatClampNeg) (xs (Int32.ofNat (6 * n) + 3).toNatClampNeg) (xs (Int32.ofNat (6 * n) + 4).toNatClampNeg) (xs (Int32.ofNat (6 * n) + 5).toNatClampNeg) q hq hok o8) o8 rfl rfl rfl (Nat.le_of_ble_eq_true rfl) ⟨by rw [hR]; exact Nat.le_of_ble_eq_true rfl, by rw [hR]; exact Nat.le_of_ble_eq_true rfl⟩ ⟨by rw [hR]; show ce + 0 ≤ 601024; omega, by rw [hR]; show sl + 0 ≤ 7293034; omega⟩ dL_law_139 ?_
  refine sv_aload_n 2 C dL_law_142 rfl rfl ?_
  refine sv_aload_n 0 C dL_law_143 rfl rfl ?_
  refine sv_iload 4 C dL_law_144 rfl ?_
  refine sv_iconst (v := 1) C dL_law_146 (by decide) ?_
  refine sv_iadd C dL_law_147 ?_
  refine sv_sld C hSc (lwi_i (c := 1) hL hn (by decide) hnL) dL_law_148 ?_
  refine sv_aload_n 0 C dL_law_149 rfl rfl ?_
  refine sv_iload 4 C dL_law_150 rfl ?_
  refine sv_iconst (v := 2) C dL_law_152 (by decide) ?_
  refine sv_iadd C dL_law_153 ?_
  refine sv_sld C hSc (lwi_i (c := 2) hL hn (by decide) hnL) dL_law_154 ?_
  refine sv_aload_n 0 C dL_law_155 rfl rfl ?_
  refine sv_iload 4 C dL_law_156 rfl ?_
  refine sv_iconst (v := 3) C dL_law_158 (by decide) ?_
  refine sv_iadd C dL_law_159 ?_
  refine sv_sld C hSc (lwi_i (c := 3) hL hn (by decide) hnL) dL_law_160 ?_
  refine sv_aload_n 0 C dL_law_161 rfl rfl ?_
  refine sv_iload 4 C dL_law_162 rfl ?_
  refine sv_iconst (v := 4) C dL_law_164 (by decide) ?_
  refine sv_iadd C dL_law_165 ?_
  refine sv_sld C hSc (lwi_i (c := 4) hL hn (by decide) hnL) dL_law_166 ?_
  refine sv_aload_n 0 C dL_law_167 rfl rfl ?_
  refine sv_iload 4 C dL_law_168 rfl ?_
  refine sv_iconst (v := 5) C dL_law_170 (by decide) ?_
  refine sv_iadd C dL_law_171 ?_
  refine sv_sld C hSc (lwi_i (c := 5) hL hn (by decide) hnL) dL_law_172 ?_
  refine lw_mod C mv_L_36 (m_X9_feed (sv_l X) E h0 ad _ B (xs (Int32.ofNat (6 * n) + 1).toNatClampNeg) (xs (Int32.ofNat (6 * n) + 2).toNatClampNeg) (xs (Int32.ofNat (6 * n) + 3).toNatClampNeg) (xs (Int32.ofNat (6 * n) + 4).toNatClampNeg) (xs (Int32.ofNat (6 * n) + 5).toNatClampNeg) r hr) rfl rfl rfl (Nat.le_of_ble_eq_true rfl) ⟨by rw [hR]; exact Nat.le_of_ble_eq_true rfl, by rw [hR]; exact Nat.le_of_ble_eq_true rfl⟩ ⟨by rw [hR]; show ce + 0 ≤ 601024; omega, by rw [hR]; show sl + 0 ≤ 7293034; omega⟩ dL_law_173 ?_
  refine sv_icmp_eq (tgt := 639) C dL_law_176 (by decide) (fun _ => ?_) (fun c => absurd hqr c)
  exact kk _ _ _ _ _ _ _ _ hi2 (by omega) (by omega)
set_option maxHeartbeats 4000000 in
set_option maxRecDepth 100000 in
theorem lw_c_end {E : sv_E} {X : sv_X} {b L h0 o a0 : Nat} {ad : Nat → Nat} {xs : Nat → Int32} {I : lw_R} (C : sv_C E X cL_law RL []) (HX : sv_TX X) (hl : (sv_l X).stackTraces = false) (hSc : sv_Sc X b L xs) (hR : sv_R X = room_1) (hN : sv_nL X = 7) (hL : L ≤ 3072) (hI : lw_Sim a0 I) {n k : Nat} {T : gh_T} {V : gh_V} {z : Nat} {B : md_B} {φ : Nat} {f : Nat → Int64} {ce sl : Nat} (hi : I T V z B φ) (hn : n ≤ 600) (hnL : ¬ L < 6 * n + 6) (hce : ce + φ + (k + 1) ≤ 601024) (hsl : sl + 128 * φ + 6 * (k + 1) ≤ 7293034)
    (kk : ∀ (T : gh_T) (V : gh_V) (z : Nat) (B : md_B) (φ : Nat) (f : Nat → Int64) (ce sl : Nat), I T V z B φ → ce + φ + k ≤ 601024 → sl + 128 * φ + 6 * k ≤ 7293034 → sv_J E X (lw_W E h0 ad B o f T V) z ce sl 639 [(0, .ref b), (1, .ref a0), (2, .ref h0), (3, .ref o), (4, .int (Int32.ofNat (6 * n)))] []) : sv_J E X (lw_W E h0 ad B o f T V) z ce sl 181 [(0, .ref b), (1, .ref a0), (2, .ref h0), (3, .ref o), (4, .int (Int32.ofNat (6 * n)))] [] := by
  obtain ⟨hok, hfr, o8⟩ := hI.1 _ _ _ _ _ hi
  obtain ⟨q, r, hq, hr, hqr, hi2⟩ := hI.2.2.2.1 T V z B φ (xs (Int32.ofNat (6 * n) + 1).toNatClampNeg) hi
  refine sv_aload_n 1 C dL_law_181 rfl rfl ?_
  refine sv_aload_n 0 C dL_law_182 rfl rfl ?_
  refine sv_iload 4 C dL_law_183 rfl ?_
  refine sv_iconst (v := 1) C dL_law_185 (by decide) ?_
  refine sv_iadd C dL_law_186 ?_
  refine sv_sld C hSc (lwi_i (c := 1) hL hn (by decide) hnL) dL_law_187 ?_
  refine lw_cls C mv_L_37 (m_X8_end (sv_l X) E T z V a0 (xs (Int32.ofNat (6 * n) + 1).toNatClampNeg) q hq hok o8) o8 rfl rfl rfl (Nat.le_of_ble_eq_true rfl) ⟨by rw [hR]; exact Nat.le_of_ble_eq_true rfl, by rw [hR]; exact Nat.le_of_ble_eq_true rfl⟩ ⟨by rw [hR]; show ce + 0 ≤ 601024; omega, by rw [hR]; show sl + 0 ≤ 7293034; omega⟩ dL_law_188 ?_
  refine sv_aload_n 2 C dL_law_191 rfl rfl ?_
  refine sv_aload_n 0 C dL_law_192 rfl rfl ?_
  refine sv_iload 4 C dL_law_193 rfl ?_
  refine sv_iconst (v := 1) C dL_law_195 (by decide) ?_
  refine sv_iadd C dL_law_196 ?_
  refine sv_sld C hSc (lwi_i (c := 1) hL hn (by decide) hnL) dL_law_197 ?_
  refine lw_mod C mv_L_41 (m_X9_end (sv_l X) E h0 ad _ B (xs (Int32.ofNat (6 * n) + 1).toNatClampNeg) r hr) rfl rfl rfl (Nat.le_of_ble_eq_true rfl) ⟨by rw [hR]; exact Nat.le_of_ble_eq_true rfl, by rw [hR]; exact Nat.le_of_ble_eq_true rfl⟩ ⟨by rw [hR]; show ce + 0 ≤ 601024; omega, by rw [hR]; show sl + 0 ≤ 7293034; omega⟩ dL_law_198 ?_
  refine sv_icmp_eq (tgt := 639) C dL_law_201 (by decide) (fun _ => ?_) (fun c => absurd hqr c)
  exact kk _ _ _ _ _ _ _ _ hi2 (by omega) (by omega)
set_option maxHeartbeats 4000000 in
set_option maxRecDepth 100000 in
theorem lw_c_stream {E : sv_E} {X : sv_X} {b L h0 o a0 : Nat} {ad : Nat → Nat} {xs : Nat → Int32} {I : lw_R} (C : sv_C E X cL_law RL []) (HX : sv_TX X) (hl : (sv_l X).stackTraces = false) (hSc : sv_Sc X b L xs) (hR : sv_R X = room_1) (hN : sv_nL X = 7) (hL : L ≤ 3072) (hI : lw_Sim a0 I) {n k : Nat} {T : gh_T} {V : gh_V} {z : Nat} {B : md_B} {φ : Nat} {f : Nat → Int64} {ce sl : Nat} (hi : I T V z B φ) (hn : n ≤ 600) (hnL : ¬ L < 6 * n + 6) (hce : ce + φ + (k + 1) ≤ 601024) (hsl : sl + 128 * φ + 6 * (k + 1) ≤ 7293034)
    (kk : ∀ (T : gh_T) (V : gh_V) (z : Nat) (B : md_B) (φ : Nat) (f : Nat → Int64) (ce sl : Nat), I T V z B φ → ce + φ + k ≤ 601024 → sl + 128 * φ + 6 * k ≤ 7293034 → sv_J E X (lw_W E h0 ad B o f T V) z ce sl 639 [(0, .ref b), (1, .ref a0), (2, .ref h0), (3, .ref o), (4, .int (Int32.ofNat (6 * n)))] []) : sv_J E X (lw_W E h0 ad B o f T V) z ce sl 206 [(0, .ref b), (1, .ref a0), (2, .ref h0), (3, .ref o), (4, .int (Int32.ofNat (6 * n)))] [] := by
  obtain ⟨hok, hfr, o8⟩ := hI.1 _ _ _ _ _ hi
  obtain ⟨q, r, φ1, hq, hr, hqr, hi2, hz1, hφ⟩ := hI.2.2.2.2.1 T V z B φ hi
  refine sv_aload_n 1 C dL_law_206 rfl rfl ?_
  refine lw_cls C mv_L_42 (m_X8_stream (sv_l X) E T V z a0 q hq hok hfr o8) o8 rfl rfl rfl (Nat.le_of_ble_eq_true rfl) ⟨by rw [hR]; exact Nat.le_of_ble_eq_true rfl, by rw [hR]; exact Nat.le_of_ble_eq_true rfl⟩ ⟨by rw [hR]; show ce + (q.2.2.2 - z) ≤ 601024; omega, by rw [hR]; show sl + 128 * (q.2.2.2 - z) ≤ 7293034; omega⟩ dL_law_207 ?_
  refine sv_aload_n 2 C dL_law_210 rfl rfl ?_
  refine lw_mod C mv_L_46 (m_X9_stream (sv_l X) E h0 ad _ B r hr) rfl rfl rfl (Nat.le_of_ble_eq_true rfl) ⟨by rw [hR]; exact Nat.le_of_ble_eq_true rfl, by rw [hR]; exact Nat.le_of_ble_eq_true rfl⟩ ⟨by rw [hR]; show ce + (q.2.2.2 - z) ≤ 601024; omega, by rw [hR]; show sl + 128 * (q.2.2.2 - z) ≤ 7293034; omega⟩ dL_law_211 ?_
  refine sv_icmp_eq (tgt := 639) C dL_law_214 (by decide) (fun _ => ?_) (fun c => absurd hqr c)
  exact kk _ _ _ _ _ _ _ _ hi2 (by omega) (by omega)
set_option maxHeartbeats 4000000 in
set_option maxRecDepth 100000 in
theorem lw_c_count {E : sv_E} {X : sv_X} {b L h0 o a0 : Nat} {ad : Nat → Nat} {xs : Nat → Int32} {I : lw_R} (C : sv_C E X cL_law RL []) (HX : sv_TX X) (hl : (sv_l X).stackTraces = false) (hSc : sv_Sc X b L xs) (hR : sv_R X = room_1) (hN : sv_nL X = 7) (hL : L ≤ 3072) (hI : lw_Sim a0 I) {n k : Nat} {T : gh_T} {V : gh_V} {z : Nat} {B : md_B} {φ : Nat} {f : Nat → Int64} {ce sl : Nat} (hi : I T V z B φ) (hn : n ≤ 600) (hnL : ¬ L < 6 * n + 6) (hce : ce + φ + (k + 1) ≤ 601024) (hsl : sl + 128 * φ + 6 * (k + 1) ≤ 7293034)
    (kk : ∀ (T : gh_T) (V : gh_V) (z : Nat) (B : md_B) (φ : Nat) (f : Nat → Int64) (ce sl : Nat), I T V z B φ → ce + φ + k ≤ 601024 → sl + 128 * φ + 6 * k ≤ 7293034 → sv_J E X (lw_W E h0 ad B o f T V) z ce sl 639 [(0, .ref b), (1, .ref a0), (2, .ref h0), (3, .ref o), (4, .int (Int32.ofNat (6 * n)))] []) : sv_J E X (lw_W E h0 ad B o f T V) z ce sl 219 [(0, .ref b), (1, .ref a0), (2, .ref h0), (3, .ref o), (4, .int (Int32.ofNat (6 * n)))] [] := by
  obtain ⟨hok, hfr, o8⟩ := hI.1 _ _ _ _ _ hi
  obtain ⟨q, r, hq, hr, hqr, hi2⟩ := hI.2.2.2.2.2.1 T V z B φ (xs (Int32.ofNat (6 * n) + 1).toNatClampNeg) hi
  refine sv_aload_n 1 C dL_law_219 rfl rfl ?_
  refine sv_aload_n 0 C dL_law_220 rfl rfl ?_
  refine sv_iload 4 C dL_law_221 rfl ?_
  refine sv_iconst (v := 1) C dL_law_223 (by decide) ?_
  refine sv_iadd C dL_law_224 ?_
  refine sv_sld C hSc (lwi_i (c := 1) hL hn (by decide) hnL) dL_law_225 ?_
  refine lw_cls C mv_L_47 (m_X8_count (sv_l X) E T z V a0 (xs (Int32.ofNat (6 * n) + 1).toNatClampNeg) q hq hok o8) o8 rfl rfl rfl (Nat.le_of_ble_eq_true rfl) ⟨by rw [hR]; exact Nat.le_of_ble_eq_true rfl, by rw [hR]; exact Nat.le_of_ble_eq_true rfl⟩ ⟨by rw [hR]; show ce + 0 ≤ 601024; omega, by rw [hR]; show sl + 0 ≤ 7293034; omega⟩ dL_law_226 ?_
  refine sv_aload_n 2 C dL_law_229 rfl rfl ?_
  refine sv_aload_n 0 C dL_law_230 rfl rfl ?_
  refine sv_iload 4 C dL_law_231 rfl ?_
  refine sv_iconst (v := 1) C dL_law_233 (by decide) ?_
  refine sv_iadd C dL_law_234 ?_
  refine sv_sld C hSc (lwi_i (c := 1) hL hn (by decide) hnL) dL_law_235 ?_
  refine lw_mod C mv_L_50 (m_X9_count (sv_l X) E h0 ad _ B (xs (Int32.ofNat (6 * n) + 1).toNatClampNeg) r hr) rfl rfl rfl (Nat.le_of_ble_eq_true rfl) ⟨by rw [hR]; exact Nat.le_of_ble_eq_true rfl, by rw [hR]; exact Nat.le_of_ble_eq_true rfl⟩ ⟨by rw [hR]; show ce + 0 ≤ 601024; omega, by rw [hR]; show sl + 0 ≤ 7293034; omega⟩ dL_law_236 ?_
  refine sv_icmp_eq (tgt := 639) C dL_law_239 (by decide) (fun _ => ?_) (fun c => absurd hqr c)
  exact kk _ _ _ _ _ _ _ _ hi2 (by omega) (by omega)
set_option maxHeartbeats 4000000 in
set_option maxRecDepth 100000 in
theorem lw_c_fix {E : sv_E} {X : sv_X} {b L h0 o a0 : Nat} {ad : Nat → Nat} {xs : Nat → Int32} {I : lw_R} (C : sv_C E X cL_law RL []) (HX : sv_TX X) (hl : (sv_l X).stackTraces = false) (hSc : sv_Sc X b L xs) (hR : sv_R X = room_1) (hN : sv_nL X = 7) (hL : L ≤ 3072) (hI : lw_Sim a0 I) {n k : Nat} {T : gh_T} {V : gh_V} {z : Nat} {B : md_B} {φ : Nat} {f : Nat → Int64} {ce sl : Nat} (hi : I T V z B φ) (hn : n ≤ 600) (hnL : ¬ L < 6 * n + 6) (hce : ce + φ + (k + 1) ≤ 601024) (hsl : sl + 128 * φ + 6 * (k + 1) ≤ 7293034)
    (kk : ∀ (T : gh_T) (V : gh_V) (z : Nat) (B : md_B) (φ : Nat) (f : Nat → Int64) (ce sl : Nat), I T V z B φ → ce + φ + k ≤ 601024 → sl + 128 * φ + 6 * k ≤ 7293034 → sv_J E X (lw_W E h0 ad B o f T V) z ce sl 639 [(0, .ref b), (1, .ref a0), (2, .ref h0), (3, .ref o), (4, .int (Int32.ofNat (6 * n)))] []) : sv_J E X (lw_W E h0 ad B o f T V) z ce sl 244 [(0, .ref b), (1, .ref a0), (2, .ref h0), (3, .ref o), (4, .int (Int32.ofNat (6 * n)))] [] := by
  obtain ⟨hok, hfr, o8⟩ := hI.1 _ _ _ _ _ hi
  obtain ⟨q, r, u, hq, hr, hu, huq, hqr, hi2, hq2⟩ := hI.2.2.2.2.2.2.1 T V z B φ (xs (Int32.ofNat (6 * n) + 1).toNatClampNeg) hi
  refine sv_aload_n 1 C dL_law_244 rfl rfl ?_
  refine sv_aload_n 0 C dL_law_245 rfl rfl ?_
  refine sv_iload 4 C dL_law_246 rfl ?_
  refine sv_iconst (v := 1) C dL_law_248 (by decide) ?_
  refine sv_iadd C dL_law_249 ?_
  refine sv_sld C hSc (lwi_i (c := 1) hL hn (by decide) hnL) dL_law_250 ?_
  refine sv_aload_n 3 C dL_law_251 rfl rfl ?_
  refine lw_wrp C HX mw_L_51 (m_L_fix (sv_l X) hl E T z V a0 (xs (Int32.ofNat (6 * n) + 1).toNatClampNeg) o f q hq hok o8 hq2) rfl rfl (Nat.le_of_ble_eq_true rfl) ⟨by rw [hR]; exact Nat.le_of_ble_eq_true rfl, by rw [hR]; exact Nat.le_of_ble_eq_true rfl⟩ ⟨by rw [hR]; show ce + 1 ≤ 601024; omega, by rw [hR]; show sl + 6 ≤ 7293034; omega⟩ dL_law_252 (fun z9 hz9 => ?_)
  replace hi2 := hI.2.1 _ _ _ _ _ z9 hi2 hz9
  generalize hff : sv_of f q.1 q.2.1 = f9
  refine sv_istore (lv' := [(5, .int q.1), (0, .ref b), (1, .ref a0), (2, .ref h0), (3, .ref o), (4, .int (Int32.ofNat (6 * n)))]) C dL_law_255 (by rw [hN]; decide) rfl ?_
  refine sv_aload_n 3 C dL_law_257 rfl rfl ?_
  refine sv_aload_n 1 C dL_law_258 rfl rfl ?_
  refine sv_iload 5 C dL_law_259 rfl ?_
  refine sv_iconst (v := 1) C dL_law_261 (by decide) ?_
  refine sv_iadd C dL_law_262 ?_
  refine sv_sld C hSc (lwi_i (c := 1) hL hn (by decide) hnL) dL_law_263 ?_
  refine lw_mod C mv_L_56 (m_X9_fix (sv_l X) E h0 ad _ B (xs (Int32.ofNat (6 * n) + 1).toNatClampNeg) r hr) rfl rfl rfl (Nat.le_of_ble_eq_true rfl) ⟨by rw [hR]; exact Nat.le_of_ble_eq_true rfl, by rw [hR]; exact Nat.le_of_ble_eq_true rfl⟩ ⟨by rw [hR]; show ce + 1 ≤ 601024; omega, by rw [hR]; show sl + 6 ≤ 7293034; omega⟩ dL_law_264 ?_
  refine sv_istore (lv' := [(6, .int r.1), (5, .int q.1), (0, .ref b), (1, .ref a0), (2, .ref h0), (3, .ref o), (4, .int (Int32.ofNat (6 * n)))]) C dL_law_267 (by rw [hN]; decide) rfl ?_
  refine sv_aload_n 4 C dL_law_269 rfl rfl ?_
  refine lw_mod C mv_L_57 (m_X9_thrown (sv_l X) E h0 ad _ r.2 u hu) rfl rfl rfl (Nat.le_of_ble_eq_true rfl) ⟨by rw [hR]; exact Nat.le_of_ble_eq_true rfl, by rw [hR]; exact Nat.le_of_ble_eq_true rfl⟩ ⟨by rw [hR]; show ce + 1 ≤ 601024; omega, by rw [hR]; show sl + 6 ≤ 7293034; omega⟩ dL_law_270 ?_
  refine sv_iload 1 C dL_law_273 rfl ?_
  refine sv_icmp_eq (tgt := 280) C dL_law_275 (by decide) (fun _ => ?_) (fun c => absurd huq c)
  refine sv_iload 1 C dL_law_280 rfl ?_
  have hgo : sv_J E X (lw_W E h0 ad u.2 o f9 T q.2.2) z9 (ce + 1) (sl + 6) 297 [(6, .int r.1), (5, .int q.1), (0, .ref b), (1, .ref a0), (2, .ref h0), (3, .ref o), (4, .int (Int32.ofNat (6 * n)))] [] := by
    refine sv_goto (tgt := 639) C dL_law_297 (by decide) ?_
    refine sv_sub (lv' := [(0, .ref b), (1, .ref a0), (2, .ref h0), (3, .ref o), (4, .int (Int32.ofNat (6 * n)))]) [2, 3, 4, 5, 6] rfl ?_
    exact kk _ _ _ _ _ _ _ _ hi2 (by omega) (by omega)
  refine sv_if_ne (tgt := 297) C dL_law_282 (by decide) (fun _ => hgo) (fun c0 => ?_)
  refine sv_aload_n 5 C dL_law_285 rfl rfl ?_
  refine sv_iconst (v := 0) C dL_law_286 (by decide) ?_
  refine sv_lald (i := 0) C 18 rfl (by decide) dL_law_287 ?_
  refine sv_iload 0 C dL_law_288 rfl ?_
  refine sv_i2l C dL_law_290 ?_
  refine sv_lcmp C dL_law_291 ?_
  refine sv_if_eq (tgt := 297) C dL_law_292 (by decide) (fun _ => hgo) (fun c => absurd ?_ c)
  rw [← hff, sv_of, if_pos c0, hqr c0]
  exact lw_cmp0 r.1
set_option maxHeartbeats 4000000 in
set_option maxRecDepth 100000 in
theorem lw_c_find {E : sv_E} {X : sv_X} {b L h0 o a0 : Nat} {ad : Nat → Nat} {xs : Nat → Int32} {I : lw_R} (C : sv_C E X cL_law RL []) (HX : sv_TX X) (hl : (sv_l X).stackTraces = false) (hSc : sv_Sc X b L xs) (hR : sv_R X = room_1) (hN : sv_nL X = 7) (hL : L ≤ 3072) (hI : lw_Sim a0 I) {n k : Nat} {T : gh_T} {V : gh_V} {z : Nat} {B : md_B} {φ : Nat} {f : Nat → Int64} {ce sl : Nat} (hi : I T V z B φ) (hn : n ≤ 600) (hnL : ¬ L < 6 * n + 6) (hce : ce + φ + (k + 1) ≤ 601024) (hsl : sl + 128 * φ + 6 * (k + 1) ≤ 7293034)
    (kk : ∀ (T : gh_T) (V : gh_V) (z : Nat) (B : md_B) (φ : Nat) (f : Nat → Int64) (ce sl : Nat), I T V z B φ → ce + φ + k ≤ 601024 → sl + 128 * φ + 6 * k ≤ 7293034 → sv_J E X (lw_W E h0 ad B o f T V) z ce sl 639 [(0, .ref b), (1, .ref a0), (2, .ref h0), (3, .ref o), (4, .int (Int32.ofNat (6 * n)))] []) : sv_J E X (lw_W E h0 ad B o f T V) z ce sl 300 [(0, .ref b), (1, .ref a0), (2, .ref h0), (3, .ref o), (4, .int (Int32.ofNat (6 * n)))] [] := by
  obtain ⟨hok, hfr, o8⟩ := hI.1 _ _ _ _ _ hi
  obtain ⟨q, r, hq, hr, hqr, hi2⟩ := hI.2.2.2.2.2.2.2.1 T V z B φ (xs (Int32.ofNat (6 * n) + 1).toNatClampNeg) hi
  refine sv_aload_n 1 C dL_law_300 rfl rfl ?_
  refine sv_aload_n 0 C dL_law_301 rfl rfl ?_
  refine sv_iload 4 C dL_law_302 rfl ?_
  refine sv_iconst (v := 1) C dL_law_304 (by decide) ?_
  refine sv_iadd C dL_law_305 ?_
  refine sv_sld C hSc (lwi_i (c := 1) hL hn (by decide) hnL) dL_law_306 ?_
  refine lw_cls C mv_L_60 (m_X8_find (sv_l X) E T z V a0 (xs (Int32.ofNat (6 * n) + 1).toNatClampNeg) q hq hok o8) o8 rfl rfl rfl (Nat.le_of_ble_eq_true rfl) ⟨by rw [hR]; exact Nat.le_of_ble_eq_true rfl, by rw [hR]; exact Nat.le_of_ble_eq_true rfl⟩ ⟨by rw [hR]; show ce + 0 ≤ 601024; omega, by rw [hR]; show sl + 0 ≤ 7293034; omega⟩ dL_law_307 ?_
  refine sv_aload_n 2 C dL_law_310 rfl rfl ?_
  refine sv_aload_n 0 C dL_law_311 rfl rfl ?_
  refine sv_iload 4 C dL_law_312 rfl ?_
  refine sv_iconst (v := 1) C dL_law_314 (by decide) ?_
  refine sv_iadd C dL_law_315 ?_
  refine sv_sld C hSc (lwi_i (c := 1) hL hn (by decide) hnL) dL_law_316 ?_
  refine lw_mod C mv_L_63 (m_X9_find (sv_l X) E h0 ad _ B (xs (Int32.ofNat (6 * n) + 1).toNatClampNeg) r hr) rfl rfl rfl (Nat.le_of_ble_eq_true rfl) ⟨by rw [hR]; exact Nat.le_of_ble_eq_true rfl, by rw [hR]; exact Nat.le_of_ble_eq_true rfl⟩ ⟨by rw [hR]; show ce + 0 ≤ 601024; omega, by rw [hR]; show sl + 0 ≤ 7293034; omega⟩ dL_law_317 ?_
  refine sv_icmp_eq (tgt := 639) C dL_law_320 (by decide) (fun _ => ?_) (fun c => absurd hqr c)
  exact kk _ _ _ _ _ _ _ _ hi2 (by omega) (by omega)
set_option maxHeartbeats 4000000 in
set_option maxRecDepth 100000 in
theorem lw_c_vessel {E : sv_E} {X : sv_X} {b L h0 o a0 : Nat} {ad : Nat → Nat} {xs : Nat → Int32} {I : lw_R} (C : sv_C E X cL_law RL []) (HX : sv_TX X) (hl : (sv_l X).stackTraces = false) (hSc : sv_Sc X b L xs) (hR : sv_R X = room_1) (hN : sv_nL X = 7) (hL : L ≤ 3072) (hI : lw_Sim a0 I) {n k : Nat} {T : gh_T} {V : gh_V} {z : Nat} {B : md_B} {φ : Nat} {f : Nat → Int64} {ce sl : Nat} (hi : I T V z B φ) (hn : n ≤ 600) (hnL : ¬ L < 6 * n + 6) (hce : ce + φ + (k + 1) ≤ 601024) (hsl : sl + 128 * φ + 6 * (k + 1) ≤ 7293034)
    (kk : ∀ (T : gh_T) (V : gh_V) (z : Nat) (B : md_B) (φ : Nat) (f : Nat → Int64) (ce sl : Nat), I T V z B φ → ce + φ + k ≤ 601024 → sl + 128 * φ + 6 * k ≤ 7293034 → sv_J E X (lw_W E h0 ad B o f T V) z ce sl 639 [(0, .ref b), (1, .ref a0), (2, .ref h0), (3, .ref o), (4, .int (Int32.ofNat (6 * n)))] []) : sv_J E X (lw_W E h0 ad B o f T V) z ce sl 325 [(0, .ref b), (1, .ref a0), (2, .ref h0), (3, .ref o), (4, .int (Int32.ofNat (6 * n)))] [] := by
  obtain ⟨hok, hfr, o8⟩ := hI.1 _ _ _ _ _ hi
  obtain ⟨q, r, u, hq, hr, hu, huq, hqr, hi2, hq2⟩ := hI.2.2.2.2.2.2.2.2.1 T V z B φ (xs (Int32.ofNat (6 * n) + 1).toNatClampNeg) (xs (Int32.ofNat (6 * n) + 2).toNatClampNeg) hi
  refine sv_aload_n 1 C dL_law_325 rfl rfl ?_
  refine sv_aload_n 0 C dL_law_326 rfl rfl ?_
  refine sv_iload 4 C dL_law_327 rfl ?_
  refine sv_iconst (v := 1) C dL_law_329 (by decide) ?_
  refine sv_iadd C dL_law_330 ?_
  refine sv_sld C hSc (lwi_i (c := 1) hL hn (by decide) hnL) dL_law_331 ?_
  refine sv_aload_n 0 C dL_law_332 rfl rfl ?_
  refine sv_iload 4 C dL_law_333 rfl ?_
  refine sv_iconst (v := 2) C dL_law_335 (by decide) ?_
  refine sv_iadd C dL_law_336 ?_
  refine sv_sld C hSc (lwi_i (c := 2) hL hn (by decide) hnL) dL_law_337 ?_
  refine sv_aload_n 3 C dL_law_338 rfl rfl ?_
  refine lw_wrp C HX mw_L_64 (m_L_vessel (sv_l X) hl E T z V a0 (xs (Int32.ofNat (6 * n) + 1).toNatClampNeg) (xs (Int32.ofNat (6 * n) + 2).toNatClampNeg) o f q hq hok o8 hq2) rfl rfl (Nat.le_of_ble_eq_true rfl) ⟨by rw [hR]; exact Nat.le_of_ble_eq_true rfl, by rw [hR]; exact Nat.le_of_ble_eq_true rfl⟩ ⟨by rw [hR]; show ce + 1 ≤ 601024; omega, by rw [hR]; show sl + 6 ≤ 7293034; omega⟩ dL_law_339 (fun z9 hz9 => ?_)
  replace hi2 := hI.2.1 _ _ _ _ _ z9 hi2 hz9
  generalize hff : sv_of f q.1 q.2.1 = f9
  refine sv_istore (lv' := [(5, .int q.1), (0, .ref b), (1, .ref a0), (2, .ref h0), (3, .ref o), (4, .int (Int32.ofNat (6 * n)))]) C dL_law_342 (by rw [hN]; decide) rfl ?_
  refine sv_aload_n 3 C dL_law_344 rfl rfl ?_
  refine sv_aload_n 1 C dL_law_345 rfl rfl ?_
  refine sv_iload 5 C dL_law_346 rfl ?_
  refine sv_iconst (v := 1) C dL_law_348 (by decide) ?_
  refine sv_iadd C dL_law_349 ?_
  refine sv_sld C hSc (lwi_i (c := 1) hL hn (by decide) hnL) dL_law_350 ?_
  refine sv_aload_n 1 C dL_law_351 rfl rfl ?_
  refine sv_iload 5 C dL_law_352 rfl ?_
  refine sv_iconst (v := 2) C dL_law_354 (by decide) ?_
  refine sv_iadd C dL_law_355 ?_
  refine sv_sld C hSc (lwi_i (c := 2) hL hn (by decide) hnL) dL_law_356 ?_
  refine lw_mod C mv_L_67 (m_X9_vessel (sv_l X) E h0 ad _ B (xs (Int32.ofNat (6 * n) + 1).toNatClampNeg) (xs (Int32.ofNat (6 * n) + 2).toNatClampNeg) r hr) rfl rfl rfl (Nat.le_of_ble_eq_true rfl) ⟨by rw [hR]; exact Nat.le_of_ble_eq_true rfl, by rw [hR]; exact Nat.le_of_ble_eq_true rfl⟩ ⟨by rw [hR]; show ce + 1 ≤ 601024; omega, by rw [hR]; show sl + 6 ≤ 7293034; omega⟩ dL_law_357 ?_
  refine sv_istore (lv' := [(6, .int r.1), (5, .int q.1), (0, .ref b), (1, .ref a0), (2, .ref h0), (3, .ref o), (4, .int (Int32.ofNat (6 * n)))]) C dL_law_360 (by rw [hN]; decide) rfl ?_
  refine sv_aload_n 4 C dL_law_362 rfl rfl ?_
  refine lw_mod C mv_L_57 (m_X9_thrown (sv_l X) E h0 ad _ r.2 u hu) rfl rfl rfl (Nat.le_of_ble_eq_true rfl) ⟨by rw [hR]; exact Nat.le_of_ble_eq_true rfl, by rw [hR]; exact Nat.le_of_ble_eq_true rfl⟩ ⟨by rw [hR]; show ce + 1 ≤ 601024; omega, by rw [hR]; show sl + 6 ≤ 7293034; omega⟩ dL_law_363 ?_
  refine sv_iload 1 C dL_law_366 rfl ?_
  refine sv_icmp_eq (tgt := 373) C dL_law_368 (by decide) (fun _ => ?_) (fun c => absurd huq c)
  refine sv_iload 1 C dL_law_373 rfl ?_
  have hgo : sv_J E X (lw_W E h0 ad u.2 o f9 T q.2.2) z9 (ce + 1) (sl + 6) 390 [(6, .int r.1), (5, .int q.1), (0, .ref b), (1, .ref a0), (2, .ref h0), (3, .ref o), (4, .int (Int32.ofNat (6 * n)))] [] := by
    refine sv_goto (tgt := 639) C dL_law_390 (by decide) ?_
    refine sv_sub (lv' := [(0, .ref b), (1, .ref a0), (2, .ref h0), (3, .ref o), (4, .int (Int32.ofNat (6 * n)))]) [2, 3, 4, 5, 6] rfl ?_
    exact kk _ _ _ _ _ _ _ _ hi2 (by omega) (by omega)
  refine sv_if_ne (tgt := 390) C dL_law_375 (by decide) (fun _ => hgo) (fun c0 => ?_)
  refine sv_aload_n 5 C dL_law_378 rfl rfl ?_
  refine sv_iconst (v := 0) C dL_law_379 (by decide) ?_
  refine sv_lald (i := 0) C 18 rfl (by decide) dL_law_380 ?_
  refine sv_iload 0 C dL_law_381 rfl ?_
  refine sv_i2l C dL_law_383 ?_
  refine sv_lcmp C dL_law_384 ?_
  refine sv_if_eq (tgt := 390) C dL_law_385 (by decide) (fun _ => hgo) (fun c => absurd ?_ c)
  rw [← hff, sv_of, if_pos c0, hqr c0]
  exact lw_cmp0 r.1
set_option maxHeartbeats 4000000 in
set_option maxRecDepth 100000 in
theorem lw_c_letter {E : sv_E} {X : sv_X} {b L h0 o a0 : Nat} {ad : Nat → Nat} {xs : Nat → Int32} {I : lw_R} (C : sv_C E X cL_law RL []) (HX : sv_TX X) (hl : (sv_l X).stackTraces = false) (hSc : sv_Sc X b L xs) (hR : sv_R X = room_1) (hN : sv_nL X = 7) (hL : L ≤ 3072) (hI : lw_Sim a0 I) {n k : Nat} {T : gh_T} {V : gh_V} {z : Nat} {B : md_B} {φ : Nat} {f : Nat → Int64} {ce sl : Nat} (hi : I T V z B φ) (hn : n ≤ 600) (hnL : ¬ L < 6 * n + 6) (hce : ce + φ + (k + 1) ≤ 601024) (hsl : sl + 128 * φ + 6 * (k + 1) ≤ 7293034)
    (kk : ∀ (T : gh_T) (V : gh_V) (z : Nat) (B : md_B) (φ : Nat) (f : Nat → Int64) (ce sl : Nat), I T V z B φ → ce + φ + k ≤ 601024 → sl + 128 * φ + 6 * k ≤ 7293034 → sv_J E X (lw_W E h0 ad B o f T V) z ce sl 639 [(0, .ref b), (1, .ref a0), (2, .ref h0), (3, .ref o), (4, .int (Int32.ofNat (6 * n)))] []) : sv_J E X (lw_W E h0 ad B o f T V) z ce sl 393 [(0, .ref b), (1, .ref a0), (2, .ref h0), (3, .ref o), (4, .int (Int32.ofNat (6 * n)))] [] := by
  obtain ⟨hok, hfr, o8⟩ := hI.1 _ _ _ _ _ hi
  obtain ⟨q, r, hq, hr, hqr, hi2⟩ := hI.2.2.2.2.2.2.2.2.2.1 T V z B φ (xs (Int32.ofNat (6 * n) + 1).toNatClampNeg) (xs (Int32.ofNat (6 * n) + 2).toNatClampNeg) (xs (Int32.ofNat (6 * n) + 3).toNatClampNeg) hi
  refine sv_aload_n 1 C dL_law_393 rfl rfl ?_
  refine sv_aload_n 0 C dL_law_394 rfl rfl ?_
  refine sv_iload 4 C dL_law_395 rfl ?_
  refine sv_iconst (v := 1) C dL_law_397 (by decide) ?_
  refine sv_iadd C dL_law_398 ?_
  refine sv_sld C hSc (lwi_i (c := 1) hL hn (by decide) hnL) dL_law_399 ?_
  refine sv_aload_n 0 C dL_law_400 rfl rfl ?_
  refine sv_iload 4 C dL_law_401 rfl ?_
  refine sv_iconst (v := 2) C dL_law_403 (by decide) ?_
  refine sv_iadd C dL_law_404 ?_
  refine sv_sld C hSc (lwi_i (c := 2) hL hn (by decide) hnL) dL_law_405 ?_
  refine sv_aload_n 0 C dL_law_406 rfl rfl ?_
  refine sv_iload 4 C dL_law_407 rfl ?_
  refine sv_iconst (v := 3) C dL_law_409 (by decide) ?_
  refine sv_iadd C dL_law_410 ?_
  refine sv_sld C hSc (lwi_i (c := 3) hL hn (by decide) hnL) dL_law_411 ?_
  refine lw_cls C mv_L_68 (m_X8_letter (sv_l X) E T z V a0 (xs (Int32.ofNat (6 * n) + 1).toNatClampNeg) (xs (Int32.ofNat (6 * n) + 2).toNatClampNeg) (xs (Int32.ofNat (6 * n) + 3).toNatClampNeg) q hq hok o8) o8 rfl rfl rfl (Nat.le_of_ble_eq_true rfl) ⟨by rw [hR]; exact Nat.le_of_ble_eq_true rfl, by rw [hR]; exact Nat.le_of_ble_eq_true rfl⟩ ⟨by rw [hR]; show ce + 0 ≤ 601024; omega, by rw [hR]; show sl + 0 ≤ 7293034; omega⟩ dL_law_412 ?_
  refine sv_aload_n 2 C dL_law_415 rfl rfl ?_
  refine sv_aload_n 0 C dL_law_416 rfl rfl ?_
  refine sv_iload 4 C dL_law_417 rfl ?_
  refine sv_iconst (v := 1) C dL_law_419 (by decide) ?_
  refine sv_iadd C dL_law_420 ?_
  refine sv_sld C hSc (lwi_i (c := 1) hL hn (by decide) hnL) dL_law_421 ?_
  refine sv_aload_n 0 C dL_law_422 rfl rfl ?_
  refine sv_iload 4 C dL_law_423 rfl ?_
  refine sv_iconst (v := 2) C dL_law_425 (by decide) ?_
  refine sv_iadd C dL_law_426 ?_
  refine sv_sld C hSc (lwi_i (c := 2) hL hn (by decide) hnL) dL_law_427 ?_
  refine sv_aload_n 0 C dL_law_428 rfl rfl ?_
  refine sv_iload 4 C dL_law_429 rfl ?_
  refine sv_iconst (v := 3) C dL_law_431 (by decide) ?_
  refine sv_iadd C dL_law_432 ?_
  refine sv_sld C hSc (lwi_i (c := 3) hL hn (by decide) hnL) dL_law_433 ?_
  refine lw_mod C mv_L_71 (m_X9_letter (sv_l X) E h0 ad _ B (xs (Int32.ofNat (6 * n) + 1).toNatClampNeg) (xs (Int32.ofNat (6 * n) + 2).toNatClampNeg) (xs (Int32.ofNat (6 * n) + 3).toNatClampNeg) r hr) rfl rfl rfl (Nat.le_of_ble_eq_true rfl) ⟨by rw [hR]; exact Nat.le_of_ble_eq_true rfl, by rw [hR]; exact Nat.le_of_ble_eq_true rfl⟩ ⟨by rw [hR]; show ce + 0 ≤ 601024; omega, by rw [hR]; show sl + 0 ≤ 7293034; omega⟩ dL_law_434 ?_
  refine sv_icmp_eq (tgt := 639) C dL_law_437 (by decide) (fun _ => ?_) (fun c => absurd hqr c)
  exact kk _ _ _ _ _ _ _ _ hi2 (by omega) (by omega)
set_option maxHeartbeats 4000000 in
set_option maxRecDepth 100000 in
theorem lw_c_bits {E : sv_E} {X : sv_X} {b L h0 o a0 : Nat} {ad : Nat → Nat} {xs : Nat → Int32} {I : lw_R} (C : sv_C E X cL_law RL []) (HX : sv_TX X) (hl : (sv_l X).stackTraces = false) (hSc : sv_Sc X b L xs) (hR : sv_R X = room_1) (hN : sv_nL X = 7) (hL : L ≤ 3072) (hI : lw_Sim a0 I) {n k : Nat} {T : gh_T} {V : gh_V} {z : Nat} {B : md_B} {φ : Nat} {f : Nat → Int64} {ce sl : Nat} (hi : I T V z B φ) (hn : n ≤ 600) (hnL : ¬ L < 6 * n + 6) (hce : ce + φ + (k + 1) ≤ 601024) (hsl : sl + 128 * φ + 6 * (k + 1) ≤ 7293034)
    (kk : ∀ (T : gh_T) (V : gh_V) (z : Nat) (B : md_B) (φ : Nat) (f : Nat → Int64) (ce sl : Nat), I T V z B φ → ce + φ + k ≤ 601024 → sl + 128 * φ + 6 * k ≤ 7293034 → sv_J E X (lw_W E h0 ad B o f T V) z ce sl 639 [(0, .ref b), (1, .ref a0), (2, .ref h0), (3, .ref o), (4, .int (Int32.ofNat (6 * n)))] []) : sv_J E X (lw_W E h0 ad B o f T V) z ce sl 442 [(0, .ref b), (1, .ref a0), (2, .ref h0), (3, .ref o), (4, .int (Int32.ofNat (6 * n)))] [] := by
  obtain ⟨hok, hfr, o8⟩ := hI.1 _ _ _ _ _ hi
  obtain ⟨q, r, u, hq, hr, hu, huq, hqr, hi2, hq2⟩ := hI.2.2.2.2.2.2.2.2.2.2.1 T V z B φ (xs (Int32.ofNat (6 * n) + 1).toNatClampNeg) (xs (Int32.ofNat (6 * n) + 2).toNatClampNeg) hi
  refine sv_aload_n 1 C dL_law_442 rfl rfl ?_
  refine sv_aload_n 0 C dL_law_443 rfl rfl ?_
  refine sv_iload 4 C dL_law_444 rfl ?_
  refine sv_iconst (v := 1) C dL_law_446 (by decide) ?_
  refine sv_iadd C dL_law_447 ?_
  refine sv_sld C hSc (lwi_i (c := 1) hL hn (by decide) hnL) dL_law_448 ?_
  refine sv_aload_n 0 C dL_law_449 rfl rfl ?_
  refine sv_iload 4 C dL_law_450 rfl ?_
  refine sv_iconst (v := 2) C dL_law_452 (by decide) ?_
  refine sv_iadd C dL_law_453 ?_
  refine sv_sld C hSc (lwi_i (c := 2) hL hn (by decide) hnL) dL_law_454 ?_
  refine sv_aload_n 3 C dL_law_455 rfl rfl ?_
  refine lw_wrp C HX mw_L_72 (m_L_bits (sv_l X) hl E T z V a0 (xs (Int32.ofNat (6 * n) + 1).toNatClampNeg) (xs (Int32.ofNat (6 * n) + 2).toNatClampNeg) o f q hq hok o8 hq2) rfl rfl (Nat.le_of_ble_eq_true rfl) ⟨by rw [hR]; exact Nat.le_of_ble_eq_true rfl, by rw [hR]; exact Nat.le_of_ble_eq_true rfl⟩ ⟨by rw [hR]; show ce + 1 ≤ 601024; omega, by rw [hR]; show sl + 6 ≤ 7293034; omega⟩ dL_law_456 (fun z9 hz9 => ?_)
  replace hi2 := hI.2.1 _ _ _ _ _ z9 hi2 hz9
  generalize hff : sv_of f q.1 q.2.1 = f9
  refine sv_istore (lv' := [(5, .int q.1), (0, .ref b), (1, .ref a0), (2, .ref h0), (3, .ref o), (4, .int (Int32.ofNat (6 * n)))]) C dL_law_459 (by rw [hN]; decide) rfl ?_
  refine sv_aload_n 3 C dL_law_461 rfl rfl ?_
  refine sv_aload_n 1 C dL_law_462 rfl rfl ?_
  refine sv_iload 5 C dL_law_463 rfl ?_
  refine sv_iconst (v := 1) C dL_law_465 (by decide) ?_
  refine sv_iadd C dL_law_466 ?_
  refine sv_sld C hSc (lwi_i (c := 1) hL hn (by decide) hnL) dL_law_467 ?_
  refine sv_aload_n 1 C dL_law_468 rfl rfl ?_
  refine sv_iload 5 C dL_law_469 rfl ?_
  refine sv_iconst (v := 2) C dL_law_471 (by decide) ?_
  refine sv_iadd C dL_law_472 ?_
  refine sv_sld C hSc (lwi_i (c := 2) hL hn (by decide) hnL) dL_law_473 ?_
  refine lw_mod C mv_L_74 (m_X9_bits (sv_l X) E h0 ad _ B (xs (Int32.ofNat (6 * n) + 1).toNatClampNeg) (xs (Int32.ofNat (6 * n) + 2).toNatClampNeg) r hr) rfl rfl rfl (Nat.le_of_ble_eq_true rfl) ⟨by rw [hR]; exact Nat.le_of_ble_eq_true rfl, by rw [hR]; exact Nat.le_of_ble_eq_true rfl⟩ ⟨by rw [hR]; show ce + 1 ≤ 601024; omega, by rw [hR]; show sl + 6 ≤ 7293034; omega⟩ dL_law_474 ?_
  refine sv_istore (lv' := [(6, .int r.1), (5, .int q.1), (0, .ref b), (1, .ref a0), (2, .ref h0), (3, .ref o), (4, .int (Int32.ofNat (6 * n)))]) C dL_law_477 (by rw [hN]; decide) rfl ?_
  refine sv_aload_n 4 C dL_law_479 rfl rfl ?_
  refine lw_mod C mv_L_57 (m_X9_thrown (sv_l X) E h0 ad _ r.2 u hu) rfl rfl rfl (Nat.le_of_ble_eq_true rfl) ⟨by rw [hR]; exact Nat.le_of_ble_eq_true rfl, by rw [hR]; exact Nat.le_of_ble_eq_true rfl⟩ ⟨by rw [hR]; show ce + 1 ≤ 601024; omega, by rw [hR]; show sl + 6 ≤ 7293034; omega⟩ dL_law_480 ?_
  refine sv_iload 1 C dL_law_483 rfl ?_
  refine sv_icmp_eq (tgt := 490) C dL_law_485 (by decide) (fun _ => ?_) (fun c => absurd huq c)
  refine sv_iload 1 C dL_law_490 rfl ?_
  have hgo : sv_J E X (lw_W E h0 ad u.2 o f9 T q.2.2) z9 (ce + 1) (sl + 6) 507 [(6, .int r.1), (5, .int q.1), (0, .ref b), (1, .ref a0), (2, .ref h0), (3, .ref o), (4, .int (Int32.ofNat (6 * n)))] [] := by
    refine sv_goto (tgt := 639) C dL_law_507 (by decide) ?_
    refine sv_sub (lv' := [(0, .ref b), (1, .ref a0), (2, .ref h0), (3, .ref o), (4, .int (Int32.ofNat (6 * n)))]) [2, 3, 4, 5, 6] rfl ?_
    exact kk _ _ _ _ _ _ _ _ hi2 (by omega) (by omega)
  refine sv_if_ne (tgt := 507) C dL_law_492 (by decide) (fun _ => hgo) (fun c0 => ?_)
  refine sv_aload_n 5 C dL_law_495 rfl rfl ?_
  refine sv_iconst (v := 0) C dL_law_496 (by decide) ?_
  refine sv_lald (i := 0) C 18 rfl (by decide) dL_law_497 ?_
  refine sv_iload 0 C dL_law_498 rfl ?_
  refine sv_i2l C dL_law_500 ?_
  refine sv_lcmp C dL_law_501 ?_
  refine sv_if_eq (tgt := 507) C dL_law_502 (by decide) (fun _ => hgo) (fun c => absurd ?_ c)
  rw [← hff, sv_of, if_pos c0, hqr c0]
  exact lw_cmp0 r.1
set_option maxHeartbeats 4000000 in
set_option maxRecDepth 100000 in
theorem lw_c_send {E : sv_E} {X : sv_X} {b L h0 o a0 : Nat} {ad : Nat → Nat} {xs : Nat → Int32} {I : lw_R} (C : sv_C E X cL_law RL []) (HX : sv_TX X) (hl : (sv_l X).stackTraces = false) (hSc : sv_Sc X b L xs) (hR : sv_R X = room_1) (hN : sv_nL X = 7) (hL : L ≤ 3072) (hI : lw_Sim a0 I) {n k : Nat} {T : gh_T} {V : gh_V} {z : Nat} {B : md_B} {φ : Nat} {f : Nat → Int64} {ce sl : Nat} (hi : I T V z B φ) (hn : n ≤ 600) (hnL : ¬ L < 6 * n + 6) (hce : ce + φ + (k + 1) ≤ 601024) (hsl : sl + 128 * φ + 6 * (k + 1) ≤ 7293034)
    (kk : ∀ (T : gh_T) (V : gh_V) (z : Nat) (B : md_B) (φ : Nat) (f : Nat → Int64) (ce sl : Nat), I T V z B φ → ce + φ + k ≤ 601024 → sl + 128 * φ + 6 * k ≤ 7293034 → sv_J E X (lw_W E h0 ad B o f T V) z ce sl 639 [(0, .ref b), (1, .ref a0), (2, .ref h0), (3, .ref o), (4, .int (Int32.ofNat (6 * n)))] []) : sv_J E X (lw_W E h0 ad B o f T V) z ce sl 510 [(0, .ref b), (1, .ref a0), (2, .ref h0), (3, .ref o), (4, .int (Int32.ofNat (6 * n)))] [] := by
  obtain ⟨hok, hfr, o8⟩ := hI.1 _ _ _ _ _ hi
  obtain ⟨q, r, u, hq, hr, hu, huq, hqr, hi2⟩ := hI.2.2.2.2.2.2.2.2.2.2.2.1 T V z B φ (xs (Int32.ofNat (6 * n) + 1).toNatClampNeg) (xs (Int32.ofNat (6 * n) + 2).toNatClampNeg) (xs (Int32.ofNat (6 * n) + 3).toNatClampNeg) hi
  refine sv_aload_n 1 C dL_law_510 rfl rfl ?_
  refine sv_aload_n 0 C dL_law_511 rfl rfl ?_
  refine sv_iload 4 C dL_law_512 rfl ?_
  refine sv_iconst (v := 1) C dL_law_514 (by decide) ?_
  refine sv_iadd C dL_law_515 ?_
  refine sv_sld C hSc (lwi_i (c := 1) hL hn (by decide) hnL) dL_law_516 ?_
  refine sv_aload_n 0 C dL_law_517 rfl rfl ?_
  refine sv_iload 4 C dL_law_518 rfl ?_
  refine sv_iconst (v := 2) C dL_law_520 (by decide) ?_
  refine sv_iadd C dL_law_521 ?_
  refine sv_sld C hSc (lwi_i (c := 2) hL hn (by decide) hnL) dL_law_522 ?_
  refine sv_aload_n 0 C dL_law_523 rfl rfl ?_
  refine sv_iload 4 C dL_law_524 rfl ?_
  refine sv_iconst (v := 3) C dL_law_526 (by decide) ?_
  refine sv_iadd C dL_law_527 ?_
  refine sv_sld C hSc (lwi_i (c := 3) hL hn (by decide) hnL) dL_law_528 ?_
  refine sv_aload_n 3 C dL_law_529 rfl rfl ?_
  refine lw_wrp C HX mw_L_75 (m_L_send (sv_l X) hl E T z V a0 (xs (Int32.ofNat (6 * n) + 1).toNatClampNeg) (xs (Int32.ofNat (6 * n) + 2).toNatClampNeg) (xs (Int32.ofNat (6 * n) + 3).toNatClampNeg) o f q hq hok o8) rfl rfl (Nat.le_of_ble_eq_true rfl) ⟨by rw [hR]; exact Nat.le_of_ble_eq_true rfl, by rw [hR]; exact Nat.le_of_ble_eq_true rfl⟩ ⟨by rw [hR]; show ce + 1 ≤ 601024; omega, by rw [hR]; show sl + 6 ≤ 7293034; omega⟩ dL_law_530 (fun z9 hz9 => ?_)
  replace hi2 := hI.2.1 _ _ _ _ _ z9 hi2 hz9
  generalize hff : sv_of f q.1 q.2.1 = f9
  refine sv_istore (lv' := [(5, .int q.1), (0, .ref b), (1, .ref a0), (2, .ref h0), (3, .ref o), (4, .int (Int32.ofNat (6 * n)))]) C dL_law_533 (by rw [hN]; decide) rfl ?_
  refine sv_aload_n 3 C dL_law_535 rfl rfl ?_
  refine sv_aload_n 1 C dL_law_536 rfl rfl ?_
  refine sv_iload 5 C dL_law_537 rfl ?_
  refine sv_iconst (v := 1) C dL_law_539 (by decide) ?_
  refine sv_iadd C dL_law_540 ?_
  refine sv_sld C hSc (lwi_i (c := 1) hL hn (by decide) hnL) dL_law_541 ?_
  refine sv_aload_n 1 C dL_law_542 rfl rfl ?_
  refine sv_iload 5 C dL_law_543 rfl ?_
  refine sv_iconst (v := 2) C dL_law_545 (by decide) ?_
  refine sv_iadd C dL_law_546 ?_
  refine sv_sld C hSc (lwi_i (c := 2) hL hn (by decide) hnL) dL_law_547 ?_
  refine sv_aload_n 1 C dL_law_548 rfl rfl ?_
  refine sv_iload 5 C dL_law_549 rfl ?_
  refine sv_iconst (v := 3) C dL_law_551 (by decide) ?_
  refine sv_iadd C dL_law_552 ?_
  refine sv_sld C hSc (lwi_i (c := 3) hL hn (by decide) hnL) dL_law_553 ?_
  refine lw_mod C mv_L_78 (m_X9_send (sv_l X) E h0 ad _ B (xs (Int32.ofNat (6 * n) + 1).toNatClampNeg) (xs (Int32.ofNat (6 * n) + 2).toNatClampNeg) (xs (Int32.ofNat (6 * n) + 3).toNatClampNeg) r hr) rfl rfl rfl (Nat.le_of_ble_eq_true rfl) ⟨by rw [hR]; exact Nat.le_of_ble_eq_true rfl, by rw [hR]; exact Nat.le_of_ble_eq_true rfl⟩ ⟨by rw [hR]; show ce + 1 ≤ 601024; omega, by rw [hR]; show sl + 6 ≤ 7293034; omega⟩ dL_law_554 ?_
  refine sv_istore (lv' := [(6, .int r.1), (5, .int q.1), (0, .ref b), (1, .ref a0), (2, .ref h0), (3, .ref o), (4, .int (Int32.ofNat (6 * n)))]) C dL_law_557 (by rw [hN]; decide) rfl ?_
  refine sv_aload_n 4 C dL_law_559 rfl rfl ?_
  refine lw_mod C mv_L_57 (m_X9_thrown (sv_l X) E h0 ad _ r.2 u hu) rfl rfl rfl (Nat.le_of_ble_eq_true rfl) ⟨by rw [hR]; exact Nat.le_of_ble_eq_true rfl, by rw [hR]; exact Nat.le_of_ble_eq_true rfl⟩ ⟨by rw [hR]; show ce + 1 ≤ 601024; omega, by rw [hR]; show sl + 6 ≤ 7293034; omega⟩ dL_law_560 ?_
  refine sv_iload 1 C dL_law_563 rfl ?_
  refine sv_icmp_eq (tgt := 570) C dL_law_565 (by decide) (fun _ => ?_) (fun c => absurd huq c)
  refine sv_iload 1 C dL_law_570 rfl ?_
  have hgo : sv_J E X (lw_W E h0 ad u.2 o f9 T q.2.2) z9 (ce + 1) (sl + 6) 587 [(6, .int r.1), (5, .int q.1), (0, .ref b), (1, .ref a0), (2, .ref h0), (3, .ref o), (4, .int (Int32.ofNat (6 * n)))] [] := by
    refine sv_goto (tgt := 639) C dL_law_587 (by decide) ?_
    refine sv_sub (lv' := [(0, .ref b), (1, .ref a0), (2, .ref h0), (3, .ref o), (4, .int (Int32.ofNat (6 * n)))]) [2, 3, 4, 5, 6] rfl ?_
    exact kk _ _ _ _ _ _ _ _ hi2 (by omega) (by omega)
  refine sv_if_ne (tgt := 587) C dL_law_572 (by decide) (fun _ => hgo) (fun c0 => ?_)
  refine sv_aload_n 5 C dL_law_575 rfl rfl ?_
  refine sv_iconst (v := 0) C dL_law_576 (by decide) ?_
  refine sv_lald (i := 0) C 18 rfl (by decide) dL_law_577 ?_
  refine sv_iload 0 C dL_law_578 rfl ?_
  refine sv_i2l C dL_law_580 ?_
  refine sv_lcmp C dL_law_581 ?_
  refine sv_if_eq (tgt := 587) C dL_law_582 (by decide) (fun _ => hgo) (fun c => absurd ?_ c)
  rw [← hff, sv_of, if_pos c0, hqr c0]
  exact lw_cmp0 r.1
set_option maxHeartbeats 4000000 in
set_option maxRecDepth 100000 in
theorem lw_c_out {E : sv_E} {X : sv_X} {b L h0 o a0 : Nat} {ad : Nat → Nat} {xs : Nat → Int32} {I : lw_R} (C : sv_C E X cL_law RL []) (HX : sv_TX X) (hl : (sv_l X).stackTraces = false) (hSc : sv_Sc X b L xs) (hR : sv_R X = room_1) (hN : sv_nL X = 7) (hL : L ≤ 3072) (hI : lw_Sim a0 I) {n k : Nat} {T : gh_T} {V : gh_V} {z : Nat} {B : md_B} {φ : Nat} {f : Nat → Int64} {ce sl : Nat} (hi : I T V z B φ) (hn : n ≤ 600) (hnL : ¬ L < 6 * n + 6) (hce : ce + φ + (k + 1) ≤ 601024) (hsl : sl + 128 * φ + 6 * (k + 1) ≤ 7293034)
    (kk : ∀ (T : gh_T) (V : gh_V) (z : Nat) (B : md_B) (φ : Nat) (f : Nat → Int64) (ce sl : Nat), I T V z B φ → ce + φ + k ≤ 601024 → sl + 128 * φ + 6 * k ≤ 7293034 → sv_J E X (lw_W E h0 ad B o f T V) z ce sl 639 [(0, .ref b), (1, .ref a0), (2, .ref h0), (3, .ref o), (4, .int (Int32.ofNat (6 * n)))] []) : sv_J E X (lw_W E h0 ad B o f T V) z ce sl 590 [(0, .ref b), (1, .ref a0), (2, .ref h0), (3, .ref o), (4, .int (Int32.ofNat (6 * n)))] [] := by
  obtain ⟨hok, hfr, o8⟩ := hI.1 _ _ _ _ _ hi
  obtain ⟨q, r, hq, hr, hqr, hi2⟩ := hI.2.2.2.2.2.2.2.2.2.2.2.2.1 T V z B φ (xs (Int32.ofNat (6 * n) + 1).toNatClampNeg) hi
  refine sv_aload_n 1 C dL_law_590 rfl rfl ?_
  refine sv_aload_n 0 C dL_law_591 rfl rfl ?_
  refine sv_iload 4 C dL_law_592 rfl ?_
  refine sv_iconst (v := 1) C dL_law_594 (by decide) ?_
  refine sv_iadd C dL_law_595 ?_
  refine sv_sld C hSc (lwi_i (c := 1) hL hn (by decide) hnL) dL_law_596 ?_
  refine lw_cls C mv_L_79 (m_X8_out (sv_l X) E T z V a0 (xs (Int32.ofNat (6 * n) + 1).toNatClampNeg) q hq hok o8) o8 rfl rfl rfl (Nat.le_of_ble_eq_true rfl) ⟨by rw [hR]; exact Nat.le_of_ble_eq_true rfl, by rw [hR]; exact Nat.le_of_ble_eq_true rfl⟩ ⟨by rw [hR]; show ce + 0 ≤ 601024; omega, by rw [hR]; show sl + 0 ≤ 7293034; omega⟩ dL_law_597 ?_
  refine sv_aload_n 2 C dL_law_600 rfl rfl ?_
  refine sv_aload_n 0 C dL_law_601 rfl rfl ?_
  refine sv_iload 4 C dL_law_602 rfl ?_
  refine sv_iconst (v := 1) C dL_law_604 (by decide) ?_
  refine sv_iadd C dL_law_605 ?_
  refine sv_sld C hSc (lwi_i (c := 1) hL hn (by decide) hnL) dL_law_606 ?_
  refine lw_mod C mv_L_82 (m_X9_out (sv_l X) E h0 ad _ B (xs (Int32.ofNat (6 * n) + 1).toNatClampNeg) r hr) rfl rfl rfl (Nat.le_of_ble_eq_true rfl) ⟨by rw [hR]; exact Nat.le_of_ble_eq_true rfl, by rw [hR]; exact Nat.le_of_ble_eq_true rfl⟩ ⟨by rw [hR]; show ce + 0 ≤ 601024; omega, by rw [hR]; show sl + 0 ≤ 7293034; omega⟩ dL_law_607 ?_
  refine sv_icmp_eq (tgt := 639) C dL_law_610 (by decide) (fun _ => ?_) (fun c => absurd hqr c)
  exact kk _ _ _ _ _ _ _ _ hi2 (by omega) (by omega)
set_option maxHeartbeats 4000000 in
set_option maxRecDepth 100000 in
theorem lw_c_again {E : sv_E} {X : sv_X} {b L h0 o a0 : Nat} {ad : Nat → Nat} {xs : Nat → Int32} {I : lw_R} (C : sv_C E X cL_law RL []) (HX : sv_TX X) (hl : (sv_l X).stackTraces = false) (hSc : sv_Sc X b L xs) (hR : sv_R X = room_1) (hN : sv_nL X = 7) (hL : L ≤ 3072) (hI : lw_Sim a0 I) {n k : Nat} {T : gh_T} {V : gh_V} {z : Nat} {B : md_B} {φ : Nat} {f : Nat → Int64} {ce sl : Nat} (hi : I T V z B φ) (hn : n ≤ 600) (hnL : ¬ L < 6 * n + 6) (hce : ce + φ + (k + 1) ≤ 601024) (hsl : sl + 128 * φ + 6 * (k + 1) ≤ 7293034)
    (kk : ∀ (T : gh_T) (V : gh_V) (z : Nat) (B : md_B) (φ : Nat) (f : Nat → Int64) (ce sl : Nat), I T V z B φ → ce + φ + k ≤ 601024 → sl + 128 * φ + 6 * k ≤ 7293034 → sv_J E X (lw_W E h0 ad B o f T V) z ce sl 639 [(0, .ref b), (1, .ref a0), (2, .ref h0), (3, .ref o), (4, .int (Int32.ofNat (6 * n)))] []) : sv_J E X (lw_W E h0 ad B o f T V) z ce sl 615 [(0, .ref b), (1, .ref a0), (2, .ref h0), (3, .ref o), (4, .int (Int32.ofNat (6 * n)))] [] := by
  obtain ⟨hok, hfr, o8⟩ := hI.1 _ _ _ _ _ hi
  obtain ⟨q, r, hq, hr, hqr, hi2⟩ := hI.2.2.2.2.2.2.2.2.2.2.2.2.2.1 T V z B φ hi
  refine sv_aload_n 1 C dL_law_615 rfl rfl ?_
  refine lw_cls C mv_L_83 (m_X8_again (sv_l X) E T z V a0 q hq hok o8) o8 rfl rfl rfl (Nat.le_of_ble_eq_true rfl) ⟨by rw [hR]; exact Nat.le_of_ble_eq_true rfl, by rw [hR]; exact Nat.le_of_ble_eq_true rfl⟩ ⟨by rw [hR]; show ce + 0 ≤ 601024; omega, by rw [hR]; show sl + 0 ≤ 7293034; omega⟩ dL_law_616 ?_
  refine sv_aload_n 2 C dL_law_619 rfl rfl ?_
  refine lw_mod C mv_L_86 (m_X9_again (sv_l X) E h0 ad _ B r hr) rfl rfl rfl (Nat.le_of_ble_eq_true rfl) ⟨by rw [hR]; exact Nat.le_of_ble_eq_true rfl, by rw [hR]; exact Nat.le_of_ble_eq_true rfl⟩ ⟨by rw [hR]; show ce + 0 ≤ 601024; omega, by rw [hR]; show sl + 0 ≤ 7293034; omega⟩ dL_law_620 ?_
  refine sv_icmp_eq (tgt := 639) C dL_law_623 (by decide) (fun _ => ?_) (fun c => absurd hqr c)
  exact kk _ _ _ _ _ _ _ _ hi2 (by omega) (by omega)
set_option maxHeartbeats 4000000 in
set_option maxRecDepth 100000 in
theorem lw_c_clear {E : sv_E} {X : sv_X} {b L h0 o a0 : Nat} {ad : Nat → Nat} {xs : Nat → Int32} {I : lw_R} (C : sv_C E X cL_law RL []) (HX : sv_TX X) (hl : (sv_l X).stackTraces = false) (hSc : sv_Sc X b L xs) (hR : sv_R X = room_1) (hN : sv_nL X = 7) (hL : L ≤ 3072) (hI : lw_Sim a0 I) {n k : Nat} {T : gh_T} {V : gh_V} {z : Nat} {B : md_B} {φ : Nat} {f : Nat → Int64} {ce sl : Nat} (hi : I T V z B φ) (hn : n ≤ 600) (hnL : ¬ L < 6 * n + 6) (hce : ce + φ + (k + 1) ≤ 601024) (hsl : sl + 128 * φ + 6 * (k + 1) ≤ 7293034)
    (kk : ∀ (T : gh_T) (V : gh_V) (z : Nat) (B : md_B) (φ : Nat) (f : Nat → Int64) (ce sl : Nat), I T V z B φ → ce + φ + k ≤ 601024 → sl + 128 * φ + 6 * k ≤ 7293034 → sv_J E X (lw_W E h0 ad B o f T V) z ce sl 639 [(0, .ref b), (1, .ref a0), (2, .ref h0), (3, .ref o), (4, .int (Int32.ofNat (6 * n)))] []) : sv_J E X (lw_W E h0 ad B o f T V) z ce sl 628 [(0, .ref b), (1, .ref a0), (2, .ref h0), (3, .ref o), (4, .int (Int32.ofNat (6 * n)))] [] := by
  obtain ⟨hok, hfr, o8⟩ := hI.1 _ _ _ _ _ hi
  obtain ⟨q, r, hq, hr, hi2⟩ := hI.2.2.2.2.2.2.2.2.2.2.2.2.2.2 T V z B φ hi
  refine sv_aload_n 1 C dL_law_628 rfl rfl ?_
  refine lw_cls C mv_L_87 (m_X8_clear (sv_l X) E T z V a0 q hq hok o8) o8 rfl rfl rfl (Nat.le_of_ble_eq_true rfl) ⟨by rw [hR]; exact Nat.le_of_ble_eq_true rfl, by rw [hR]; exact Nat.le_of_ble_eq_true rfl⟩ ⟨by rw [hR]; show ce + 0 ≤ 601024; omega, by rw [hR]; show sl + 0 ≤ 7293034; omega⟩ dL_law_629 ?_
  refine sv_aload_n 2 C dL_law_632 rfl rfl ?_
  refine lw_mod C mv_L_90 (m_X9_clear (sv_l X) E h0 ad _ B r hr) rfl rfl rfl (Nat.le_of_ble_eq_true rfl) ⟨by rw [hR]; exact Nat.le_of_ble_eq_true rfl, by rw [hR]; exact Nat.le_of_ble_eq_true rfl⟩ ⟨by rw [hR]; show ce + 0 ≤ 601024; omega, by rw [hR]; show sl + 0 ≤ 7293034; omega⟩ dL_law_633 ?_
  refine sv_goto (tgt := 639) C dL_law_636 (by decide) ?_
  exact kk _ _ _ _ _ _ _ _ hi2 (by omega) (by omega)
set_option maxHeartbeats 8000000 in
set_option maxRecDepth 100000 in
theorem lw_loop {E : sv_E} {X : sv_X} {b L h0 o a0 : Nat} {ad : Nat → Nat} {xs : Nat → Int32} {I : lw_R} (C : sv_C E X cL_law RL []) (HX : sv_TX X) (hl : (sv_l X).stackTraces = false) (hSc : sv_Sc X b L xs) (hR : sv_R X = room_1) (hN : sv_nL X = 7) (hL : L ≤ 3072) (hI : lw_Sim a0 I) (hEnd : ∀ (wd : va_W) (z ce sl : Nat) (lv : List (Nat × Value)), ce ≤ 601024 → sl ≤ 7293034 → sv_J E X wd z ce sl 646 lv [.int 1]) : ∀ (k n : Nat) (T : gh_T) (V : gh_V) (z : Nat) (B : md_B) (φ : Nat) (f : Nat → Int64) (ce sl : Nat), I T V z B φ → n + k ≤ 600 → L < 6 * (n + k) + 6 → ce + φ + k ≤ 601024 → sl + 128 * φ + 6 * k ≤ 7293034 → sv_J E X (lw_W E h0 ad B o f T V) z ce sl 23 [(0, .ref b), (1, .ref a0), (2, .ref h0), (3, .ref o), (4, .int (Int32.ofNat (6 * n)))] [] := by
  intro k
  induction k with
  | zero =>
    intro n T V z B φ f ce sl hi hn hk hce hsl
    refine sv_iload 4 C dL_law_23 rfl ?_
    refine sv_aload_n 0 C dL_law_25 rfl rfl ?_
    refine sv_slen C hSc dL_law_26 ?_
    refine sv_bipush (v := 6) C dL_law_27 (by decide) ?_
    refine sv_isub C dL_law_29 ?_
    refine sv_icmp_gt (tgt := 645) C dL_law_30 (by decide) (fun _ => ?_) (fun c => ?_)
    · refine sv_iconst (v := 1) C dL_law_645 (by decide) ?_
      exact hEnd _ _ _ _ _ (by omega) (by omega)
    · exact absurd ((lwi_gt hL (by omega)).mpr (by omega)) c
  | succ k ih =>
    intro n T V z B φ f ce sl hi hn hk hce hsl
    refine sv_iload 4 C dL_law_23 rfl ?_
    refine sv_aload_n 0 C dL_law_25 rfl rfl ?_
    refine sv_slen C hSc dL_law_26 ?_
    refine sv_bipush (v := 6) C dL_law_27 (by decide) ?_
    refine sv_isub C dL_law_29 ?_
    refine sv_icmp_gt (tgt := 645) C dL_law_30 (by decide) (fun _ => ?_) (fun c => ?_)
    · refine sv_iconst (v := 1) C dL_law_645 (by decide) ?_
      exact hEnd _ _ _ _ _ (by omega) (by omega)
    · have hnL : ¬ L < 6 * n + 6 := fun h => c ((lwi_gt hL (by omega)).mpr h)
      have hn6 : n ≤ 600 := by omega
      refine sv_aload_n 0 C dL_law_33 rfl rfl ?_
      refine sv_iload 4 C dL_law_34 rfl ?_
      refine sv_sld C hSc (lwi_inb hL (by omega)) dL_law_36 ?_
      refine sv_bipush (v := 15) C dL_law_37 (by decide) ?_
      refine sv_iand C dL_law_39 ?_
      generalize xs (Int32.ofNat (6 * n)).toNatClampNeg &&& 15 = v
      have kk : ∀ (T : gh_T) (V : gh_V) (z : Nat) (B : md_B) (φ : Nat) (f : Nat → Int64) (ce sl : Nat), I T V z B φ → ce + φ + k ≤ 601024 → sl + 128 * φ + 6 * k ≤ 7293034 → sv_J E X (lw_W E h0 ad B o f T V) z ce sl 639 [(0, .ref b), (1, .ref a0), (2, .ref h0), (3, .ref o), (4, .int (Int32.ofNat (6 * n)))] [] := by
        intro T V z B φ f ce sl hi h1 h2
        refine sv_iinc (v := Int32.ofNat (6 * (n + 1))) (lv' := [(4, .int (Int32.ofNat (6 * (n + 1)))), (0, .ref b), (1, .ref a0), (2, .ref h0), (3, .ref o)]) 4 C dL_law_639 rfl (by rw [show (6 * (n + 1)) = 6 * n + 6 by omega]; exact lwi_at (c := 6) hn6 (by decide)) (by rw [hN]; decide) rfl ?_
        refine sv_goto (tgt := 23) C dL_law_642 (by decide) ?_
        refine sv_sub (lv' := [(0, .ref b), (1, .ref a0), (2, .ref h0), (3, .ref o), (4, .int (Int32.ofNat (6 * (n + 1))))]) [1, 2, 3, 4, 0] rfl ?_
        exact ih (n + 1) T V z B φ f ce sl hi (by omega) (by omega) h1 h2
      by_cases c0 : v = 0
      · refine sv_tswI (v := 0) (tgt := 108) C dL_law_40 c0 (by decide) (by decide) rfl (by decide) ?_
        exact lw_c_feed C HX hl hSc hR hN hL hI hi hn6 hnL hce hsl kk
      · by_cases c1 : v = 1
        · refine sv_tswI (v := 1) (tgt := 181) C dL_law_40 c1 (by decide) (by decide) rfl (by decide) ?_
          exact lw_c_end C HX hl hSc hR hN hL hI hi hn6 hnL hce hsl kk
        · by_cases c2 : v = 2
          · refine sv_tswI (v := 2) (tgt := 206) C dL_law_40 c2 (by decide) (by decide) rfl (by decide) ?_
            exact lw_c_stream C HX hl hSc hR hN hL hI hi hn6 hnL hce hsl kk
          · by_cases c3 : v = 3
            · refine sv_tswI (v := 3) (tgt := 219) C dL_law_40 c3 (by decide) (by decide) rfl (by decide) ?_
              exact lw_c_count C HX hl hSc hR hN hL hI hi hn6 hnL hce hsl kk
            · by_cases c4 : v = 4
              · refine sv_tswI (v := 4) (tgt := 244) C dL_law_40 c4 (by decide) (by decide) rfl (by decide) ?_
                exact lw_c_fix C HX hl hSc hR hN hL hI hi hn6 hnL hce hsl kk
              · by_cases c5 : v = 5
                · refine sv_tswI (v := 5) (tgt := 300) C dL_law_40 c5 (by decide) (by decide) rfl (by decide) ?_
                  exact lw_c_find C HX hl hSc hR hN hL hI hi hn6 hnL hce hsl kk
                · by_cases c6 : v = 6
                  · refine sv_tswI (v := 6) (tgt := 325) C dL_law_40 c6 (by decide) (by decide) rfl (by decide) ?_
                    exact lw_c_vessel C HX hl hSc hR hN hL hI hi hn6 hnL hce hsl kk
                  · by_cases c7 : v = 7
                    · refine sv_tswI (v := 7) (tgt := 393) C dL_law_40 c7 (by decide) (by decide) rfl (by decide) ?_
                      exact lw_c_letter C HX hl hSc hR hN hL hI hi hn6 hnL hce hsl kk
                    · by_cases c8 : v = 8
                      · refine sv_tswI (v := 8) (tgt := 442) C dL_law_40 c8 (by decide) (by decide) rfl (by decide) ?_
                        exact lw_c_bits C HX hl hSc hR hN hL hI hi hn6 hnL hce hsl kk
                      · by_cases c9 : v = 9
                        · refine sv_tswI (v := 9) (tgt := 510) C dL_law_40 c9 (by decide) (by decide) rfl (by decide) ?_
                          exact lw_c_send C HX hl hSc hR hN hL hI hi hn6 hnL hce hsl kk
                        · by_cases c10 : v = 10
                          · refine sv_tswI (v := 10) (tgt := 590) C dL_law_40 c10 (by decide) (by decide) rfl (by decide) ?_
                            exact lw_c_out C HX hl hSc hR hN hL hI hi hn6 hnL hce hsl kk
                          · by_cases c11 : v = 11
                            · refine sv_tswI (v := 11) (tgt := 615) C dL_law_40 c11 (by decide) (by decide) rfl (by decide) ?_
                              exact lw_c_again C HX hl hSc hR hN hL hI hi hn6 hnL hce hsl kk
                            · by_cases c12 : v = 12
                              · refine sv_tswI (v := 12) (tgt := 628) C dL_law_40 c12 (by decide) (by decide) rfl (by decide) ?_
                                exact lw_c_clear C HX hl hSc hR hN hL hI hi hn6 hnL hce hsl kk
                              · have n0 : v.toInt ≠ 0 := fun e => c0 (Int32.toInt_inj.mp (e.trans (by decide)))
                                have n1 : v.toInt ≠ 1 := fun e => c1 (Int32.toInt_inj.mp (e.trans (by decide)))
                                have n2 : v.toInt ≠ 2 := fun e => c2 (Int32.toInt_inj.mp (e.trans (by decide)))
                                have n3 : v.toInt ≠ 3 := fun e => c3 (Int32.toInt_inj.mp (e.trans (by decide)))
                                have n4 : v.toInt ≠ 4 := fun e => c4 (Int32.toInt_inj.mp (e.trans (by decide)))
                                have n5 : v.toInt ≠ 5 := fun e => c5 (Int32.toInt_inj.mp (e.trans (by decide)))
                                have n6 : v.toInt ≠ 6 := fun e => c6 (Int32.toInt_inj.mp (e.trans (by decide)))
                                have n7 : v.toInt ≠ 7 := fun e => c7 (Int32.toInt_inj.mp (e.trans (by decide)))
                                have n8 : v.toInt ≠ 8 := fun e => c8 (Int32.toInt_inj.mp (e.trans (by decide)))
                                have n9 : v.toInt ≠ 9 := fun e => c9 (Int32.toInt_inj.mp (e.trans (by decide)))
                                have n10 : v.toInt ≠ 10 := fun e => c10 (Int32.toInt_inj.mp (e.trans (by decide)))
                                have n11 : v.toInt ≠ 11 := fun e => c11 (Int32.toInt_inj.mp (e.trans (by decide)))
                                have n12 : v.toInt ≠ 12 := fun e => c12 (Int32.toInt_inj.mp (e.trans (by decide)))
                                refine sv_tswO (tgt := 639) C dL_law_40 (by omega) (by decide) ?_
                                exact kk _ _ _ _ _ _ _ _ hi (by omega) (by omega)
