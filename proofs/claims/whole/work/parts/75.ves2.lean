/-! ===== PURE: the vessel of a number, a message received ===== -/
def RX (e a0 : Nat) (T : gh_T) (V : gh_V) (B : md_B) : Prop :=
  sh a0 T ∧ rR 115 (V.1 1 (a0 + 4)) (V.2 (a0 + 5)) (B.1 4) (B.2 3) ∧ (∀ i, i < 9 → (if i = e then V.2 (a0 + 1) i + 1 else V.2 (a0 + 1) i) = B.2 10 i) ∧ rSv a0 V B ∧ rE 18 (V.2 (a0 + 12)) (B.2 16) ∧ rP a0 T V B ∧ rM (V.1 2 (a0 + 18)) (V.2 (a0 + 19)) (B.1 27) (B.1 26) (B.2 25) ∧ rF a0 T V B ∧ V.1 0 (a0 + 22) = 424 ∧ B.1 33 = 0
def GZ (a0 : Nat) (T : gh_T) (z : Nat) : Prop := gh_ok T ∧ gh_fr T z ∧ gh_is T a0 8 ∧ a0 + 24 ≤ z
section V2
variable {a0 z : Nat} {T T' : gh_T} {V V' : gh_V} {B B' : md_B}
theorem rP.fr2 (h : rP a0 T V B) (ht : ∀ i, T'.2.2.2.2 (a0 + 15) i = T.2.2.2.2 (a0 + 15) i) (hV : ∀ i r, T.2.2.2.2 (a0 + 15) i = some r → V'.1 0 r = V.1 0 r ∧ V'.1 2 r = V.1 2 r ∧ V'.2 (r + 1) = V.2 (r + 1)) (h16 : V'.2 (a0 + 16) = V.2 (a0 + 16)) (h17 : V'.2 (a0 + 17) = V.2 (a0 + 17)) (b21 : B'.2 21 = B.2 21) (b22 : B'.2 22 = B.2 22) (b23 : B'.2 23 = B.2 23) (b24 : B'.2 24 = B.2 24) : rP a0 T' V' B' := by
  refine ⟨fun i r hr => ?_, fun i hi => ?_⟩
  · rw [ht] at hr
    rw [(hV i r hr).1]
    exact h.1 i r hr
  · obtain ⟨g1, g2, g3⟩ := h.2 i hi
    rw [h16, h17, b21, b22, b23, b24]
    refine ⟨g1, g2, ?_⟩
    rcases g3 with g3 | ⟨c, n, r, q1, q2, q3, q4, q5, q6, q7, q8⟩
    · exact Or.inl g3
    · have := hV i r q5
      exact Or.inr ⟨c, n, r, q1, q2, q3, q4, by rw [ht]; exact q5, by rw [this.2.1]; exact q6, q7, by rw [this.2.2]; exact q8⟩
/-- addresses of vessels and rows don't meet -/
theorem is_ne {a b c d : Nat} (h1 : gh_is T a c) (h2 : gh_is T b d) (h : c ≠ d) : a ≠ b := fun e => h (by rw [← h1.2, ← h2.2, e])
theorem ves_ap (hs : sh a0 T) {i j v w : Nat} (h1 : T.2.2.2.2 (a0 + 21) i = some v) (h2 : T.2.2.2.2 (a0 + 21) j = some w) (hij : i ≠ j) : ∀ x y, 1 ≤ x → x ≤ 3 → 1 ≤ y → y ≤ 3 → v + x ≠ w + y := by
  have q1 := (hs.2.2.2.1 i v h1).2
  have q2 := (hs.2.2.2.1 j w h2).2
  have n0 : v ≠ w := fun e => hij (hs.2.2.2.2 i j v h1 (by rw [e]; exact h2))
  have n1 := is_ne q1.1 q2.2.1 (by decide)
  have n2 := is_ne q1.1 q2.2.2.1 (by decide)
  have m1 := is_ne q2.1 q1.2.1 (by decide)
  have m2 := is_ne q2.1 q1.2.2.1 (by decide)
  intro x y h3 h4 h5 h6
  omega
theorem row_ap (hs : sh a0 T) {i j r w : Nat} (h1 : T.2.2.2.2 (a0 + 15) i = some r) (h2 : T.2.2.2.2 (a0 + 21) j = some w) : ∀ y, 1 ≤ y → y ≤ 3 → r + 1 ≠ w + y := by
  have q1 := (hs.2.2.1.1 i r h1).2
  have q2 := (hs.2.2.2.1 j w h2).2
  have n0 := is_ne q1.1 q2.1 (by decide)
  have n1 := is_ne q1.1 q2.2.1 (by decide)
  have n2 := is_ne q1.1 q2.2.2.1 (by decide)
  intro y h5 h6
  omega
theorem row_ap2 (hs : sh a0 T) {i j r w : Nat} (h1 : T.2.2.2.2 (a0 + 15) i = some r) (h2 : T.2.2.2.2 (a0 + 15) j = some w) (hij : i ≠ j) : r ≠ w ∧ r + 1 ≠ w + 1 ∧ r ≠ w + 1 ∧ r + 1 ≠ w := by
  have q1 := (hs.2.2.1.1 i r h1).2
  have q2 := (hs.2.2.1.1 j w h2).2
  have n0 : r ≠ w := fun e => hij (hs.2.2.1.2 i j r h1 (by rw [e]; exact h2))
  have n1 := is_ne q1.1 q2.2.1 (by decide)
  have n2 := is_ne q2.1 q1.2.1 (by decide)
  omega
/-- a vessel begins -/
theorem begin_s {v : Nat} {x : Int32} (hv : vesq T v) : ∃ V', f_X7_begin T V v x = some V' ∧ ch [] [v + 1, v + 2] V V' ∧ (∀ k, k < 24 → V'.2 (v + 1) k = if k = 0 then x else if k = 23 then 0 else -2147483648) ∧ ∀ k, k < 3 → V'.2 (v + 2) k = 0 := by
  obtain ⟨h1, h2, h3, h4, h5, h6, h7, h8, h9, h10⟩ := hv
  obtain ⟨V1, d1, e1, g1, v1⟩ := fill_s (V := V) (-2147483648) h8 (by decide)
  obtain ⟨V2, d2, e2, g2, v2⟩ := fill_s (V := V1) 0 h9 (by decide)
  refine ⟨gh_pa (gh_pa V2 (v + 1) 0 x) (v + 1) 23 0, ?_, ⟨fun k a _ => by rw [pa_1, pa_1, e2, e1], fun d hd => ?_⟩, fun k hk => ?_, fun k hk => ?_⟩
  · unfold f_X7_begin
    rw [h5, Option.bind_some, d1, Option.bind_some, h6, Option.bind_some, d2, Option.bind_some, Option.bind_some, h8, show sv_inb (0 : Int32) 24 = true from by decide, sv_g_t rfl, Option.bind_some, h8, show sv_inb (23 : Int32) 24 = true from by decide, sv_g_t rfl]
  · simp at hd
    rw [pa_n hd.1, pa_n hd.1, g2 d hd.2, g1 d hd.1]
  · rw [pa_2, pa_2]
    show upd (upd _ 0 _) 23 _ k = _
    unfold upd
    by_cases c : k = 23
    · subst c
      simp
    · rw [if_neg c]
      by_cases c0 : k = 0
      · rw [if_pos c0, if_pos c0]
      · rw [if_neg c0, if_neg c0, if_neg c, g2 _ (by omega)]
        exact v1 k hk
  · rw [pa_n (by omega), pa_n (by omega)]
    exact v2 k hk
/-- a vessel is made or found -/
def VO (a0 : Nat) (x : Int32) (T : gh_T) (V : gh_V) (z : Nat) (B : md_B) (q : Option Nat × gh_T × gh_V × Nat) : Prop :=
  (∃ i v N : Nat, q = (some v, T, V, z) ∧ i < N ∧ N ≤ 40 ∧ B.1 28 = Int32.ofNat N ∧ f_X9_found B x = some (Int32.ofNat i, B) ∧ T.2.2.2.2 (a0 + 21) i = some v) ∨
  (q = (none, T, V, z) ∧ B.1 28 = 40 ∧ f_X9_found B x = some (-2147483648, B)) ∨
  ∃ (N v : Nat) (T' : gh_T) (V' : gh_V) (z' : Nat), q = (some v, T', V', z') ∧ N < 40 ∧ B.1 28 = Int32.ofNat N ∧ f_X9_found B x = some (-2147483648, B) ∧ sh a0 T' ∧ T'.2.2.2.2 (a0 + 21) N = some v ∧ z ≤ z' ∧ wt a0 T' + (z' - z) ≤ wt a0 T ∧ (∀ i, T'.2.2.2.2 (a0 + 15) i = T.2.2.2.2 (a0 + 15) i) ∧ (∀ i, i ≠ N → T'.2.2.2.2 (a0 + 21) i = T.2.2.2.2 (a0 + 21) i) ∧ Fm z [(1, a0 + 20)] [v + 1, v + 2] V V' ∧ V'.1 1 (a0 + 20) = Int32.ofNat (N + 1) ∧ (∀ k, k < 24 → V'.2 (v + 1) k = if k = 0 then x else if k = 23 then 0 else -2147483648) ∧ ∀ k, k < 3 → V'.2 (v + 2) k = 0
theorem vesselOf_s (hs : sh a0 T) (hF : rF a0 T V B) (hg : GZ a0 T z) (x : Int32) : ∃ q, f_X2_vesselOf T V z (a0 + 20) x = some q ∧ VO a0 x T V z B q := by
  obtain ⟨y, e1, e2, e3⟩ := find_s (x := x) hs hF
  obtain ⟨N, hN, n1, n2, n3⟩ := hF
  obtain ⟨g1, g2, g3, g4⟩ := hg
  unfold f_X2_vesselOf
  rw [e1, Option.bind_some]
  rcases e3 with rfl | ⟨i, rfl, i1, i2, i3⟩
  · rw [if_pos (show ((-2147483648 : Int32), V).1 < 0 from (by decide : (-2147483648 : Int32) < 0))]
    unfold f_X2_vesselOf_23
    dsimp only
    rw [n1, if_neg (nu_neg (by omega))]
    by_cases c : N < 40
    · -- the last step
      have fin : ∀ (T1 : gh_T) (V1 : gh_V) (z1 v : Nat), sh a0 T1 → T1.2.2.2.2 (a0 + 21) N = some v → z ≤ z1 → wt a0 T1 + (z1 - z) ≤ wt a0 T → (∀ i, T1.2.2.2.2 (a0 + 15) i = T.2.2.2.2 (a0 + 15) i) → (∀ i, i ≠ N → T1.2.2.2.2 (a0 + 21) i = T.2.2.2.2 (a0 + 21) i) → Fm z [] [] V V1 → ∃ q, f_X2_vesselOf_69 (a0 + 20) T1 V1 z1 x = some q ∧ VO a0 x T V z B q := by
        intro T1 V1 z1 v hs1 hv1 hz1 hw1 h15 h21 hFm
        have hvq := (hs1.2.2.2.1 N v hv1)
        obtain ⟨V2, b1, b2, b3, b4⟩ := begin_s (V := V1) (x := x) hvq.2
        have hsz : V1.1 1 (a0 + 20) = Int32.ofNat N := by rw [hFm.1 _ _ (by omega) (by simp)]; exact n1
        have hsz2 : V2.1 1 (a0 + 20) = Int32.ofNat N := by rw [b2.1 _ _ (by simp)]; exact hsz
        refine ⟨(some v, T1, gh_pf V2 1 (a0 + 20) (Int32.ofNat (N + 1)), z1), ?_, Or.inr (Or.inr ⟨N, v, T1, _, z1, rfl, c, n2, e2, hs1, hv1, hz1, hw1, h15, h21, ?_, pf_1, b3, b4⟩)⟩
        · unfold f_X2_vesselOf_69
          rw [hs1.r0_20, Option.bind_some, hs1.l21, hsz, nu_inb (by omega) c, sv_g_t rfl, nu_nat (by omega), hv1, Option.bind_some, b1, Option.bind_some, Option.bind_some, hs1.l21, hsz2, nu_s, pf_1, show Int32.ofNat (N + 1) - 1 = Int32.ofNat N from nu_sub (n := N + 1) (m := 1) (by omega), nu_inb (by omega) c, sv_g_t rfl, nu_nat (by omega), hv1]
        · exact (hFm.mono (by simp) (by simp)).trans (Fm.of ((b2.mono (by simp) (by simp)).pf (by simp)))
      rw [if_pos ((nl_gt 40 40 rfl (by decide) (by omega)).mpr c), hs.r0_20, Option.bind_some, hs.l21, nu_inb (by omega) c, sv_g_t rfl, nu_nat (by omega)]
      cases hv : T.2.2.2.2 (a0 + 21) N with
      | some v =>
        exact fin T V z v hs hv (Nat.le_refl _) (by omega) (fun _ => rfl) (fun _ _ => rfl) ⟨fun _ _ _ _ => rfl, fun _ _ _ => rfl⟩
      | none =>
        obtain ⟨k1, k2, k3, k4, k5, k6⟩ := nv_sh hs g4 g2 c hv
        rw [Option.bind_some]
        unfold f_X2_vesselOf_64 f_X7_init f_X2_vesselOf_68
        rw [Option.bind_some]
        dsimp only
        have hl21 : (gh_pr (gh_newa (gh_pr (gh_newa (gh_pr (gh_newa (gh_new T z 7) (z + 1) 10 (24 : Int32).toNatClampNeg) 0 z (some (z + 1))) (z + 1 + 1) 10 (3 : Int32).toNatClampNeg) 1 z (some (z + 1 + 1))) (z + 1 + 1 + 1) 9 (60 : Int32).toNatClampNeg) 2 z (some (z + 1 + 1 + 1))).2.2.2.1 (a0 + 21) = 40 := by
          have := k1.l21
          exact this
        rw [hl21, nu_inb (by omega) c, sv_g_t rfl]
        refine fin (nvT a0 z N T) _ (z + 1 + 1 + 1 + 1) z k1 (by rw [k5, if_pos rfl]) (by omega) (by omega) k4 (fun i hi => by rw [k5, if_neg hi]) ?_
        exact (gz_pf.trans ((gz_pa (by omega)).trans ((gz_pa (by omega)).trans (gz_pa (by omega)))))
    · have hN40 : N = 40 := by omega
      rw [if_neg (mt (nl_gt 40 40 rfl (by decide) (by omega)).mp c)]
      exact ⟨_, rfl, Or.inr (Or.inl ⟨rfl, by rw [n2, hN40]; rfl, e2⟩)⟩
  · rw [n2] at i1
    have i1' := (nu_lt (by omega) (by omega)).mp i1
    obtain ⟨v, hv, hr⟩ := n3 i i1'
    rw [if_neg (nu_neg (by omega)), if_neg (mt (nl_le 40 40 rfl (by decide) (by omega)).mp (by omega)), hs.r0_20, Option.bind_some, hs.l21, nu_inb (by omega) (by omega), sv_g_t rfl, nu_nat (by omega), hv]
    exact ⟨_, rfl, Or.inl ⟨i, v, N, rfl, i1', hN, n2, e2, hv⟩⟩
end V2
