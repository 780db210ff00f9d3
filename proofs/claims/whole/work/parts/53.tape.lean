/-! ===== PURE: fill, count, find, feed, again, clear ===== -/
theorem nu_s (k : Nat) : Int32.ofNat k + 1 = Int32.ofNat (k + 1) := nu_add k 1
/-- against a number that is written out -/
theorem nl_le {k : Nat} (x : Int32) (n : Nat) (hx : x = Int32.ofNat n) (hn : n < 2147483648) (hk : k < 2147483648) : x ≤ Int32.ofNat k ↔ n ≤ k := by rw [hx, nu_le hn hk]
theorem nl_ge {k : Nat} (x : Int32) (n : Nat) (hx : x = Int32.ofNat n) (hn : n < 2147483648) (hk : k < 2147483648) : Int32.ofNat k ≤ x ↔ k ≤ n := by rw [hx, nu_le hk hn]
theorem nl_lt {k : Nat} (x : Int32) (n : Nat) (hx : x = Int32.ofNat n) (hn : n < 2147483648) (hk : k < 2147483648) : x < Int32.ofNat k ↔ n < k := by rw [hx, nu_lt hn hk]
theorem nl_gt {k : Nat} (x : Int32) (n : Nat) (hx : x = Int32.ofNat n) (hn : n < 2147483648) (hk : k < 2147483648) : Int32.ofNat k < x ↔ k < n := by rw [hx, nu_lt hk hn]
theorem nl_eq {k : Nat} (x : Int32) (n : Nat) (hx : x = Int32.ofNat n) (hn : n < 2147483648) (hk : k < 2147483648) : Int32.ofNat k = x ↔ k = n := by rw [hx, nu_eq hk hn]
theorem fu_lt {m : Nat} (h : m < 100000) : m < sv_fu := h
section FI
variable {a0 : Nat} {T : gh_T} {V : gh_V} {B : md_B}
theorem fill_l {d L : Nat} {x : Int32} (hl : T.2.2.2.1 d = L) (hL : L < 90000) : ∀ (m k n : Nat) (V : gh_V), k + m = L → m < n → ∃ V', f_J7_fill_53178_5 T d n V x (Int32.ofNat k) (Int32.ofNat L) = some V' ∧ V'.1 = V.1 ∧ (∀ e, e ≠ d → V'.2 e = V.2 e) ∧ (∀ i, k ≤ i → i < L → V'.2 d i = x) ∧ ∀ i, i < k → V'.2 d i = V.2 d i := by
  intro m
  induction m with
  | zero =>
    intro k n V hk hn
    cases n with
    | zero => omega
    | succ n =>
      unfold f_J7_fill_53178_5
      rw [if_pos (by rw [nu_le (by omega) (by omega)]; omega)]
      exact ⟨V, rfl, rfl, fun _ _ => rfl, fun i h1 h2 => by omega, fun _ _ => rfl⟩
  | succ m ih =>
    intro k n V hk hn
    cases n with
    | zero => omega
    | succ n =>
      unfold f_J7_fill_53178_5
      rw [if_neg (by rw [nu_le (by omega) (by omega)]; omega), nu_inb (by omega) (by omega), sv_g_t rfl, nu_s]
      obtain ⟨V', e1, e2, e3, e4, e5⟩ := ih (k + 1) n (gh_pa V d (Int32.ofNat k) x) (by omega) (by omega)
      refine ⟨V', e1, e2, fun e he => by rw [e3 e he, pa_n he], fun i h1 h2 => ?_, fun i h1 => ?_⟩
      · by_cases hi : k + 1 ≤ i
        · exact e4 i hi h2
        · have : i = k := by omega
          subst this
          rw [e5 i (by omega), pa_2, nu_nat (by omega)]
          simp [upd]
      · rw [e5 i (by omega), pa_2, nu_nat (by omega)]
        simp [upd, show i ≠ k by omega]
theorem fill_s {d L : Nat} (x : Int32) (hl : T.2.2.2.1 d = L) (hL : L < 90000) : ∃ V', f_J7_fill_53178 T V d x = some V' ∧ V'.1 = V.1 ∧ (∀ e, e ≠ d → V'.2 e = V.2 e) ∧ ∀ i, i < L → V'.2 d i = x := by
  obtain ⟨V', e1, e2, e3, e4, -⟩ := fill_l (x := x) hl hL L 0 sv_fu V (by omega) (fu_lt (by omega))
  refine ⟨V', ?_, e2, e3, fun i hi => e4 i (by omega) hi⟩
  unfold f_J7_fill_53178
  rw [hl]
  exact e1
def acc (f : Nat → Int32) : Nat → Nat → Int32 → Int32
  | 0, _, s => s
  | m + 1, k, s => acc f m (k + 1) (s + f k)
theorem acc_eq {f g : Nat → Int32} : ∀ (m k : Nat) (s : Int32), (∀ i, i < k + m → f i = g i) → acc f m k s = acc g m k s := by
  intro m
  induction m with
  | zero => intro k s h; rfl
  | succ m ih =>
    intro k s h
    unfold acc
    rw [h k (by omega)]
    exact ih (k + 1) _ (fun i hi => h i (by omega))
theorem kept_l {a d : Nat} (hr : T.2.2.1 2 a = some d) (hl : T.2.2.2.1 d = 11) : ∀ (m k n : Nat) (s : Int32), k + m = 11 → m < n → f_X3_keptInAll_4 T a n V s (Int32.ofNat k) = some (acc (V.2 d) m k s, V) := by
  intro m
  induction m with
  | zero =>
    intro k n s hk hn
    cases n with
    | zero => omega
    | succ n =>
      unfold f_X3_keptInAll_4
      rw [if_pos ((nl_le 11 11 rfl (by decide) (by omega)).mpr (by omega))]
      rfl
  | succ m ih =>
    intro k n s hk hn
    cases n with
    | zero => omega
    | succ n =>
      unfold f_X3_keptInAll_4
      rw [if_neg (mt (nl_le 11 11 rfl (by decide) (by omega)).mp (by omega)), hr, Option.bind_some, hl, nu_inb (by omega) (by omega), sv_g_t rfl, nu_s, nu_nat (by omega)]
      exact ih (k + 1) n _ (by omega) (by omega)
theorem cnt_l {x : Int32} : ∀ (m k n : Nat) (s : Int32), k + m = 11 → m < n → f_X9_count_28 n B x s (Int32.ofNat k) = some (if x = 9 then B.1 28 else if x = 10 then B.1 2 else if x = 11 then B.1 4 else if x = 12 then (if B.1 5 = 0 then 0 else B.1 7) else if x = 13 then acc (B.2 22) m k s else -2147483648, B) := by
  intro m
  induction m with
  | zero =>
    intro k n s hk hn
    cases n with
    | zero => omega
    | succ n =>
      unfold f_X9_count_28
      rw [if_pos ((nl_le 11 11 rfl (by decide) (by omega)).mpr (by omega))]
      unfold acc
      split
      · rfl
      · split
        · rfl
        · split
          · rfl
          · split
            · split <;> rfl
            · split <;> rfl
  | succ m ih =>
    intro k n s hk hn
    cases n with
    | zero => omega
    | succ n =>
      unfold f_X9_count_28
      rw [if_neg (mt (nl_le 11 11 rfl (by decide) (by omega)).mp (by omega)), nu_inb (by omega) (by omega), sv_g_t rfl, nu_s, nu_nat (by omega)]
      exact ih (k + 1) n _ (by omega) (by omega)
theorem s_count (h : Rel a0 T V B) (x : Int32) : ∃ q r, f_X8_count T V a0 x = some q ∧ f_X9_count B x = some r ∧ q.1 = r.1 ∧ Rel a0 T q.2 r.2 := by
  have h0 := h
  obtain ⟨hs, ⟨k, k1, k2, k3, -⟩, ⟨j, j1, j2, j3, -⟩, h3, h4, h5, h6, h7, ⟨n, n1, n2, n3, -⟩, h9, h10⟩ := h
  have key : ∀ y : Int32, (y < 0 ∨ 8 < y) → ∃ q r, f_X8_count_17 T a0 V y = some q ∧ f_X9_count B y = some r ∧ q.1 = r.1 ∧ Rel a0 T q.2 r.2 := by
    intro y hy
    have hr : f_X9_count B y = some (if y = 9 then B.1 28 else if y = 10 then B.1 2 else if y = 11 then B.1 4 else if y = 12 then (if B.1 5 = 0 then 0 else B.1 7) else if y = 13 then acc (B.2 22) 11 0 0 else -2147483648, md_pf B 0 0) := by
      unfold f_X9_count
      rw [in_n (lo := 0) (hi := 8) (l := 0) (h := 8) rfl rfl hy, Option.bind_some, if_pos rfl]
      have := cnt_l (B := md_pf B 0 0) (x := y) 11 0 sv_fu 0 rfl (fu_lt (by decide))
      rw [bf_n (by decide), bf_n (by decide), bf_n (by decide), bf_n (by decide), bf_n (by decide), bf_2] at this
      exact this
    rw [hr]
    unfold f_X8_count_17
    by_cases c9 : y = 9
    · rw [if_pos c9, if_pos c9, hs.r8_0]
      exact ⟨_, _, rfl, rfl, by show V.1 1 (a0 + 20) = B.1 28; rw [n2, n3], h0.q0⟩
    · rw [if_neg c9, if_neg c9]
      by_cases c10 : y = 10
      · rw [if_pos c10, if_pos c10, hs.r1_0]
        exact ⟨_, _, rfl, rfl, by show V.1 1 (a0 + 2) = B.1 2; rw [k2, k3], h0.q0⟩
      · rw [if_neg c10, if_neg c10]
        by_cases c11 : y = 11
        · rw [if_pos c11, if_pos c11, hs.r2_0]
          exact ⟨_, _, rfl, rfl, by show V.1 1 (a0 + 4) = B.1 4; rw [j2, j3], h0.q0⟩
        · rw [if_neg c11, if_neg c11]
          by_cases c12 : y = 12
          · rw [if_pos c12, if_pos c12, hs.r3_0, Option.bind_some]
            unfold f_X5_underWay
            obtain ⟨e1, e2⟩ := h4
            rcases e2 with e2 | ⟨m, ⟨-, m2, m3, -⟩, e3⟩
            · rw [if_pos e2, if_pos (by rw [← e1]; exact e2)]
              exact ⟨_, _, rfl, rfl, rfl, h0.q0⟩
            · have hne : V.1 1 (a0 + 6) ≠ 0 := by
                rcases e3 with ⟨e3, -⟩ | ⟨-, ⟨e3, -⟩ | ⟨-, e3 | e3 | e3⟩⟩ <;> rw [e3] <;> decide
              rw [if_neg hne, if_neg (by rw [← e1]; exact hne)]
              refine ⟨_, _, rfl, rfl, ?_, h0.q0⟩
              show V.1 3 (a0 + 6) + 1 = B.1 7
              rw [m2, m3, nu_s]
          · rw [if_neg c12, if_neg c12]
            by_cases c13 : y = 13
            · rw [if_pos c13, if_pos c13, hs.r6_0, Option.bind_some]
              unfold f_X3_keptInAll
              have := kept_l (V := V) hs.r2_14 hs.l17 11 0 sv_fu 0 rfl (fu_lt (by decide))
              rw [show (0 : Int32) = Int32.ofNat 0 from rfl] at this ⊢
              rw [this]
              refine ⟨_, _, rfl, rfl, acc_eq 11 0 _ (fun i hi => (h6.2 i (by omega)).1), h0.q0⟩
            · rw [if_neg c13, if_neg c13]
              exact ⟨_, _, rfl, rfl, rfl, h0.q0⟩
  unfold f_X8_count
  by_cases c1 : x < 0
  · rw [if_pos c1]
    exact key x (Or.inl c1)
  · rw [if_neg c1]
    by_cases c2 : 9 ≤ x
    · rw [if_pos c2]
      refine key x (Or.inr ?_)
      obtain ⟨n, hn, rfl⟩ := nu_of c1
      have := (nu_le (n := 9) (by decide) hn).mp c2
      exact (nu_lt (n := 8) (by decide) hn).mpr (by omega)
    · rw [if_neg c2, hs.r0_0, Option.bind_some, hs.l1]
      obtain ⟨n, hn, rfl⟩ := nu_of c1
      have c3 : ¬ 9 ≤ n := fun c => c2 ((nu_le (n := 9) (by decide) hn).mpr c)
      rw [nu_inb hn (by omega), sv_g_t rfl, nu_nat hn]
      refine ⟨_, (B.2 10 n, md_pf B 0 0), rfl, ?_, h3 n (by omega), h0.q0⟩
      unfold f_X9_count
      rw [in_y (lo := 0) (hi := 8) (l := 0) (h := 8) rfl rfl c1 (fun c => by have := (nu_lt (n := 8) (by decide) hn).mp c; omega), Option.bind_some, if_neg (by simp), nu_inb hn (by omega), sv_g_t rfl, nu_nat hn]
      rfl
/-- the table of vessels, looked through -/
theorem find_l {x : Int32} {N : Nat} (hs : sh a0 T) (hN : N ≤ 40) (h1 : V.1 1 (a0 + 20) = Int32.ofNat N) (h2 : B.1 28 = Int32.ofNat N) (h3 : ∀ i, i < N → ∃ v, T.2.2.2.2 (a0 + 21) i = some v ∧ rV V v B i) : ∀ (m k n n' : Nat), k + m = N → m < n → m < n' → ∃ y, f_X2_numberOf_2 T (a0 + 20) n V x (Int32.ofNat k) = some (y, V) ∧ f_X9_found_2 n' B x (Int32.ofNat k) = some (y, B) ∧ (y = -2147483648 ∨ ∃ j : Nat, j < N ∧ y = Int32.ofNat j ∧ B.2 29 (24 * j) = x) := by
  intro m
  induction m with
  | zero =>
    intro k n n' hk hn hn'
    cases n with
    | zero => omega
    | succ n =>
      cases n' with
      | zero => omega
      | succ n' =>
        unfold f_X2_numberOf_2 f_X9_found_2
        rw [h1, h2, if_pos (by rw [nu_le (by omega) (by omega)]; omega), if_pos (by rw [nu_le (by omega) (by omega)]; omega)]
        exact ⟨_, rfl, rfl, Or.inl rfl⟩
  | succ m ih =>
    intro k n n' hk hn hn'
    cases n with
    | zero => omega
    | succ n =>
      cases n' with
      | zero => omega
      | succ n' =>
        obtain ⟨v, hv, hr⟩ := h3 k (by omega)
        have hv9 := hs.2.2.2.1 k v hv
        unfold f_X2_numberOf_2 f_X9_found_2 f_X2_numberOf_42
        have e24 : 24 * Int32.ofNat k = Int32.ofNat (24 * k) := nu_mul 24 k
        rw [h1, h2, if_neg (by rw [nu_le (by omega) (by omega)]; omega), if_neg (mt (nl_le 40 40 rfl (by decide) (by omega)).mp (by omega)), if_neg (by rw [nu_le (by omega) (by omega)]; omega), hs.r0_20, Option.bind_some, Option.bind_some, hs.l21, nu_inb (by omega) (by omega), sv_g_t rfl, sv_g_t rfl, nu_nat (by omega), hv]
        simp only [Option.bind_some]
        rw [hv9.2.2.2.2.2.1, Option.bind_some, hv9.2.2.2.2.2.2.2.2.1, show sv_inb (0 : Int32) 24 = true from by decide, sv_g_t rfl, nu_s, e24, nu_inb (by omega) (by omega), sv_g_t rfl, nu_nat (by omega)]
        have e0 : V.2 (v + 1) (0 : Int32).toNatClampNeg = B.2 29 (24 * k) := hr.1 0 (by decide)
        rw [e0]
        by_cases hx : B.2 29 (24 * k) = x
        · rw [if_pos hx, if_pos hx]
          exact ⟨_, rfl, rfl, Or.inr ⟨k, by omega, rfl, hx⟩⟩
        · rw [if_neg hx, if_neg hx]
          exact ih (k + 1) n n' (by omega) (by omega) (by omega)
theorem find_s {x : Int32} (hs : sh a0 T) (h : rF a0 T V B) : ∃ y, f_X2_numberOf T V (a0 + 20) x = some (y, V) ∧ f_X9_found B x = some (y, B) ∧ (y = -2147483648 ∨ ∃ (j : Nat), y = Int32.ofNat j ∧ Int32.ofNat j < B.1 28 ∧ j < 40 ∧ B.2 29 (24 * j) = x) := by
  obtain ⟨N, hN, h1, h2, h3⟩ := h
  obtain ⟨y, e1, e2, e3⟩ := find_l (x := x) hs hN h1 h2 h3 N 0 sv_fu sv_fu (by omega) (fu_lt (by omega)) (fu_lt (by omega))
  refine ⟨y, e1, e2, ?_⟩
  rcases e3 with e3 | ⟨j, g1, g2, g3⟩
  · exact Or.inl e3
  · exact Or.inr ⟨j, g2, by rw [h2, nu_lt (by omega) (by omega)]; exact g1, by omega, g3⟩
theorem s_find (h : Rel a0 T V B) (x : Int32) : ∃ q r, f_X8_find T V a0 x = some q ∧ f_X9_find B x = some r ∧ q.1 = r.1 ∧ Rel a0 T q.2 r.2 := by
  have h0 := h.q0
  have hs := h.1
  obtain ⟨y, e1, e2, -⟩ := find_s (x := x) hs h0.2.2.2.2.2.2.2.2.1
  unfold f_X8_find f_X9_find
  rw [hs.r8_0, Option.bind_some, e1, e2]
  exact ⟨_, _, rfl, rfl, rfl, h0⟩
/-- a sign more -/
theorem sr_add {a d L k : Nat} {x : Int32} (hr : T.2.2.1 0 a = some d) (hl : T.2.2.2.1 d = L) (hL : L < 2147483648) (hk : V.1 1 a = Int32.ofNat k) (hk2 : k < L) : f_X6_add T V a x = some (gh_pf (gh_pa V d (Int32.ofNat k) (pb x)) 1 a (Int32.ofNat (k + 1))) := by
  unfold f_X6_add
  rw [hk, if_neg (nu_neg (by omega)), hr, Option.bind_some, hl, if_neg (by rw [nu_le hL (by omega)]; omega), Option.bind_some, hl, nu_inb (by omega) hk2, sv_g_t rfl, pa_1, hk, nu_s]
  rfl
end FI
