/-! ===== PURE: the shape grows ===== -/
def cn (f : Nat → Option Nat) : Nat → Nat
  | 0 => 0
  | n + 1 => cn f n + (if f n = none then 1 else 0)
theorem cn_eq {f g : Nat → Option Nat} : ∀ n, (∀ i, i < n → g i = f i) → cn g n = cn f n := by
  intro n
  induction n with
  | zero => intro _; rfl
  | succ n ih =>
    intro h
    unfold cn
    rw [ih (fun i hi => h i (by omega)), h n (by omega)]
theorem cn_less {f g : Nat → Option Nat} {j : Nat} (h1 : f j = none) (h2 : g j ≠ none) (h : ∀ i, i ≠ j → g i = f i) : ∀ n, j < n → cn g n + 1 = cn f n := by
  intro n
  induction n with
  | zero => intro c; omega
  | succ n ih =>
    intro hj
    unfold cn
    by_cases e : j = n
    · subst e
      rw [if_neg h2, if_pos h1, cn_eq j (fun i hi => h i (by omega))]
    · have := ih (by omega)
      rw [h n (by omega)]
      omega
/-- what may still be made -/
def wt (a0 : Nat) (T : gh_T) : Nat := 4 * cn (fun i => T.2.2.2.2 (a0 + 21) i) 40 + 2 * cn (fun i => T.2.2.2.2 (a0 + 15) i) 11
/-- T' has what T has, below z -/
def Ext (z : Nat) (T T' : gh_T) : Prop := (∀ k a, a < z → T'.2.2.1 k a = T.2.2.1 k a) ∧ (∀ a, a < z → T'.2.2.2.1 a = T.2.2.2.1 a) ∧ ∀ a c, gh_is T a c → gh_is T' a c
def rowq (T : gh_T) (r : Nat) : Prop := gh_is T r 0 ∧ gh_is T (r + 1) 10 ∧ T.2.2.1 1 r = some (r + 1) ∧ T.2.2.2.1 (r + 1) = 103
def vesq (T : gh_T) (v : Nat) : Prop := gh_is T v 7 ∧ gh_is T (v + 1) 10 ∧ gh_is T (v + 2) 10 ∧ gh_is T (v + 3) 9 ∧ T.2.2.1 0 v = some (v + 1) ∧ T.2.2.1 1 v = some (v + 2) ∧ T.2.2.1 2 v = some (v + 3) ∧ T.2.2.2.1 (v + 1) = 24 ∧ T.2.2.2.1 (v + 2) = 3 ∧ T.2.2.2.1 (v + 3) = 60
section SG
variable {a0 z : Nat} {T T' : gh_T}
theorem rowq.ext {r : Nat} (h : rowq T r) (hfr : gh_fr T z) (hE : Ext z T T') : rowq T' r := by
  obtain ⟨h1, h2, h3, h4⟩ := h
  have l1 := hfr _ h1.1
  have l2 := hfr _ h2.1
  exact ⟨hE.2.2 _ _ h1, hE.2.2 _ _ h2, by rw [hE.1 _ _ l1]; exact h3, by rw [hE.2.1 _ l2]; exact h4⟩
theorem vesq.ext {v : Nat} (h : vesq T v) (hfr : gh_fr T z) (hE : Ext z T T') : vesq T' v := by
  obtain ⟨h1, h2, h3, h4, h5, h6, h7, h8, h9, h10⟩ := h
  have l1 := hfr _ h1.1
  have l2 := hfr _ h2.1
  have l3 := hfr _ h3.1
  have l4 := hfr _ h4.1
  exact ⟨hE.2.2 _ _ h1, hE.2.2 _ _ h2, hE.2.2 _ _ h3, hE.2.2 _ _ h4, by rw [hE.1 _ _ l1]; exact h5, by rw [hE.1 _ _ l1]; exact h6, by rw [hE.1 _ _ l1]; exact h7, by rw [hE.2.1 _ l2]; exact h8, by rw [hE.2.1 _ l3]; exact h9, by rw [hE.2.1 _ l4]; exact h10⟩
theorem sh.grow (hs : sh a0 T) (hz : a0 + 24 ≤ z) (hfr : gh_fr T z) (hE : Ext z T T') (hr : ∀ i r, T'.2.2.2.2 (a0 + 15) i = some r → T.2.2.2.2 (a0 + 15) i = some r ∨ r = z ∧ rowq T' z ∧ ∀ j, T'.2.2.2.2 (a0 + 15) j = some z → j = i) (hv : ∀ i r, T'.2.2.2.2 (a0 + 21) i = some r → T.2.2.2.2 (a0 + 21) i = some r ∨ r = z ∧ vesq T' z ∧ ∀ j, T'.2.2.2.2 (a0 + 21) j = some z → j = i) : sh a0 T' := by
  obtain ⟨h1, h2, h3, h4⟩ := hs
  have b1 : ∀ q ∈ sh_refs, q.2.1 < 24 := by decide
  have b2 : ∀ q ∈ sh_lens, q.1 < 24 := by decide
  refine ⟨fun q hq => ?_, fun q hq => ?_, ⟨fun i r hi => ?_, fun i j r hi hj => ?_⟩, ⟨fun i r hi => ?_, fun i j r hi hj => ?_⟩⟩
  · have := b1 q hq
    rw [hE.1 _ _ (by omega)]
    exact h1 q hq
  · have := b2 q hq
    rw [hE.2.1 _ (by omega)]
    exact h2 q hq
  · rcases hr i r hi with ho | ⟨rfl, hn, -⟩
    · have := h3.1 i r ho
      exact ⟨this.1, rowq.ext this.2 hfr hE⟩
    · exact ⟨hz, hn⟩
  · rcases hr i r hi with ho | ⟨rfl, hn, hu⟩
    · rcases hr j r hj with ho' | ⟨rfl, hn, hu⟩
      · exact h3.2 i j r ho ho'
      · exact hu i hi
    · exact (hu j hj).symm
  · rcases hv i r hi with ho | ⟨rfl, hn, -⟩
    · have := h4.1 i r ho
      exact ⟨this.1, vesq.ext this.2 hfr hE⟩
    · exact ⟨hz, hn⟩
  · rcases hv i r hi with ho | ⟨rfl, hn, hu⟩
    · rcases hv j r hj with ho' | ⟨rfl, hn, hu⟩
      · exact h4.2 i j r ho ho'
      · exact hu i hi
    · exact (hu j hj).symm
theorem fr_lt {a c : Nat} (hfr : gh_fr T z) (h : gh_is T a c) : a < z := hfr a h.1
/-- a new vessel -/
def nvT (a0 z j : Nat) (T : gh_T) : gh_T := gh_pq (gh_pr (gh_newa (gh_pr (gh_newa (gh_pr (gh_newa (gh_new T z 7) (z + 1) 10 24) 0 z (some (z + 1))) (z + 1 + 1) 10 3) 1 z (some (z + 1 + 1))) (z + 1 + 1 + 1) 9 60) 2 z (some (z + 1 + 1 + 1))) (a0 + 21) (Int32.ofNat j) (some z)
theorem nv_sh (hs : sh a0 T) (hz : a0 + 24 ≤ z) (hfr : gh_fr T z) {j : Nat} (hj : j < 40) (hn : T.2.2.2.2 (a0 + 21) j = none) : sh a0 (nvT a0 z j T) ∧ vesq (nvT a0 z j T) z ∧ wt a0 (nvT a0 z j T) + 4 = wt a0 T ∧ (∀ i, (nvT a0 z j T).2.2.2.2 (a0 + 15) i = T.2.2.2.2 (a0 + 15) i) ∧ (∀ i, (nvT a0 z j T).2.2.2.2 (a0 + 21) i = if i = j then some z else T.2.2.2.2 (a0 + 21) i) ∧ Ext z T (nvT a0 z j T) := by
  have hE : Ext z T (nvT a0 z j T) := by
    refine ⟨fun k a ha => ?_, fun a ha => ?_, fun a c h => ?_⟩
    · simp [nvT, gh_pq, gh_pr, gh_newa, gh_new, show a ≠ z by omega]
    · simp [nvT, gh_pq, gh_pr, gh_newa, gh_new, show a ≠ z + 1 by omega, show a ≠ z + 1 + 1 by omega, show a ≠ z + 1 + 1 + 1 by omega]
    · have := fr_lt hfr h
      obtain ⟨h1, h2⟩ := h
      refine ⟨?_, ?_⟩
      · simp [nvT, gh_pq, gh_pr, gh_newa, gh_new, h1]
      · simp [nvT, gh_pq, gh_pr, gh_newa, gh_new, show a ≠ z by omega, show a ≠ z + 1 by omega, show a ≠ z + 1 + 1 by omega, show a ≠ z + 1 + 1 + 1 by omega, h2]
  have h15 : ∀ i, (nvT a0 z j T).2.2.2.2 (a0 + 15) i = T.2.2.2.2 (a0 + 15) i := by
    intro i
    simp [nvT, gh_pq, gh_pr, gh_newa, gh_new, show a0 + 15 ≠ z + 1 by omega, show a0 + 15 ≠ z + 1 + 1 by omega, show a0 + 15 ≠ z + 1 + 1 + 1 by omega]
  have h21 : ∀ i, (nvT a0 z j T).2.2.2.2 (a0 + 21) i = if i = j then some z else T.2.2.2.2 (a0 + 21) i := by
    intro i
    have e := nu_nat (n := j) (by omega)
    simp only [nvT, gh_pq, gh_pr, gh_newa, gh_new, e, true_and]
    by_cases c : i = j
    · simp [c]
    · simp [c, show a0 + 21 ≠ z + 1 by omega, show a0 + 21 ≠ z + 1 + 1 by omega, show a0 + 21 ≠ z + 1 + 1 + 1 by omega]
  have hvq : vesq (nvT a0 z j T) z := by
    refine ⟨⟨?_, ?_⟩, ⟨?_, ?_⟩, ⟨?_, ?_⟩, ⟨?_, ?_⟩, ?_, ?_, ?_, ?_, ?_, ?_⟩ <;> simp [nvT, gh_pq, gh_pr, gh_newa, gh_new, show ¬ z = z + 1 + 1 + 1 by omega, show ¬ z = z + 1 + 1 by omega, show ¬ z + 1 = z + 1 + 1 + 1 by omega]
  refine ⟨hs.grow hz hfr hE (fun i r h => Or.inl (by rw [← h15]; exact h)) (fun i r h => ?_), hvq, ?_, h15, h21, hE⟩
  · rw [h21] at h
    by_cases c : i = j
    · rw [if_pos c] at h
      refine Or.inr ⟨(Option.some.inj h).symm, hvq, fun q hq => ?_⟩
      rw [h21] at hq
      by_cases c2 : q = j
      · omega
      · rw [if_neg c2] at hq
        have := fr_lt hfr (hs.2.2.2.1 q z hq).2.1
        omega
    · rw [if_neg c] at h
      exact Or.inl h
  · unfold wt
    have e1 : cn (fun i => (nvT a0 z j T).2.2.2.2 (a0 + 15) i) 11 = cn (fun i => T.2.2.2.2 (a0 + 15) i) 11 := cn_eq 11 (fun i _ => h15 i)
    have e2 : cn (fun i => (nvT a0 z j T).2.2.2.2 (a0 + 21) i) 40 + 1 = cn (fun i => T.2.2.2.2 (a0 + 21) i) 40 := cn_less (j := j) hn (by simp only [h21, if_pos]; simp) (fun i hi => by simp only [h21]; rw [if_neg hi]) 40 hj
    omega
/-- a new row of bits -/
def nrT (a0 z j : Nat) (T : gh_T) : gh_T := gh_pq (gh_pr (gh_newa (gh_new T z 0) (z + 1) 10 103) 1 z (some (z + 1))) (a0 + 15) (Int32.ofNat j) (some z)
theorem nr_sh (hs : sh a0 T) (hz : a0 + 24 ≤ z) (hfr : gh_fr T z) {j : Nat} (hj : j < 11) (hn : T.2.2.2.2 (a0 + 15) j = none) : sh a0 (nrT a0 z j T) ∧ rowq (nrT a0 z j T) z ∧ wt a0 (nrT a0 z j T) + 2 = wt a0 T ∧ (∀ i, (nrT a0 z j T).2.2.2.2 (a0 + 21) i = T.2.2.2.2 (a0 + 21) i) ∧ (∀ i, (nrT a0 z j T).2.2.2.2 (a0 + 15) i = if i = j then some z else T.2.2.2.2 (a0 + 15) i) ∧ Ext z T (nrT a0 z j T) := by
  have hE : Ext z T (nrT a0 z j T) := by
    refine ⟨fun k a ha => ?_, fun a ha => ?_, fun a c h => ?_⟩
    · simp [nrT, gh_pq, gh_pr, gh_newa, gh_new, show a ≠ z by omega]
    · simp [nrT, gh_pq, gh_pr, gh_newa, gh_new, show a ≠ z + 1 by omega]
    · have := fr_lt hfr h
      obtain ⟨h1, h2⟩ := h
      refine ⟨?_, ?_⟩
      · simp [nrT, gh_pq, gh_pr, gh_newa, gh_new, h1]
      · simp [nrT, gh_pq, gh_pr, gh_newa, gh_new, show a ≠ z by omega, show a ≠ z + 1 by omega, h2]
  have h21 : ∀ i, (nrT a0 z j T).2.2.2.2 (a0 + 21) i = T.2.2.2.2 (a0 + 21) i := by
    intro i
    simp [nrT, gh_pq, gh_pr, gh_newa, gh_new, show a0 + 21 ≠ z + 1 by omega]
  have h15 : ∀ i, (nrT a0 z j T).2.2.2.2 (a0 + 15) i = if i = j then some z else T.2.2.2.2 (a0 + 15) i := by
    intro i
    have e := nu_nat (n := j) (by omega)
    simp only [nrT, gh_pq, gh_pr, gh_newa, gh_new, e, true_and]
    by_cases c : i = j
    · simp [c]
    · simp [c, show a0 + 15 ≠ z + 1 by omega]
  have hvq : rowq (nrT a0 z j T) z := by
    refine ⟨⟨?_, ?_⟩, ⟨?_, ?_⟩, ?_, ?_⟩ <;> simp [nrT, gh_pq, gh_pr, gh_newa, gh_new]
  refine ⟨hs.grow hz hfr hE (fun i r h => ?_) (fun i r h => Or.inl (by rw [← h21]; exact h)), hvq, ?_, h21, h15, hE⟩
  · rw [h15] at h
    by_cases c : i = j
    · rw [if_pos c] at h
      refine Or.inr ⟨(Option.some.inj h).symm, hvq, fun q hq => ?_⟩
      rw [h15] at hq
      by_cases c2 : q = j
      · omega
      · rw [if_neg c2] at hq
        have := fr_lt hfr (hs.2.2.1.1 q z hq).2.1
        omega
    · rw [if_neg c] at h
      exact Or.inl h
  · unfold wt
    have e1 : cn (fun i => (nrT a0 z j T).2.2.2.2 (a0 + 21) i) 40 = cn (fun i => T.2.2.2.2 (a0 + 21) i) 40 := cn_eq 40 (fun i _ => h21 i)
    have e2 : cn (fun i => (nrT a0 z j T).2.2.2.2 (a0 + 15) i) 11 + 1 = cn (fun i => T.2.2.2.2 (a0 + 15) i) 11 := cn_less (j := j) hn (by simp only [h15, if_pos]; simp) (fun i hi => by simp only [h15]; rw [if_neg hi]) 11 hj
    omega
end SG
/-- what may differ below z -/
def Fm (z : Nat) (F : List (Nat × Nat)) (D : List Nat) (V V' : gh_V) : Prop := (∀ k a, a < z → (k, a) ∉ F → V'.1 k a = V.1 k a) ∧ ∀ d, d < z → d ∉ D → V'.2 d = V.2 d
theorem Fm.of {z : Nat} {F : List (Nat × Nat)} {D : List Nat} {V V' : gh_V} (h : ch F D V V') : Fm z F D V V' := ⟨fun k a _ hm => h.1 k a hm, fun d _ hm => h.2 d hm⟩
theorem Fm.trans {z : Nat} {F : List (Nat × Nat)} {D : List Nat} {V V1 V2 : gh_V} (h : Fm z F D V V1) (h' : Fm z F D V1 V2) : Fm z F D V V2 := ⟨fun k a ha hm => (h'.1 k a ha hm).trans (h.1 k a ha hm), fun d hd hm => (h'.2 d hd hm).trans (h.2 d hd hm)⟩
theorem Fm.mono {z : Nat} {F F' : List (Nat × Nat)} {D D' : List Nat} {V V1 : gh_V} (h : Fm z F D V V1) (hF : ∀ x ∈ F, x ∈ F') (hD : ∀ x ∈ D, x ∈ D') : Fm z F' D' V V1 := ⟨fun k a ha hk => h.1 k a ha (fun c => hk (hF _ c)), fun d hd hm => h.2 d hd (fun c => hm (hD _ c))⟩
theorem Fm.less {z z' : Nat} {F : List (Nat × Nat)} {D : List Nat} {V V1 : gh_V} (h : Fm z F D V V1) (hz : z' ≤ z) : Fm z' F D V V1 := ⟨fun k a ha hk => h.1 k a (by omega) hk, fun d hd hm => h.2 d (by omega) hm⟩
theorem gz_pf {V : gh_V} {z : Nat} : Fm z [] [] V (gh_nv V z) := ⟨fun k a ha _ => by simp [gh_nv, show a ≠ z by omega], fun _ _ _ => rfl⟩
theorem gz_pa {V : gh_V} {z y : Nat} (h : z ≤ y) : Fm z [] [] V (gh_nva V y) := ⟨fun _ _ _ _ => rfl, fun d hd _ => by simp [gh_nva, show d ≠ y by omega]⟩
