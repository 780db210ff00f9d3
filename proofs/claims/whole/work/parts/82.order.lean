/-! ===== PURE: in order ===== -/
section OR
variable {a0 z : Nat} {T : gh_T} {V : gh_V} {B : md_B}
theorem bpa_0 {k : Nat} {i x : Int32} (h : x = B.2 k i.toNatClampNeg) : md_pa B k i x = B := by
  unfold md_pa
  ext1
  · rfl
  · funext y
    by_cases c : y = k
    · subst c
      simp only [if_pos]
      funext j
      unfold upd
      by_cases c2 : j = i.toNatClampNeg
      · rw [if_pos c2, h, c2]
      · rw [if_neg c2]
    · simp [c]
theorem i32_add0 (x : Int32) : x + 0 = x := Int32.add_zero x
theorem order_s {I M P : Nat} (h : RX 0 a0 T V B) (hI : I ≤ 10) (hM1 : 1 ≤ M) (hM9 : M ≤ 9) (hP1 : 1 ≤ P) (hPM : P ≤ M) (b17 : B.1 17 = Int32.ofNat M) (b18 : B.1 18 = Int32.ofNat P) (b19 : B.1 19 = Int32.ofNat I) : ∃ o V1, f_X8_isInOrder T V a0 (Int32.ofNat I) (Int32.ofNat M) (Int32.ofNat P) = some (o, V1) ∧ ch [] [a0 + 1, a0 + 17] V V1 ∧
    ((o = 0 ∧ ∃ B1, f_X9_parted B = some B1 ∧ cb [] [10, 22, 23] B B1 ∧ RX 0 a0 T V1 B1) ∨
    (o = 1 ∧ ∃ B1, f_X9_parted B = f_X9_parted_114 B1 ∧ cb [] [10, 22, 23] B B1 ∧ RX 0 a0 T V1 B1 ∧ ∃ n0, n0 ≤ 360 * (P - 1) ∧ B1.2 23 I = Int32.ofNat n0 ∧ B1.2 22 I = Int32.ofNat (P - 1) ∧ ((P - 1 = 0 ∧ n0 = 0 ∧ V1.2 (a0 + 17) I = 0) ∨ (1 ≤ P - 1 ∧ P - 1 ≤ 8 ∧ V1.2 (a0 + 17) I = Int32.ofNat (P - 1) ∧ ∃ r, T.2.2.2.2 (a0 + 15) I = some r ∧ V1.1 2 r = Int32.ofNat n0 ∧ rB n0 (V1.2 (r + 1)) (B1.2 24) (3240 * I) 103)))) := by
  have hs := h.1
  have hP := h.2.2.2.2.2.1
  obtain ⟨p1, p2, p3⟩ := hP.2 I (by omega)
  have n7 : sv_inb (7 : Int32) 9 = true := by decide
  have nI : sv_inb (Int32.ofNat I) 11 = true := nu_inb (by omega) (by omega)
  have nN : (Int32.ofNat I).toNatClampNeg = I := nu_nat (by omega)
  have gt : ∀ {α : Type} (y : Option α), sv_g true y = y := fun y => sv_g_t rfl
  -- nothing is kept any more, one is lost
  have lost : RX 0 a0 T (gh_pa (gh_pa V (a0 + 17) (Int32.ofNat I) 0) (a0 + 1) 7 (V.2 (a0 + 1) 7 + 1)) (md_pa (md_pa B 10 7 (B.2 10 7 + 1)) 22 (Int32.ofNat I) 0) := by
    have ht := h.tally (j := 7) (by decide) (by decide)
    refine ht.none hI ⟨fun _ _ _ => rfl, fun d hd => ?_⟩ (cb.rf.pa (by simp)) (fun i hi => ?_) ?_ (fun i hi => ?_) ?_ (fun i hi => ?_)
    · simp at hd
      by_cases c : d = a0 + 1
      · subst c
        rw [pa_2, pa_n (by omega), pa_2]
        rfl
      · rw [pa_n c, pa_n hd, pa_n c]
    · rw [pa_n (by omega), pa_2, nN, pa_n (by omega)]
      unfold upd
      rw [if_neg hi]
    · rw [pa_n (by omega), pa_2, nN]
      simp [upd]
    · rw [ba_2, nN]
      unfold upd
      rw [if_neg hi]
      rfl
    · rw [ba_2, nN]
      simp [upd]
    · rw [ba_n (by decide)]
      rfl
  have lostV : ch [] [a0 + 1, a0 + 17] V (gh_pa (gh_pa V (a0 + 17) (Int32.ofNat I) 0) (a0 + 1) 7 (V.2 (a0 + 1) 7 + 1)) := (ch.rf.pa (by simp)).pa (by simp)
  unfold f_X8_isInOrder
  by_cases cP : P = 1
  · subst cP
    have h33 : ∀ s0 s1, f_X9_parted_33 B s0 s1 7 = f_X9_parted_114 (md_pa (md_pa (md_pa B 10 7 (s1 + s0)) 22 (Int32.ofNat I) 0) 23 (Int32.ofNat I) 0) := by
      intro s0 s1
      unfold f_X9_parted_33
      rw [ba_1, ba_1, ba_1, b19, n7, nI, gt, gt, gt]
    have hpt : f_X9_parted B = if (B.2 22 I) ≤ 0 then f_X9_parted_33 B 0 (B.2 10 7) 7 else f_X9_parted_33 B 1 (B.2 10 7) 7 := by
      unfold f_X9_parted
      rw [b18, if_pos (show Int32.ofNat 1 = 1 from rfl), b19, nI, gt, nN]
      rfl
    rw [if_pos (show Int32.ofNat 1 = 1 from rfl), hs.r6_0, Option.bind_some, drop_s hs hI, Option.bind_some]
    by_cases c0 : V.2 (a0 + 17) I = 0
    · have c0' : B.2 22 I = 0 := by rw [← p1]; exact c0
      rw [if_pos c0, if_pos rfl]
      have e0 : md_pa B 10 7 (B.2 10 7 + 0) = B := bpa_0 (i32_add0 _)
      refine ⟨1, V, rfl, ch.rf, Or.inr ⟨rfl, md_pa (md_pa B 22 (Int32.ofNat I) 0) 23 (Int32.ofNat I) 0, ?_, (cb.rf.pa (by simp)).pa (by simp), ?_, 0, by omega, ?_, ?_, Or.inl ⟨rfl, rfl, c0⟩⟩⟩
      · rw [hpt, if_pos (by rw [c0']; decide), h33, e0]
      · refine h.none hI ⟨fun _ _ _ => rfl, fun _ _ => rfl⟩ ((cb.rf.pa (by simp)).pa (by simp)) (fun _ _ => rfl) c0 (fun i hi => ?_) ?_ (fun i hi => ?_)
        · rw [ba_n (by decide), ba_2, nN]
          unfold upd
          rw [if_neg hi]
        · rw [ba_n (by decide), ba_2, nN]
          simp [upd]
        · rw [ba_2, nN]
          unfold upd
          rw [if_neg hi]
          rfl
      · rw [ba_2, nN]
        simp [upd]
      · rw [ba_n (by decide), ba_2, nN]
        simp [upd]
    · have c1 : ¬ B.2 22 I ≤ 0 := by
        rcases p3 with p3 | ⟨c, n, r, q1, q2, q3, q4, -⟩
        · rw [p1, p3] at c0
          exact absurd rfl c0
        · rw [q4, nl_ge 0 0 rfl (by decide) (by omega)]
          omega
      rw [if_neg c0, if_neg (by simp), hs.r0_0, Option.bind_some, hs.l1, n7, gt, gt]
      refine ⟨1, _, rfl, ?_, Or.inr ⟨rfl, md_pa (md_pa (md_pa B 10 7 (B.2 10 7 + 1)) 22 (Int32.ofNat I) 0) 23 (Int32.ofNat I) 0, ?_, ((cb.rf.pa (by simp)).pa (by simp)).pa (by simp), ?_, 0, by omega, ?_, ?_, Or.inl ⟨rfl, rfl, ?_⟩⟩⟩
      · exact (ch.rf.pa (by simp)).pa (by simp)
      · rw [hpt, if_neg c1, h33]
      · have e : (gh_pa V (a0 + 17) (Int32.ofNat I) 0).2 (a0 + 1) (7 : Int32).toNatClampNeg = V.2 (a0 + 1) 7 := by rw [pa_n (by omega)]; rfl
        show RX 0 a0 T (gh_pa (gh_pa V (a0 + 17) (Int32.ofNat I) 0) (a0 + 1) 7 ((gh_pa V (a0 + 17) (Int32.ofNat I) 0).2 (a0 + 1) (7 : Int32).toNatClampNeg + 1)) _
        rw [e]
        refine lost.none hI ⟨fun _ _ _ => rfl, fun _ _ => rfl⟩ (cb.rf.pa (by simp)) (fun _ _ => rfl) ?_ (fun i hi => ?_) ?_ (fun i hi => ?_)
        · rw [pa_n (by omega), pa_2, nN]
          simp [upd]
        · rw [ba_n (by decide)]
        · rw [ba_n (by decide), ba_2, nN]
          simp [upd]
        · rw [ba_2, nN]
          unfold upd
          rw [if_neg hi]
      · rw [ba_2, nN]
        simp [upd]
      · rw [ba_n (by decide), ba_2, nN]
        simp [upd]
      · show (gh_pa (gh_pa V (a0 + 17) (Int32.ofNat I) 0) (a0 + 1) 7 _).2 (a0 + 17) I = 0
        rw [pa_n (by omega), pa_2, nN]
        simp [upd]
  · have eP : Int32.ofNat P - 1 = Int32.ofNat (P - 1) := nu_sub (n := P) (m := 1) (by omega)
    have hpt : f_X9_parted B = if B.2 21 I = Int32.ofNat M then (if B.2 22 I = Int32.ofNat (P - 1) then f_X9_parted_114 B else f_X9_parted_92 B) else f_X9_parted_92 B := by
      unfold f_X9_parted
      rw [b18, if_neg (mt (nl_eq 1 1 rfl (by decide) (by omega)).mp cP), b19, b17, nI, gt, nN, gt, eP]
    have h92 : f_X9_parted_92 B = some (md_pa (md_pa B 10 7 (B.2 10 7 + 1)) 22 (Int32.ofNat I) 0) := by
      unfold f_X9_parted_92
      rw [ba_1, b19, nI, gt]
      rfl
    rw [if_neg (mt (nl_eq 1 1 rfl (by decide) (by omega)).mp cP), hs.r6_0, Option.bind_some]
    have hlost : f_X9_parted B = f_X9_parted_92 B → ∃ o V1, ((f_X3_drop T V (a0 + 14) (Int32.ofNat I)).bind (fun q49 => (T.2.2.1 0 a0).bind (fun b54 => sv_g (sv_inb (7 : Int32) (T.2.2.2.1 b54)) (sv_g (sv_inb (7 : Int32) (T.2.2.2.1 b54)) (some ((0 : Int32), gh_pa q49.2 b54 7 ((q49.2.2 b54 (7 : Int32).toNatClampNeg) + 1))))))) = some (o, V1) ∧ ch [] [a0 + 1, a0 + 17] V V1 ∧ (o = 0 ∧ ∃ B1, f_X9_parted B = some B1 ∧ cb [] [10, 22, 23] B B1 ∧ RX 0 a0 T V1 B1) := by
      intro hp
      rw [drop_s hs hI, Option.bind_some, hs.r0_0, Option.bind_some, hs.l1, n7, gt, gt]
      by_cases c0 : V.2 (a0 + 17) I = 0
      · rw [if_pos c0]
        refine ⟨0, _, rfl, ch.rf.pa (by simp), rfl, _, hp.trans h92, (cb.rf.pa (by simp)).pa (by simp), ?_⟩
        have ht := h.tally (j := 7) (by decide) (by decide)
        refine RX.none (V := gh_pa V (a0 + 1) (Int32.ofNat 7) (V.2 (a0 + 1) 7 + 1)) (B := md_pa B 10 (Int32.ofNat 7) (B.2 10 7 + 1)) ht hI ⟨fun _ _ _ => rfl, fun _ _ => rfl⟩ (cb.rf.pa (by simp)) (fun _ _ => rfl) ?_ (fun i hi => ?_) ?_ (fun i hi => ?_)
        · show (gh_pa V (a0 + 1) 7 _).2 (a0 + 17) I = 0
          rw [pa_n (by omega)]
          exact c0
        · rw [ba_2, nN]
          unfold upd
          rw [if_neg hi]
          rfl
        · rw [ba_2, nN]
          simp [upd]
        · rw [ba_n (by decide)]
          rfl
      · rw [if_neg c0]
        refine ⟨0, _, rfl, (ch.rf.pa (by simp)).pa (by simp), rfl, _, hp.trans h92, (cb.rf.pa (by simp)).pa (by simp), ?_⟩
        have e : (gh_pa V (a0 + 17) (Int32.ofNat I) 0).2 (a0 + 1) (7 : Int32).toNatClampNeg = V.2 (a0 + 1) 7 := by rw [pa_n (by omega)]; rfl
        show RX 0 a0 T (gh_pa (gh_pa V (a0 + 17) (Int32.ofNat I) 0) (a0 + 1) 7 ((gh_pa V (a0 + 17) (Int32.ofNat I) 0).2 (a0 + 1) (7 : Int32).toNatClampNeg + 1)) _
        rw [e]
        exact lost
    have haw : f_X3_awaits T V (a0 + 14) (Int32.ofNat I) (Int32.ofNat M) (Int32.ofNat P) = some (if V.2 (a0 + 17) I ≤ 0 then 0 else if V.2 (a0 + 16) I = Int32.ofNat M then (if V.2 (a0 + 17) I = Int32.ofNat (P - 1) then 1 else 0) else 0, V) := by
      unfold f_X3_awaits
      rw [if_neg (nu_neg (by omega)), if_neg (mt (nl_le 11 11 rfl (by decide) (by omega)).mp (by omega)), hs.r2_14, Option.bind_some, hs.l17, nI, gt, nN]
      by_cases d1 : V.2 (a0 + 17) I ≤ 0
      · rw [if_pos d1, if_pos d1]
      · rw [if_neg d1, if_neg d1, hs.r1_14, Option.bind_some, hs.l16, nI, gt]
        by_cases d2 : V.2 (a0 + 16) I = Int32.ofNat M
        · rw [if_pos d2, if_pos d2, Option.bind_some, hs.l17, nI, gt, eP]
          by_cases d3 : V.2 (a0 + 17) I = Int32.ofNat (P - 1)
          · rw [if_pos d3, if_pos d3]
          · rw [if_neg d3, if_neg d3]
        · rw [if_neg d2, if_neg d2]
    rw [haw, Option.bind_some]
    have fail : ∀ x : Int32, x = 0 → f_X9_parted B = f_X9_parted_92 B → ∃ o V1, (if ((x, V) : Int32 × gh_V).1 = 0 then ((some (a0 + 14)).bind fun b45 => (f_X3_drop T ((x, V) : Int32 × gh_V).2 b45 (Int32.ofNat I)).bind (fun q49 => (T.2.2.1 0 a0).bind (fun b54 => sv_g (sv_inb (7 : Int32) (T.2.2.2.1 b54)) (sv_g (sv_inb (7 : Int32) (T.2.2.2.1 b54)) (some ((0 : Int32), gh_pa q49.2 b54 7 ((q49.2.2 b54 (7 : Int32).toNatClampNeg) + 1))))))) else some (1, ((x, V) : Int32 × gh_V).2)) = some (o, V1) ∧ ch [] [a0 + 1, a0 + 17] V V1 ∧ (o = 0 ∧ ∃ B1, f_X9_parted B = some B1 ∧ cb [] [10, 22, 23] B B1 ∧ RX 0 a0 T V1 B1) := by
      intro x hx hp
      rw [if_pos hx, Option.bind_some]
      exact hlost hp
    by_cases d1 : V.2 (a0 + 17) I ≤ 0
    · rw [if_pos d1]
      have hne : ¬ B.2 22 I = Int32.ofNat (P - 1) := by
        rw [← p1]
        intro hc
        rw [hc, nl_ge 0 0 rfl (by decide) (by omega)] at d1
        omega
      obtain ⟨o, V1, f1, f2, f3⟩ := fail 0 rfl (by rw [hpt, if_neg hne, ite_self])
      exact ⟨o, V1, f1, f2, Or.inl f3⟩
    · rw [if_neg d1]
      by_cases d2 : V.2 (a0 + 16) I = Int32.ofNat M
      · rw [if_pos d2]
        by_cases d3 : V.2 (a0 + 17) I = Int32.ofNat (P - 1)
        · rw [if_pos d3, if_neg (by simp)]
          refine ⟨1, V, rfl, ch.rf, Or.inr ⟨rfl, B, ?_, cb.rf, h, ?_⟩⟩
          · rw [hpt, if_pos (by rw [← p2]; exact d2), if_pos (by rw [← p1]; exact d3)]
          · rcases p3 with p3 | ⟨c, n, r, q1, q2, q3, q4, q5, q6, q7, q8⟩
            · rw [p1, p3] at d1
              exact absurd (by decide) d1
            · have hc : c = P - 1 := by
                rw [p1, q4, nu_eq (by omega) (by omega)] at d3
                exact d3
              subst hc
              exact ⟨n, q3, q7, q4, Or.inr ⟨q1, q2, d3, r, q5, q6, q8⟩⟩
        · rw [if_neg d3]
          obtain ⟨o, V1, f1, f2, f3⟩ := fail 0 rfl (by rw [hpt, if_neg (show ¬ B.2 22 I = Int32.ofNat (P - 1) by rw [← p1]; exact d3), ite_self])
          exact ⟨o, V1, f1, f2, Or.inl f3⟩
      · rw [if_neg d2]
        obtain ⟨o, V1, f1, f2, f3⟩ := fail 0 rfl (by rw [hpt, if_neg (by rw [← p2]; exact d2)])
        exact ⟨o, V1, f1, f2, Or.inl f3⟩
end OR
