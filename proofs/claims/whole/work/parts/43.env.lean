/-! ===== what the Statement gives of the start: strings, static arrays, classes, words ===== -/
theorem en_t {w : Cond} (h : w ∈ tables_1) : w ∈ lw_tbl := List.mem_append_right _ h
theorem en_m1 {w : Cond} (i : Nat) (h : tables_1_1[i]? = some w) : w ∈ lw_tbl := en_t (List.mem_append_left _ (List.mem_of_getElem? h))
theorem en_m2 {w : Cond} (i : Nat) (h : tables_1_2[i]? = some w) : w ∈ lw_tbl := en_t (List.mem_append_right _ (List.mem_append_left _ (List.mem_of_getElem? h)))
theorem en_m3 {w : Cond} (i : Nat) (h : tables_1_3[i]? = some w) : w ∈ lw_tbl := en_t (List.mem_append_right _ (List.mem_append_right _ (List.mem_append_left _ (List.mem_of_getElem? h))))
theorem en_m4 {w : Cond} (i : Nat) (h : tables_1_4[i]? = some w) : w ∈ lw_tbl := en_t (List.mem_append_right _ (List.mem_append_right _ (List.mem_append_right _ (List.mem_append_left _ (List.mem_of_getElem? h)))))
theorem en_m5 {w : Cond} (i : Nat) (h : tables_1_5[i]? = some w) : w ∈ lw_tbl := en_t (List.mem_append_right _ (List.mem_append_right _ (List.mem_append_right _ (List.mem_append_right _ (List.mem_append_left _ (List.mem_of_getElem? h))))))
theorem en_m6 {w : Cond} (i : Nat) (h : tables_1_6[i]? = some w) : w ∈ lw_tbl := en_t (List.mem_append_right _ (List.mem_append_right _ (List.mem_append_right _ (List.mem_append_right _ (List.mem_append_right _ (List.mem_of_getElem? h))))))
def en_sub : List Cond → List Cond → Bool
  | [], _ => true
  | _ :: _, [] => false
  | a :: as, b :: bs => if a = b then en_sub as bs else en_sub (a :: as) bs
theorem en_sub_mem : ∀ (bs as : List Cond), en_sub as bs = true → ∀ c ∈ as, c ∈ bs := by
  intro bs
  induction bs with
  | nil =>
    intro as h c hc
    cases as with
    | nil => cases hc
    | cons a as => simp [en_sub] at h
  | cons b bs ih =>
    intro as h c hc
    cases as with
    | nil => cases hc
    | cons a as =>
      unfold en_sub at h
      split at h
      · rename_i e
        subst e
        rcases List.mem_cons.mp hc with rfl | hc
        · exact List.mem_cons_self
        · exact List.mem_cons_of_mem _ (ih as h c hc)
      · exact List.mem_cons_of_mem _ (ih (a :: as) h c hc)
def en_tm (q : String × Nat × String × List Int32) : Term := .string q.1 q.2.1
def en_el (t : Term) (bs : List Int32) : List Cond := (List.range bs.length).map (fun j => Cond.eq (.elem t (.int (Int32.ofNat j))) (.int (bs.getD j 0)))
def en_sc (q : String × Nat × String × List Int32) : List Cond := [Cond.exactly (en_tm q) "java/lang/String", Cond.eq (.field (en_tm q) "java/lang/String" "coder" "B") (.int 0), Cond.arrayOf (.field (en_tm q) "java/lang/String" "value" "[B") .byte, Cond.eq (.length (.field (en_tm q) "java/lang/String" "value" "[B")) (.int (Int32.ofNat q.2.2.2.length))] ++ en_el (.field (en_tm q) "java/lang/String" "value" "[B") q.2.2.2
def en_st (q : String × String × List Int32) : List Cond := [Cond.arrayOf (.static q.1 q.2.1 "[I") .int, Cond.eq (.length (.static q.1 q.2.1 "[I")) (.int (Int32.ofNat q.2.2.length))] ++ en_el (.static q.1 q.2.1 "[I") q.2.2
set_option maxRecDepth 100000 in
theorem en_strs : sv_strs.all (fun q => en_sub (en_sc q) (flatC narrow_1) && decide (q.2.2.2.length < 2 ^ 31)) = true := by decide +kernel
set_option maxRecDepth 100000 in
theorem en_stas : sv_sta.all (fun q => en_sub (en_st q) (flatC narrow_1) && decide (q.2.2.length < 2 ^ 31)) = true := by decide +kernel
theorem en_ref : ∀ q ∈ sv_strs, Cond.stringRef q.1 q.2.1 q.2.2.1 ∈ lw_tbl := by
  unfold sv_strs
  simp only [List.forall_mem_cons]
  exact ⟨en_m4 1 rfl, en_m4 34 rfl, en_m4 35 rfl, en_m4 43 rfl, en_m4 61 rfl, en_m4 68 rfl, en_m4 80 rfl, en_m4 100 rfl, en_m4 101 rfl, en_m3 28 rfl, en_m4 85 rfl, en_m4 92 rfl, en_m2 30 rfl, en_m2 75 rfl, en_m2 76 rfl, en_m2 77 rfl, en_m2 78 rfl, en_m2 168 rfl, en_m3 13 rfl, en_m5 31 rfl, en_m5 37 rfl, en_m5 38 rfl, en_m5 39 rfl, en_m5 40 rfl, en_m5 80 rfl, en_m5 95 rfl, en_m5 107 rfl, en_m5 116 rfl, en_m5 128 rfl, en_m5 133 rfl, en_m5 134 rfl, en_m5 135 rfl, en_m5 140 rfl, en_m6 11 rfl, en_m6 20 rfl, fun _ h => absurd h List.not_mem_nil⟩
theorem en_lay : ∀ q ∈ sv_sta, Cond.laysStatic q.1 q.2.1 "[I" ∈ lw_tbl ∧ Cond.initialized q.1 ∈ lw_tbl := by
  unfold sv_sta
  simp only [List.forall_mem_cons]
  exact ⟨⟨en_m2 158 rfl, en_m1 5 rfl⟩, ⟨en_m3 15 rfl, en_m1 5 rfl⟩, ⟨en_m3 21 rfl, en_m1 5 rfl⟩, ⟨en_m3 121 rfl, en_m1 17 rfl⟩, ⟨en_m3 123 rfl, en_m1 17 rfl⟩, ⟨en_m3 125 rfl, en_m1 17 rfl⟩, ⟨en_m3 127 rfl, en_m1 17 rfl⟩, fun _ h => absurd h List.not_mem_nil⟩
theorem en_nst : ∀ q ∈ sv_nst, Cond.methodLinkNest q.1 q.2.1 q.2.2 "SeaReceiver" ∈ lw_tbl := by
  unfold sv_nst
  simp only [List.forall_mem_cons]
  exact ⟨en_m1 49 rfl, en_m1 78 rfl, en_m1 119 rfl, en_m1 154 rfl, en_m3 90 rfl, fun _ h => absurd h List.not_mem_nil⟩
set_option maxRecDepth 100000 in
theorem en_xw : ∀ w ∈ sv_xw, w ∈ lw_tbl := by decide +kernel
theorem en_cs : Cond.laysStatic "java/lang/String" "COMPACT_STRINGS" "Z" ∈ lw_tbl := en_m2 44 rfl
theorem en_cs2 : Cond.initialized "java/lang/String" ∈ lw_tbl := en_m1 11 rfl
theorem en_fm : Cond.laysStatic "jdk/internal/util/Preconditions" "SIOOBE_FORMATTER" "Ljava/util/function/BiFunction;" ∈ lw_tbl := en_m2 52 rfl
theorem en_fm2 : Cond.initialized "jdk/internal/util/Preconditions" ∈ lw_tbl := en_m1 13 rfl
theorem en_us : Cond.laysStatic "java/lang/Throwable" "UNASSIGNED_STACK" "[Ljava/lang/StackTraceElement;" ∈ lw_tbl := en_m3 228 rfl
theorem en_ss : Cond.laysStatic "java/lang/Throwable" "SUPPRESSED_SENTINEL" "Ljava/util/List;" ∈ lw_tbl := en_m3 230 rfl
theorem en_th : Cond.initialized "java/lang/Throwable" ∈ lw_tbl := en_m1 18 rfl
theorem en_ab : Cond.arrayOver (.object "SeaReceiver$BitRow") ∈ lw_tbl := en_m1 124 rfl
theorem en_av : Cond.arrayOver (.object "SeaReceiver$Vessel") ∈ lw_tbl := en_m1 159 rfl
section ENV
variable {args : Array Value} {s : State} {A : Nat → Prop}
theorem en_str (hf : ∀ c ∈ flatC narrow_1, c.before args s = true) (hA : ∀ a : Nat, a < s.heap.size → ¬ A a) : ∀ q ∈ sv_strs, ∃ kv : Nat × Nat, (en_tm q).eval args s none [] s = some (.ref kv.1) ∧ sv_St kv.1 kv.2 q.2.2.2 A s s.heap := by
  intro q hq
  have h := List.all_eq_true.mp en_strs q hq
  simp only [Bool.and_eq_true, decide_eq_true_eq] at h
  have hc : ∀ c ∈ en_sc q, c.before args s = true := fun c hc => hf c (en_sub_mem _ _ h.1 c hc)
  obtain ⟨a, c, cA, kA, q1, q2, q3, q4, q5, q6, -⟩ := Cond.exactly_spec (args := args) (first := s) (o := none) (s := s) (idx := []) (t := en_tm q) (cls := "java/lang/String") (hc _ (List.mem_append_left _ List.mem_cons_self))
  obtain ⟨t, ht, hT⟩ := va_Tof (f := fun j => .int (q.2.2.2.getD j 0)) (A := A) h.2 (hc _ (List.mem_append_left _ (List.mem_cons_of_mem _ (List.mem_cons_of_mem _ List.mem_cons_self)))) (va_eqt (hc _ (List.mem_append_left _ (List.mem_cons_of_mem _ (List.mem_cons_of_mem _ (List.mem_cons_of_mem _ List.mem_cons_self)))))) (fun j hj => va_eqt (hc _ (List.mem_append_right _ (List.mem_map.mpr ⟨j, List.mem_range.mpr hj, rfl⟩)))) hA
  exact ⟨(a, t), q1, ⟨cA, q3, q5, by rw [q6]; exact q2, hA a (Array.getElem?_eq_some_iff.mp q3).1⟩, vk_OFof q1 (va_eqt (hc _ (List.mem_append_left _ (List.mem_cons_of_mem _ List.mem_cons_self)))) hA, vk_OFof q1 ht hA, hT⟩
theorem en_sta (hf : ∀ c ∈ flatC narrow_1, c.before args s = true) (hA : ∀ a : Nat, a < s.heap.size → ¬ A a) : ∀ q ∈ sv_sta, ∃ t : Nat, (Term.static q.1 q.2.1 "[I").eval args s none [] s = some (.ref t) ∧ va_T .int t q.2.2.length (fun j => .int (q.2.2.getD j 0)) A s s.heap := by
  intro q hq
  have h := List.all_eq_true.mp en_stas q hq
  simp only [Bool.and_eq_true, decide_eq_true_eq] at h
  have hc : ∀ c ∈ en_st q, c.before args s = true := fun c hc => hf c (en_sub_mem _ _ h.1 c hc)
  exact va_Tof (f := fun j => .int (q.2.2.getD j 0)) (A := A) h.2 (hc _ (List.mem_append_left _ List.mem_cons_self)) (va_eqt (hc _ (List.mem_append_left _ (List.mem_cons_of_mem _ List.mem_cons_self)))) (fun j hj => va_eqt (hc _ (List.mem_append_right _ (List.mem_map.mpr ⟨j, List.mem_range.mpr hj, rfl⟩)))) hA
theorem en_ac {ty : FieldType} (h : (Cond.arrayClass ty).before args s = true) : ∃ c : ClassId, ArrOfT s c ty ∧ s.vm.findClass ("[" ++ ty.toString) = some c := by
  obtain ⟨c, k, comp, h1, h2, h3⟩ := Cond.arrayClass_spec h
  exact ⟨c, fun n z => ⟨fun k h => (by cases h), k, h2, comp, h3⟩, h1⟩
theorem en_ao {n : String} (h : (Cond.arrayOver (.object n)).before args s = true) : ∃ c : ClassId, ArrOfT s c (.object n) ∧ va_RA s c (.object n) := by
  obtain ⟨comp, c, k, h1, -, h2, h3, h4⟩ := Cond.arrayOver_spec h
  exact ⟨c, fun n z => ⟨fun k h => (by cases h), k, h2, comp, h3⟩, k, comp, h2, h3, h1, h4⟩
theorem en_cl (hts : ∀ w ∈ sv_w, w.before args s = true) : ∃ d : Nat → ClassId × (Nat → Nat), ∀ (k : Nat) (q : vw_C), vwCl[k]? = some q → u_Kn s q.1 q.2.1 q.2.2 (d k).1 (d k).2 := by
  obtain ⟨c0, i0, k0⟩ := u_known (C := RX0) (T := TX0) (N := 3) (n := 3) hts sv_in0 (hts _ kw_231)
  obtain ⟨c1, i1, k1⟩ := u_known (C := RX1) (T := TX1) (N := 4) (n := 4) hts sv_in1 (hts _ kw_367)
  obtain ⟨c2, i2, k2⟩ := u_known (C := RX2) (T := TX2) (N := 2) (n := 2) hts sv_in2 (hts _ kw_379)
  obtain ⟨c3, i3, k3⟩ := u_known (C := RX3) (T := TX3) (N := 3) (n := 3) hts sv_in3 (hts _ kw_373)
  obtain ⟨c4, i4, k4⟩ := u_known (C := RX4) (T := TX4) (N := 2) (n := 2) hts sv_in4 (hts _ kw_370)
  obtain ⟨c5, i5, k5⟩ := u_known (C := RX5) (T := TX5) (N := 6) (n := 6) hts sv_in5 (hts _ kw_364)
  obtain ⟨c6, i6, k6⟩ := u_known (C := RX6) (T := TX6) (N := 2) (n := 2) hts sv_in6 (hts _ kw_360)
  obtain ⟨c7, i7, k7⟩ := u_known (C := RX7) (T := TX7) (N := 3) (n := 3) hts sv_in7 (hts _ kw_212)
  obtain ⟨c8, i8, k8⟩ := u_known (C := RX8) (T := TX8) (N := 10) (n := 10) hts sv_in8 (hts _ kw_839)
  obtain ⟨c9, i9, k9⟩ := u_known (C := RX9) (T := TX9) (N := 38) (n := 38) hts sv_in9 (hts _ kw_841)
  refine ⟨fun k => match k with
    | 0 => (c0, i0) | 1 => (c1, i1) | 2 => (c2, i2) | 3 => (c3, i3) | 4 => (c4, i4) | 5 => (c5, i5) | 6 => (c6, i6) | 7 => (c7, i7) | 8 => (c8, i8) | _ => (c9, i9), ?_⟩
  intro k q hq
  match k, hq with
  | 0, hq => cases hq; exact k0
  | 1, hq => cases hq; exact k1
  | 2, hq => cases hq; exact k2
  | 3, hq => cases hq; exact k3
  | 4, hq => cases hq; exact k4
  | 5, hq => cases hq; exact k5
  | 6, hq => cases hq; exact k6
  | 7, hq => cases hq; exact k7
  | 8, hq => cases hq; exact k8
  | 9, hq => cases hq; exact k9
  | k + 10, hq => simp [vwCl] at hq
theorem en_pick {α β : Type} {P : α → β → Prop} (ls : List α) (b0 : β) (h : ∀ q ∈ ls, ∃ t, P q t) : ∃ f : Nat → β, ∀ i q, ls[i]? = some q → P q (f i) := by
  have h0 : ∀ i : Nat, ∃ t : β, ∀ q, ls[i]? = some q → P q t := by
    intro i
    cases hi : ls[i]? with
    | none => exact ⟨b0, fun q hq => by cases hq⟩
    | some q0 =>
      obtain ⟨t, ht⟩ := h q0 (List.mem_of_getElem? hi)
      exact ⟨t, fun q hq => by cases hq; exact ht⟩
  exact Classical.axiomOfChoice h0
theorem en_E (hts0 : ∀ w ∈ lw_tbl, w.before args s = true) (hf : ∀ c ∈ flatC narrow_1, c.before args s = true) (hA : ∀ a : Nat, a < s.heap.size → ¬ A a) : ∃ E : sv_E, va_K E.1 vwCl (sv_tys E) s ∧ sv_En E A s s.heap := by
  have hts : ∀ w ∈ sv_w, w.before args s = true := fun w hw => hts0 w (List.mem_filter.mp hw).1
  obtain ⟨d, hd⟩ := en_cl hts
  obtain ⟨cB, aB, nB⟩ := en_ac (hts _ kw_13)
  obtain ⟨cI, aI, nI⟩ := en_ac (hts _ kw_4)
  obtain ⟨cZ, aZ, nZ⟩ := en_ac (hts _ kw_574)
  obtain ⟨cJ, aJ, nJ⟩ := en_ac (hts _ kw_842)
  obtain ⟨cR, aR, nR⟩ := en_ao (hts0 _ en_ab)
  obtain ⟨cV, aV, nV⟩ := en_ao (hts0 _ en_av)
  obtain ⟨f, hst⟩ := en_pick sv_strs ((0, 0) : Nat × Nat) (en_str hf hA)
  obtain ⟨t, hsa⟩ := en_pick sv_sta (0 : Nat) (en_sta hf hA)
  refine ⟨((fun k => (d k).1, fun k => (d k).2), (fun k => match k with | 0 => cB | 1 => cI | 2 => cZ | 3 => cJ | 4 => cR | _ => cV), (fun i => (f i).1), (fun i => (f i).2), t), ⟨hd, ?_⟩, ?_⟩
  · intro k q hq
    match k, hq with
    | 0, hq => cases hq; exact ⟨aB, nB⟩
    | 1, hq => cases hq; exact ⟨aI, nI⟩
    | 2, hq => cases hq; exact ⟨aZ, nZ⟩
    | 3, hq => cases hq; exact ⟨aJ, nJ⟩
    | 4, hq => cases hq; exact ⟨aR, nR⟩
    | 5, hq => cases hq; exact ⟨aV, nV⟩
    | k + 6, hq => simp [sv_tys] at hq
  · refine ⟨fun i q hi => ?_, fun i q hi => ?_, ?_, ?_, ?_, ?_, ?_⟩
    · obtain ⟨h1, h2⟩ := hst i q hi
      exact ⟨vk_R.of (hts0 _ (en_ref q (List.mem_of_getElem? hi))) h1, h2⟩
    · obtain ⟨h1, h2⟩ := hsa i q hi
      obtain ⟨l1, l2⟩ := en_lay q (List.mem_of_getElem? hi)
      exact ⟨va_Zref (hts0 _ l1) (hts0 _ l2) h1 hA, h2⟩
    · exact va_Zof (hts0 _ en_cs) (hts0 _ en_cs2) (va_eqt (hf (Cond.eq (.static "java/lang/String" "COMPACT_STRINGS" "Z") (.int 1)) (by decide +kernel))) hA
    · exact va_Zqof (hts0 _ en_fm) (hts0 _ en_fm2) (hf _ (by decide +kernel)) hA
    · exact fun q hq => va_Nw.of rfl (hts0 _ (en_nst q hq))
    · exact va_AO.of (hts0 _ en_ab)
    · exact va_AO.of (hts0 _ en_av)
theorem en_T (hts0 : ∀ w ∈ lw_tbl, w.before args s = true) (hf : ∀ c ∈ flatC narrow_1, c.before args s = true) (hA : ∀ a : Nat, a < s.heap.size → ¬ A a) : sv_Th A s s.heap ∧ (∀ w ∈ sv_xw, va_Nw w s) ∧ va_Nc sv_iae sv_nse s := by
  refine ⟨⟨vx_Zqof (hts0 _ en_us) (hts0 _ en_th) (hf _ (by decide +kernel)) hA, vx_Zqof (hts0 _ en_ss) (hts0 _ en_th) (hf _ (by decide +kernel)) hA⟩, fun w hw => ?_, va_Nc.of (hf (Cond.not (.castable sv_iae sv_nse)) (by decide +kernel))⟩
  have h1 := sv_xw_w hw
  refine va_Nw.of ?_ (hts0 _ (en_xw w hw))
  cases w <;> first | rfl | (simp [sv_xb] at h1; done)
end ENV
