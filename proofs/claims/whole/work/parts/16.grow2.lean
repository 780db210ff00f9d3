/-! ===== growth, in pure words ===== -/
def gh_fr (T : gh_T) (z : Nat) : Prop := ∀ a ∈ T.1, a < z
/-- T', z' come out of T, z by growth: kinds and lengths stay, references are of their kinds, what is new is small -/
def gh_X (T : gh_T) (z : Nat) (T' : gh_T) (z' : Nat) : Prop := z ≤ z' ∧ gh_ok T' ∧ gh_fr T' z' ∧ (∀ a c, gh_is T a c → gh_is T' a c) ∧ (∀ a, a ∈ T.1 → T'.2.2.2.1 a = T.2.2.2.1 a) ∧ (∀ a, z ≤ a → a < z' → a ∈ T'.1 ∧ (T'.2.1 a < 9 ∨ T'.2.2.2.1 a ≤ 2000))
theorem gh_X.le {T T' : gh_T} {z z' : Nat} (h : gh_X T z T' z') : z ≤ z' := h.1
theorem gh_X.ok {T T' : gh_T} {z z' : Nat} (h : gh_X T z T' z') : gh_ok T' := h.2.1
theorem gh_X.fr {T T' : gh_T} {z z' : Nat} (h : gh_X T z T' z') : gh_fr T' z' := h.2.2.1
theorem gh_X.is {T T' : gh_T} {z z' a c : Nat} (h : gh_X T z T' z') (o : gh_is T a c) : gh_is T' a c := h.2.2.2.1 a c o
theorem gh_X.rf {T : gh_T} {z : Nat} (hT : gh_ok T) (hz : gh_fr T z) : gh_X T z T z := ⟨Nat.le_refl _, hT, hz, fun _ _ h => h, fun _ _ => rfl, fun a h1 h2 => absurd h1 (Nat.not_le.mpr h2)⟩
theorem gh_X.trans {T T1 T2 : gh_T} {z z1 z2 : Nat} (h1 : gh_X T z T1 z1) (h2 : gh_X T1 z1 T2 z2) : gh_X T z T2 z2 := by
  refine ⟨Nat.le_trans h1.1 h2.1, h2.ok, h2.fr, fun a c o => h2.is (h1.is o), fun a ha => ?_, fun a ha hb => ?_⟩
  · have h3 := (h1.is (show gh_is T a (T.2.1 a) from ⟨ha, rfl⟩)).1
    rw [h2.2.2.2.2.1 a h3, h1.2.2.2.2.1 a ha]
  · by_cases hc : a < z1
    · obtain ⟨g1, g2⟩ := h1.2.2.2.2.2 a ha hc
      have g3 := h2.is (show gh_is T1 a (T1.2.1 a) from ⟨g1, rfl⟩)
      refine ⟨g3.1, ?_⟩
      rw [g3.2, h2.2.2.2.2.1 a g1]
      exact g2
    · exact h2.2.2.2.2.2 a (Nat.le_of_not_lt hc) hb
theorem gh_X.new {T : gh_T} {z c : Nat} (hT : gh_ok T) (hz : gh_fr T z) (hc : c < 9) : gh_X T z (gh_new T z c) (z + 1) := by
  have old : ∀ a d, gh_is T a d → gh_is (gh_new T z c) a d := fun a d o => ⟨List.mem_append_left _ o.1, by
    have := hz a o.1
    show (if a = z then c else T.2.1 a) = d
    rw [if_neg (by omega)]; exact o.2⟩
  have inv : ∀ a d, gh_is (gh_new T z c) a d → (a = z ∧ d = c) ∨ (a ≠ z ∧ gh_is T a d) := by
    intro a d o
    obtain ⟨o1, o2⟩ := o
    by_cases ha : a = z
    · subst ha
      exact Or.inl ⟨rfl, by rw [← o2]; simp [gh_new]⟩
    · refine Or.inr ⟨ha, ?_, ?_⟩
      · rcases List.mem_append.mp o1 with h | h
        · exact h
        · exact absurd (List.mem_singleton.mp h) ha
      · rw [← o2]; simp [gh_new, ha]
  refine ⟨Nat.le_succ _, ⟨fun a d k e b o hk hb => ?_, fun a i b o hb => ?_, fun a i b o hb => ?_⟩, fun a ha => ?_, old, fun a _ => rfl, fun a h1 h2 => ?_⟩
  · rcases inv a d o with ⟨rfl, -⟩ | ⟨hne, o'⟩
    · simp [gh_new] at hb
    · have hb' : T.2.2.1 k a = some b := by simpa [gh_new, hne] using hb
      exact old _ _ (hT.1 a d k e b o' hk hb')
  · rcases inv a 12 o with ⟨-, h⟩ | ⟨hne, o'⟩
    · omega
    · exact old _ _ (hT.2.1 a i b o' hb)
  · rcases inv a 13 o with ⟨-, h⟩ | ⟨hne, o'⟩
    · omega
    · exact old _ _ (hT.2.2 a i b o' hb)
  · rcases List.mem_append.mp ha with h | h
    · have := hz a h; omega
    · have := List.mem_singleton.mp h; omega
  · have : a = z := by omega
    subst this
    exact ⟨List.mem_append_right _ (List.mem_singleton.mpr rfl), Or.inl (by simpa [gh_new] using hc)⟩
theorem gh_X.newa {T : gh_T} {z c n : Nat} (hT : gh_ok T) (hz : gh_fr T z) (hc : 9 ≤ c) (hn : n ≤ 2000) : gh_X T z (gh_newa T z c n) (z + 1) := by
  have old : ∀ a d, gh_is T a d → gh_is (gh_newa T z c n) a d := fun a d o => ⟨List.mem_append_left _ o.1, by
    have := hz a o.1
    show (if a = z then c else T.2.1 a) = d
    rw [if_neg (by omega)]; exact o.2⟩
  have inv : ∀ a d, gh_is (gh_newa T z c n) a d → (a = z ∧ d = c) ∨ (a ≠ z ∧ gh_is T a d) := by
    intro a d o
    obtain ⟨o1, o2⟩ := o
    by_cases ha : a = z
    · subst ha
      exact Or.inl ⟨rfl, by rw [← o2]; simp [gh_newa]⟩
    · refine Or.inr ⟨ha, ?_, ?_⟩
      · rcases List.mem_append.mp o1 with h | h
        · exact h
        · exact absurd (List.mem_singleton.mp h) ha
      · rw [← o2]; simp [gh_newa, ha]
  have big : ∀ k, gh_rk c k = none := fun k => by
    unfold gh_rk
    split <;> first | omega | rfl
  refine ⟨Nat.le_succ _, ⟨fun a d k e b o hk hb => ?_, fun a i b o hb => ?_, fun a i b o hb => ?_⟩, fun a ha => ?_, old, fun a ha => ?_, fun a h1 h2 => ?_⟩
  · rcases inv a d o with ⟨rfl, rfl⟩ | ⟨hne, o'⟩
    · rw [big k] at hk; cases hk
    · exact old _ _ (hT.1 a d k e b o' hk hb)
  · rcases inv a 12 o with ⟨rfl, h⟩ | ⟨hne, o'⟩
    · simp [gh_newa] at hb
    · exact old _ _ (hT.2.1 a i b o' (by simpa [gh_newa, hne] using hb))
  · rcases inv a 13 o with ⟨rfl, h⟩ | ⟨hne, o'⟩
    · simp [gh_newa] at hb
    · exact old _ _ (hT.2.2 a i b o' (by simpa [gh_newa, hne] using hb))
  · rcases List.mem_append.mp ha with h | h
    · have := hz a h; omega
    · have := List.mem_singleton.mp h; omega
  · have := hz a ha
    have hne : a ≠ z := by omega
    simp [gh_newa, hne]
  · have : a = z := by omega
    subst this
    exact ⟨List.mem_append_right _ (List.mem_singleton.mpr rfl), Or.inr (by simpa [gh_newa] using hn)⟩
theorem gh_X.pr {T : gh_T} {z k a b c d : Nat} (hT : gh_ok T) (hz : gh_fr T z) (o : gh_is T a c) (hk : gh_rk c k = some d) (ob : gh_is T b d) : gh_X T z (gh_pr T k a (some b)) z := by
  refine ⟨Nat.le_refl _, ⟨fun a' c' k' d' b' o' hk' hb' => ?_, hT.2.1, hT.2.2⟩, hz, fun _ _ h => h, fun _ _ => rfl, fun a h1 h2 => absurd h1 (Nat.not_le.mpr h2)⟩
  by_cases he : k' = k ∧ a' = a
  · obtain ⟨rfl, rfl⟩ := he
    have hcc : c' = c := (show T.2.1 a' = c' from o'.2).symm.trans o.2
    subst hcc
    have hb2 : some b = some b' := by simpa [gh_pr] using hb'
    cases hb2
    rw [hk] at hk'
    cases hk'
    exact ob
  · exact hT.1 a' c' k' d' b' o' hk' (by simpa [gh_pr, he] using hb')
theorem gh_X.pq {T : gh_T} {z a b c d : Nat} {i : Int32} (hT : gh_ok T) (hz : gh_fr T z) (o : gh_is T a c) (hd : c = 12 ∧ d = 0 ∨ c = 13 ∧ d = 7) (ob : gh_is T b d) : gh_X T z (gh_pq T a i (some b)) z := by
  refine ⟨Nat.le_refl _, ⟨hT.1, fun a' i' b' o' hb' => ?_, fun a' i' b' o' hb' => ?_⟩, hz, fun _ _ h => h, fun _ _ => rfl, fun a h1 h2 => absurd h1 (Nat.not_le.mpr h2)⟩
  · by_cases he : a' = a ∧ i' = i.toNatClampNeg
    · obtain ⟨rfl, rfl⟩ := he
      have hcc : (12 : Nat) = c := (show T.2.1 a' = 12 from o'.2).symm.trans o.2
      have hb2 : some b = some b' := by simpa [gh_pq] using hb'
      cases hb2
      rcases hd with ⟨h1, rfl⟩ | ⟨h1, -⟩
      · exact ob
      · omega
    · exact hT.2.1 a' i' b' o' (by simpa [gh_pq, he] using hb')
  · by_cases he : a' = a ∧ i' = i.toNatClampNeg
    · obtain ⟨rfl, rfl⟩ := he
      have hcc : (13 : Nat) = c := (show T.2.1 a' = 13 from o'.2).symm.trans o.2
      have hb2 : some b = some b' := by simpa [gh_pq] using hb'
      cases hb2
      rcases hd with ⟨h1, -⟩ | ⟨h1, rfl⟩
      · omega
      · exact ob
    · exact hT.2.2 a' i' b' o' (by simpa [gh_pq, he] using hb')
theorem gh_is.mk {T : gh_T} {z c : Nat} : gh_is (gh_new T z c) z c := ⟨List.mem_append_right _ (List.mem_singleton.mpr rfl), by simp [gh_new]⟩
theorem gh_is.mka {T : gh_T} {z c n : Nat} : gh_is (gh_newa T z c n) z c := ⟨List.mem_append_right _ (List.mem_singleton.mpr rfl), by simp [gh_newa]⟩
theorem gh_push {E : sv_E} {T T' : gh_T} {V V' : gh_V} {z : Nat} {e : va_E} (hz : gh_fr T z) (hL : T'.1 = T.1 ++ [z]) (h1 : gh_cell E T' V' z = e) (h2 : ∀ b, b ≠ z → gh_cell E T' V' b = gh_cell E T V b) : gh_w E T V ++ [(z, e)] = gh_w E T' V' := by
  simp only [gh_w, va_pl, hL, List.map_append, List.map_cons, List.map_nil, h1]
  congr 1
  apply List.map_congr_left
  intro a ha
  rw [h2 a (Nat.ne_of_lt (hz a ha))]
section GRX
variable {E : sv_E} {X : sv_X} {cc : ByteArray} {own : String} {sx : List (Nat × Nat × List Int32)} {T : gh_T} {V : gh_V} {sz ce sl pc : Nat} {lv lv' : List (Nat × Value)} {st : List Value}
theorem gh_mk {index c N : Nat} {Cn : String} (C : sv_C E X cc own sx) (hz : gh_fr T sz) (hL : sv_CL own index c Cn N (gh_fs c (fun _ => 0) (fun _ => none))) (hc : c < 9) (hcs : ce + 1 ≤ (sv_R X).cells ∧ sl + N ≤ (sv_R X).slots) (hd : decode cc pc = .ok (.new index, 3)) (kk : sv_J E X (gh_w E (gh_new T sz c) (gh_nv V sz)) (sz + 1) (ce + 1) (sl + N) (pc + 3) lv (.ref sz :: st)) : sv_J E X (gh_w E T V) sz ce sl pc lv st := by
  refine sv_new C hL hcs hd ?_
  rw [gh_push (T' := gh_new T sz c) (V' := gh_nv V sz) hz rfl]
  · exact kk
  · simp [gh_cell, gh_new, gh_nv, hc]
  · intro b hb
    simp [gh_cell, gh_new, gh_nv, hb]
theorem gh_mkb {n : Int32} (C : sv_C E X cc own sx) (hz : gh_fr T sz) (hw : Cond.arrayClass .byte ∈ sv_w) (hn : (decide (¬ n < 0) && decide (n.toNatClampNeg * componentBytes .byte ≤ 536870912)) = true) (hcs : ce + 1 ≤ (sv_R X).cells ∧ sl + n.toNatClampNeg ≤ (sv_R X).slots) (hd : decode cc pc = .ok (.newarray .byte, 2)) (kk : sv_J E X (gh_w E (gh_newa T sz 9 n.toNatClampNeg) (gh_nva V sz)) (sz + 1) (ce + 1) (sl + n.toNatClampNeg) (pc + 2) lv (.ref sz :: st)) : sv_J E X (gh_w E T V) sz ce sl pc lv (.int n :: st) := by
  refine sv_newa 0 (atype := .byte) (ty := .byte) rfl rfl rfl (fun U cA h => h) C hw hn hcs hd ?_
  rw [gh_push (T' := gh_newa T sz 9 n.toNatClampNeg) (V' := gh_nva V sz) hz rfl]
  · exact kk
  · simp [gh_cell, gh_newa, gh_nva]
  · intro b hb
    simp [gh_cell, gh_newa, gh_nva, hb]
theorem gh_mki {n : Int32} (C : sv_C E X cc own sx) (hz : gh_fr T sz) (hw : Cond.arrayClass .int ∈ sv_w) (hn : (decide (¬ n < 0) && decide (n.toNatClampNeg * componentBytes .int ≤ 536870912)) = true) (hcs : ce + 1 ≤ (sv_R X).cells ∧ sl + n.toNatClampNeg ≤ (sv_R X).slots) (hd : decode cc pc = .ok (.newarray .int, 2)) (kk : sv_J E X (gh_w E (gh_newa T sz 10 n.toNatClampNeg) (gh_nva V sz)) (sz + 1) (ce + 1) (sl + n.toNatClampNeg) (pc + 2) lv (.ref sz :: st)) : sv_J E X (gh_w E T V) sz ce sl pc lv (.int n :: st) := by
  refine sv_newa 1 (atype := .int) (ty := .int) rfl rfl rfl (fun U cA h => h) C hw hn hcs hd ?_
  rw [gh_push (T' := gh_newa T sz 10 n.toNatClampNeg) (V' := gh_nva V sz) hz rfl]
  · exact kk
  · simp [gh_cell, gh_newa, gh_nva]
  · intro b hb
    simp [gh_cell, gh_newa, gh_nva, hb]
theorem gh_mkq {index c : Nat} {Cn : String} {n : Int32} (t0 : Nat) (hc : c = 12 ∧ Cn = "SeaReceiver$BitRow" ∨ c = 13 ∧ Cn = "SeaReceiver$Vessel") (C : sv_C E X cc own sx) (hz : gh_fr T sz) (hw : Cond.classLink own index Cn ∈ sv_w) (hn : (decide (¬ n < 0) && decide (n.toNatClampNeg * 4 ≤ 536870912)) = true) (hcs : ce + 1 ≤ (sv_R X).cells ∧ sl + n.toNatClampNeg ≤ (sv_R X).slots) (hd : decode cc pc = .ok (.anewarray index, 3)) (kk : sv_J E X (gh_w E (gh_newa T sz c n.toNatClampNeg) (gh_nva V sz)) (sz + 1) (ce + 1) (sl + n.toNatClampNeg) (pc + 3) lv (.ref sz :: st)) : sv_J E X (gh_w E T V) sz ce sl pc lv (.int n :: st) := by
  have ht : (sv_tys E)[c - 8]? = some (E.2.1 (c - 8), .object Cn) := by
    rcases hc with ⟨rfl, rfl⟩ | ⟨rfl, rfl⟩ <;> rfl
  have hAO : ∀ A U H, sv_En E A U H → va_AO Cn U := by
    rcases hc with ⟨rfl, rfl⟩ | ⟨rfl, rfl⟩
    · exact fun A U H h => h.2.2.2.2.2.1
    · exact fun A U H h => h.2.2.2.2.2.2
  have hc12 : 12 ≤ c := by omega
  refine sv_newq (c - 8) ht C hAO hw hn hcs hd ?_
  rw [gh_push (T' := gh_newa T sz c n.toNatClampNeg) (V' := gh_nva V sz) hz rfl]
  · exact kk
  · have h1 : ¬ c < 9 := by omega
    have h2 : ¬ c < 12 := by omega
    simp [gh_cell, gh_newa, gh_nva, h1, h2]
  · intro b hb
    simp [gh_cell, gh_newa, gh_nva, hb]
/-- a final reference, in a constructor -/
theorem gh_putr {index c k a b d : Nat} {ty : FieldType} (C : sv_C E X cc own sx) (hF : sv_FL own index c k true ty) (ho : (vwCl[c]?).map (fun q => q.1) = some own) (hnm : sv_nm X = "<init>") (o : gh_is T a c) (hc : c < 9) (hk : (decide (gh_rk c k = some d) && decide (k < gh_n c)) = true) (hn : narrow ty (.ref b) = .ref b) (hfit : fits ty (.ref b) = true) (hd : decode cc pc = .ok (.putfield index, 3)) (kk : sv_J E X (gh_w E (gh_pr T k a (some b)) V) sz ce sl (pc + 3) lv st) : sv_J E X (gh_w E T V) sz ce sl pc lv (.ref b :: .ref a :: st) := by
  simp only [Bool.and_eq_true, decide_eq_true_eq] at hk
  obtain ⟨q, hq⟩ := gh_obj (E := E) (V := V) o hc
  refine sv_withD (fun ⟨A, hD⟩ => ?_)
  refine sv_putF C hF ho hnm q hq hn hfit (by rw [gh_fs_l]; exact hk.2) hd ?_
  rw [gh_setw (T' := gh_pr T k a (some b)) (V' := V) hD rfl hq (e := .inr (c, (gh_fs c (fun k => V.1 k a) (fun k => T.2.2.1 k a)).set k (.ref b))) ?_ ?_]
  · exact kk
  · have h1 : (gh_pr T k a (some b)).2.1 a = c := o.2
    unfold gh_cell
    rw [h1, if_pos hc]
    congr 2
    exact (gh_fs_s hk.2 (by rw [hk.1]; simp [gh_pr, va_rf]) (fun j hj => ⟨rfl, by simp [gh_pr, hj]⟩)).symm
  · intro x hx
    have : ∀ k', (gh_pr T k a (some b)).2.2.1 k' x = T.2.2.1 k' x := fun k' => by simp [gh_pr, hx]
    simp only [gh_cell, this]
    rfl
/-- a final number, in a constructor -/
theorem gh_putiF {index c k a : Nat} {ty : FieldType} {v : Int32} (C : sv_C E X cc own sx) (hF : sv_FL own index c k true ty) (ho : (vwCl[c]?).map (fun q => q.1) = some own) (hnm : sv_nm X = "<init>") (o : gh_is T a c) (hc : c < 9) (hk : (decide (gh_rk c k = none) && decide (k < gh_n c)) = true) (hn : narrow ty (.int v) = .int v) (hfit : fits ty (.int v) = true) (hd : decode cc pc = .ok (.putfield index, 3)) (kk : sv_J E X (gh_w E T (gh_pf V k a v)) sz ce sl (pc + 3) lv st) : sv_J E X (gh_w E T V) sz ce sl pc lv (.int v :: .ref a :: st) := by
  simp only [Bool.and_eq_true, decide_eq_true_eq] at hk
  obtain ⟨q, hq⟩ := gh_obj (E := E) (V := V) o hc
  refine sv_withD (fun ⟨A, hD⟩ => ?_)
  refine sv_putF C hF ho hnm q hq hn hfit (by rw [gh_fs_l]; exact hk.2) hd ?_
  rw [gh_setw (T' := T) (V' := gh_pf V k a v) hD rfl hq (e := .inr (c, (gh_fs c (fun k => V.1 k a) (fun k => T.2.2.1 k a)).set k (.int v))) ?_ ?_]
  · exact kk
  · unfold gh_cell
    rw [o.2, if_pos hc]
    congr 2
    exact (gh_fs_s hk.2 (by rw [hk.1]; simp [gh_pf]) (fun j hj => ⟨by simp [gh_pf, hj], rfl⟩)).symm
  · intro b hb
    have : ∀ k', (gh_pf V k a v).1 k' b = V.1 k' b := fun k' => by simp [gh_pf, hb]
    simp only [gh_cell, this]
    rfl
theorem gh_aast {a b c d : Nat} {i : Int32} {r : vw_C} (C : sv_C E X cc own sx) (o : gh_is T a c) (hc : ¬ c < 12) (ob : gh_is T b d) (hd9 : d < 9) (hr : vwCl[d]? = some r) (ht : (sv_tys E)[c - 8]? = some (E.2.1 (c - 8), .object r.1)) (hin : sv_inb i (T.2.2.2.1 a) = true) (hd : decode cc pc = .ok (.aastore, 1)) (kk : sv_J E X (gh_w E (gh_pq T a i (some b)) V) sz ce sl (pc + 1) lv st) : sv_J E X (gh_w E T V) sz ce sl pc lv (.ref b :: .int i :: .ref a :: st) := by
  obtain ⟨q, hq⟩ := gh_arq (E := E) (V := V) o hc
  obtain ⟨q2, hq2⟩ := gh_obj (E := E) (V := V) ob hd9
  refine sv_withD (fun ⟨A, hD⟩ => ?_)
  refine sv_aast C q ht hq hq2 hr hin hd ?_
  rw [gh_setw (T' := gh_pq T a i (some b)) (V' := V) hD rfl hq]
  · exact kk
  · have h1 : (gh_pq T a i (some b)).2.1 a = c := o.2
    unfold gh_cell
    rw [h1, if_neg (by omega), if_neg hc]
    have : (gh_pq T a i (some b)).2.2.2.2 a = va_up (T.2.2.2.2 a) i.toNatClampNeg (some b) := by
      funext j
      simp [gh_pq, va_up]
    rw [this]
    rfl
  · intro x hx
    have : (gh_pq T a i (some b)).2.2.2.2 x = T.2.2.2.2 x := by
      funext j
      simp [gh_pq, hx]
    simp only [gh_cell, this]
    rfl
end GRX
