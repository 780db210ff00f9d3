/-! THE CLAIM OUT OF ONE WALK OF THE LAW'S BODY. Your part is whole_start (and what it stands on); all else here is the same for every law, but numbers. -/
def R_law : String := "SeaReceiverLaw"
def lw_P (b : Addr) (xs : List Int32) (args : Array Value) (s : State) : Prop := args = #[.ref b] ∧ s.IntsAt b xs ∧ xs.length ≤ 3072 ∧ (Jvm.Cond.and given_1 narrow_1).before args s = true
def lw_Q (_ : Array Value) (s : State) (o : Outcome) (t : State) : Prop := o = .returned (some (.int 1)) ∧ Framed s o t [] 601024 7293034
def lw_Z (below : List Frame) (a : Array Value) (s : State) : State → Prop := fun t => ∃ o, t.status = .running ∧ Ended t below o ∧ lw_Q a s o t
/-- the law's own end, with 1 on the stack, nothing written that was there before, its room as the claim has it -/
theorem lw_ret {p : Program} {l : Launch} {e : Env} {s : State} {m : MethodId} {below : List Frame} {meth : Method} {c : Code} {b : Nat} (hx : p.tables.exec = Jvm.exec) (hb : c.code = code) (hr : meth.sig.returnType = ret) (hlocks : meth.locks = false) {pc : Nat} {H : Heap} {ls : Array Slot} (hdg : decode code pc = .ok (.ireturn, 1)) : W p l e room_1 s m #[Value.ref b] below meth c H [] 601024 7293034 (lw_Z below #[Value.ref b] s) (F0 m pc ls [.int 1]) := by
  intro T hT X
  obtain ⟨fs, hret, hrun, hended, hW, hframe⟩ := X.leave (v := some (.int 1)) (hlocks := hlocks) (fun h => by rw [hr] at h; cases h)
  have hmeth' : T.vm.method? m = some meth := X.method'
  refine ⟨T.setFrames fs, ?_, .returned (some (.int 1)), hrun, hended, rfl, ⟨_, rfl⟩, hW, hframe⟩
  jvm_step X.here [X.here.top, hx, hb, hdg, hmeth', hr, ret, narrow_b1]
  (try refine ⟨rfl, ?_⟩); (try refine ⟨rfl, ?_⟩)
  first | (intro acts; rw [hret _ acts rfl rfl rfl]) | rw [hret _ _ rfl rfl rfl]
  exact Steps.refl _
/-- what holds at the law's entry: the machine, the code, the tables' words (any of lw_tbl by 'hts w (by decide +kernel)'), the script of L ints xs at the cell b, what the Statement gives of the start (any of its parts by flat_of_before) -/
def lw_At (p : Program) (s : State) (m : MethodId) (meth : Method) (c : Code) (b L : Nat) (xs : Nat → Int32) : Prop :=
  p.tables.exec = Jvm.exec ∧ c.code = code ∧ meth.sig.returnType = ret ∧ c.maxLocals = 7 ∧ s.vm.findClass R_law = some m.cls ∧ (∀ w ∈ lw_tbl, w.before #[Value.ref b] s = true) ∧ va_X b L xs s s.heap ∧ b < s.heap.size ∧ meth.locks = false ∧ (Jvm.Cond.and given_1 narrow_1).before #[Value.ref b] s = true
/-! ===== whole_start: the law from its entry, over the pure claim lw_Pure ===== -/
theorem sv_newL {E : sv_E} {X : sv_X} {cc : ByteArray} {own : String} {sx : List (Nat × Nat × List Int32)} {wd : va_W} {sz ce sl pc : Nat} {lv : List (Nat × Value)} {st : List Value} {n : Int32} (N : Nat) (hN : n.toNatClampNeg = N) (C : sv_C E X cc own sx) (hw : Cond.arrayClass .long ∈ sv_w) (hn : (decide (¬ n < 0) && decide (n.toNatClampNeg * componentBytes .long ≤ 536870912)) = true) (hcs : ce + 1 ≤ (sv_R X).cells ∧ sl + N ≤ (sv_R X).slots) (hd : decode cc pc = .ok (.newarray .long, 2)) (kk : sv_J E X (wd ++ [(sz, .inl (E.2.1 3, N, .inr (.inl (fun _ => 0))))]) (sz + 1) (ce + 1) (sl + N) (pc + 2) lv (.ref sz :: st)) : sv_J E X wd sz ce sl pc lv (.int n :: st) := by
  obtain ⟨p, l, e, R, s, m, args, below, meth, cd, Q, A, nL⟩ := X
  obtain ⟨⟨hx, hb, hml, hown, hts⟩, hK, hlk, hA, hC⟩ := C
  simp only [Bool.and_eq_true, decide_eq_true_eq] at hn
  subst hN
  intro H locs ls g1 hP hD hS g5
  refine va_newaK (atype := .long) hx hb (hts _ hw) rfl hd rfl hn.1 rfl hn.2 hcs.1 hcs.2 g1 fun H1 cA e1 z1 o1 hAr hNm => ?_
  have hcA : cA = E.2.1 3 := by
    have h1 : s.vm.findClass ("[" ++ FieldType.long.toString) = some (E.2.1 3) := (hK.2 3 _ rfl).2
    exact Option.some.inj (hNm.symm.trans h1)
  subst hcA
  have hk : ∀ (k : Nat) (x : Nat × va_E), wd[k]? = some x → H1[x.1]? = H[x.1]? := fun k x hx => o1 x.1 (by rw [← g1]; exact (hP k x hx).lt)
  refine kk H1 locs ls z1 ((hP.kept hk).app (fun k x hx => ?_)) (hD.push hP g1.symm (hA _ (by rw [← g1]; exact hS.1))) ⟨Nat.le_trans hS.1 (by omega), fun x h1 h2 => (o1 x (by rw [← g1]; exact Nat.lt_of_lt_of_le h1 hS.1)).trans (hS.2.1 x h1 h2), hS.2.2⟩ g5
  have hz : k < 1 := (List.getElem?_eq_some_iff.mp hx).1
  rw [show k = 0 by omega] at hx
  cases hx
  show H1[sz]? = some (vp_cell _ _)
  rw [e1, vp_cell_l]
  rfl
def lw_T0 : gh_T := ([], fun _ => 0, fun _ _ => none, fun _ => 0, fun _ _ => none)
def lw_V0 : gh_V := (fun _ _ => 0, fun _ _ => 0)
theorem lw_T0_ok : gh_ok lw_T0 := ⟨fun a c k d b o _ _ => absurd o.1 List.not_mem_nil, fun a i b o _ => absurd o.1 List.not_mem_nil, fun a i b o _ => absurd o.1 List.not_mem_nil⟩
theorem lw_T0_fr {z : Nat} : gh_fr lw_T0 z := fun a h => absurd h List.not_mem_nil
/-- the pure claim: from the constructors on, a relation that every call keeps -/
def lw_Pure : Prop := ∀ a0 : Nat, ∃ (I : lw_R) (q : gh_T × gh_V × Nat) (r : md_B) (φ : Nat), lw_Sim a0 I ∧ f_X8_init (gh_new lw_T0 a0 8) (gh_nv lw_V0 a0) (a0 + 1) a0 = some q ∧ f_X9_forget md_B0 = some r ∧ I q.1 q.2.1 q.2.2 r φ ∧ φ ≤ 5000
set_option maxHeartbeats 4000000 in
set_option maxRecDepth 100000 in
theorem whole_start (hp : lw_Pure) {p : Program} {e : Env} {s : State} {m : MethodId} {below : List Frame} {meth : Method} {c : Code} (l : Launch) (hl : l.stackTraces = false) {b L : Nat} {xs : Nat → Int32} (hL : L ≤ 3072) (C0 : lw_At p s m meth c b L xs) : W p l e room_1 s m #[Value.ref b] below meth c s.heap [] 0 0 (lw_Z below #[Value.ref b] s) (entryFrame m ([Value.ref b] : List Value).toArray 7) := by
  obtain ⟨hx, hb, hr, hml, hown, hts, hX, hbl, hlocks, hgv⟩ := id C0
  have hA : ∀ a : Nat, a < s.heap.size → ¬ (fun q : Nat => s.heap.size ≤ q) a := fun a h => Nat.not_le.mpr h
  have hf : ∀ c ∈ flatC narrow_1, c.before #[Value.ref b] s = true := fun c hc => flat_of_before _ hgv c (List.mem_append_right _ hc)
  obtain ⟨E, hK, hE⟩ := en_E (A := fun q : Nat => s.heap.size ≤ q) hts hf hA
  have hT := en_T (A := fun q : Nat => s.heap.size ≤ q) hts hf hA
  obtain ⟨I, q, r, φ, hSim, hq, hr9, hI, hφ⟩ := hp s.heap.size
  have key : ∀ X : sv_X, X = (p, l, e, room_1, s, m, #[Value.ref b], below, meth, c, lw_Z below #[Value.ref b] s, (fun q : Nat => s.heap.size ≤ q), 7) → sv_J E X (gh_w E lw_T0 lw_V0) s.heap.size 0 0 0 [(0, .ref b)] [] := by
    intro X hXe
    have C : sv_C E X cL_law RL [] := by
      rw [hXe]
      exact ⟨⟨hx, hb, hml, hown, fun w hw => hts w (List.mem_filter.mp hw).1⟩, hK, hlocks, fun q h => h, hE, fun x h => absurd h List.not_mem_nil⟩
    have HX : sv_TX X := by
      rw [hXe]
      exact hT
    have hl' : (sv_l X).stackTraces = false := by
      rw [hXe]
      exact hl
    have hSc : sv_Sc X b L xs := by
      rw [hXe]
      exact ⟨hX, hbl, Nat.not_le.mpr hbl⟩
    have hR : sv_R X = room_1 := by
      rw [hXe]
      rfl
    have hN : sv_nL X = 7 := by
      rw [hXe]
      rfl
    have hEnd : ∀ (wd : va_W) (z ce sl : Nat) (lv : List (Nat × Value)), ce ≤ 601024 → sl ≤ 7293034 → sv_J E X wd z ce sl 646 lv [.int 1] := by
      intro wd z ce sl lv h1 h2
      rw [hXe]
      intro H locs ls g1 hP hD hS g5
      exact W.forget (locs := []) (L := locs) (fun q hq => hS.2.2 q hq) (W.widen h1 h2 (lw_ret hx hb hr hlocks dL_law_646))
    clear hXe
    have x0 := gh_X.new (c := 8) lw_T0_ok (lw_T0_fr (z := s.heap.size)) (by decide)
    have o0 : gh_is (gh_new lw_T0 s.heap.size 8) s.heap.size 8 := gh_is.mk
    have x1 := e_X8_init _ _ _ _ _ hq x0.ok x0.fr o0
    refine gh_mk C lw_T0_fr cl_L_8 (by decide) ⟨by rw [hR]; exact Nat.le_of_ble_eq_true rfl, by rw [hR]; exact Nat.le_of_ble_eq_true rfl⟩ dL_law_0 ?_
    refine sv_dup C dL_law_3 rfl ?_
    refine sv_callI C mi_L_28 (m_X8_init (sv_l X) E _ _ _ _ q hq x0.ok x0.fr o0) sv_sx0 rfl rfl (Nat.le_of_ble_eq_true rfl) ⟨by rw [hR]; exact Nat.le_of_ble_eq_true rfl, by rw [hR]; exact Nat.le_of_ble_eq_true rfl⟩ ⟨by rw [hR]; exact Nat.le_of_ble_eq_true rfl, by rw [hR]; exact Nat.le_of_ble_eq_true rfl⟩ dL_law_4 ?_
    refine sv_astore_n C dL_law_7 rfl (by rw [hN]; decide) rfl ?_
    refine sv_new (fs := md_fj (q.2.2 + 1) 0) C cl_L_29 ⟨by rw [hR]; exact Nat.le_of_ble_eq_true rfl, by rw [hR]; exact Nat.le_of_ble_eq_true rfl⟩ dL_law_8 ?_
    refine sv_dup C dL_law_11 rfl ?_
    refine sv_callIP (wd := md_wj E q.2.2 (q.2.2 + 1) 0) C mi_L_31 (m_X9_init (sv_l X) E q.2.2 (q.2.2 + 1) r hr9) sv_sx0 rfl rfl (Nat.le_of_ble_eq_true rfl) ⟨by rw [hR]; exact Nat.le_of_ble_eq_true rfl, by rw [hR]; exact Nat.le_of_ble_eq_true rfl⟩ ⟨by rw [hR]; exact Nat.le_of_ble_eq_true rfl, by rw [hR]; exact Nat.le_of_ble_eq_true rfl⟩ dL_law_12 ?_
    refine sv_astore_n C dL_law_15 rfl (by rw [hN]; decide) rfl ?_
    refine sv_iconst (v := 1) C dL_law_16 (by decide) ?_
    refine sv_newL 1 (by decide) C kw_842 (by decide) ⟨by rw [hR]; exact Nat.le_of_ble_eq_true rfl, by rw [hR]; exact Nat.le_of_ble_eq_true rfl⟩ dL_law_17 ?_
    refine sv_astore_n C dL_law_19 rfl (by rw [hN]; decide) rfl ?_
    refine sv_iconst (v := 0) C dL_law_20 (by decide) ?_
    refine sv_istore C dL_law_21 (by rw [hN]; decide) rfl ?_
    refine sv_sub (lv' := [(0, .ref b), (1, .ref s.heap.size), (2, .ref q.2.2), (3, .ref (q.2.2 + 1 + 17)), (4, .int (Int32.ofNat (6 * 0)))]) [4, 3, 2, 1, 0] rfl ?_
    rw [List.append_assoc]
    refine sv_swap ?_
    rw [List.append_assoc]
    have hI2 := hSim.2.1 _ _ _ _ _ (q.2.2 + 1 + 17 + 1) hI (by omega)
    exact lw_loop C HX hl' hSc hR hN hL hSim hEnd 512 0 _ _ _ _ φ _ _ _ hI2 (by decide) (by omega) (by omega) (by omega)
  have hlv := lv_entry ([.ref b]) (n := 7) (Nat.le_of_ble_eq_true rfl)
  rw [lg_entry_eq]
  exact key _ rfl s.heap [] _ rfl (fun k q h => by simp [gh_w, lw_T0, va_pl] at h) ⟨fun i j p q h => by simp [gh_w, lw_T0, va_pl] at h, fun k q h => by simp [gh_w, lw_T0, va_pl] at h⟩ va_S.rf hlv
