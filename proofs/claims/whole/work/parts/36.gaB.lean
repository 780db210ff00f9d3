def f_X3_keep_60 (a0 : Nat) (T : gh_T) (V : gh_V) (z : Nat) (x2 : Int32) (x3 : Int32) : Option (Option Nat × gh_T × gh_V × Nat) :=
  (T.2.2.1 1 a0).bind (fun b61 =>
    sv_g (sv_inb x3 (T.2.2.2.1 b61)) (
      (T.2.2.1 2 a0).bind (fun b68 =>
        sv_g (sv_inb x3 (T.2.2.2.1 b68)) (
          sv_g (sv_inb x3 (T.2.2.2.1 b68)) (
            (T.2.2.1 0 a0).bind (fun b78 =>
              sv_g (sv_inb x3 (T.2.2.2.1 b78)) (
                match T.2.2.2.2 b78 x3.toNatClampNeg with
                | none =>
                    some (none, T, gh_pa (gh_pa V b61 x3 x2) b68 x3 (((gh_pa V b61 x3 x2).2 b68 x3.toNatClampNeg) + 1), z)
                | some b82 =>
                    some (some b82, T, gh_pa (gh_pa V b61 x3 x2) b68 x3 (((gh_pa V b61 x3 x2).2 b68 x3.toNatClampNeg) + 1), z))))))))
def f_X3_keep_42 (a0 : Nat) (T : gh_T) (V : gh_V) (z : Nat) (x2 : Int32) (x3 : Int32) : Option (Option Nat × gh_T × gh_V × Nat) :=
  (T.2.2.1 2 a0).bind (fun b43 =>
    sv_g (sv_inb x3 (T.2.2.2.1 b43)) (
      if (V.2 b43 x3.toNatClampNeg) = 0 then
        (T.2.2.1 0 a0).bind (fun b52 =>
          sv_g (sv_inb x3 (T.2.2.2.1 b52)) (
            (T.2.2.2.2 b52 x3.toNatClampNeg).bind (fun b56 =>
              (f_X0_empty T V b56).bind (fun q57 =>
                f_X3_keep_60 a0 T q57 z x2 x3))))
      else
        f_X3_keep_60 a0 T V z x2 x3))
def f_X3_keep_16 (a0 : Nat) (T : gh_T) (V : gh_V) (z : Nat) (x2 : Int32) (s0 : Int32) : Option (Option Nat × gh_T × gh_V × Nat) :=
  (T.2.2.1 0 a0).bind (fun b18 =>
    sv_g (sv_inb s0 (T.2.2.2.1 b18)) (
      match T.2.2.2.2 b18 s0.toNatClampNeg with
      | none =>
          (T.2.2.1 0 a0).bind (fun b27 =>
            (f_X0_init (gh_new T z 0) (gh_nv V z) (z + 1) z 3240).bind (fun q38 =>
              sv_g (sv_inb s0 (q38.1.2.2.2.1 b27)) (
                f_X3_keep_42 a0 (gh_pq q38.1 b27 s0 (some z)) q38.2.1 q38.2.2 x2 s0)))
      | some b22 =>
          f_X3_keep_42 a0 T V z x2 s0))
def f_X3_keep_14 (a0 : Nat) (T : gh_T) (V : gh_V) (z : Nat) (x2 : Int32) : Option (Option Nat × gh_T × gh_V × Nat) :=
  f_X3_keep_16 a0 T V z x2 10
def f_X3_keep (T : gh_T) (V : gh_V) (z : Nat) (a0 : Nat) (x1 : Int32) (x2 : Int32) : Option (Option Nat × gh_T × gh_V × Nat) :=
  if x1 < 0 then
    f_X3_keep_14 a0 T V z x2
  else
    if 11 ≤ x1 then
      f_X3_keep_14 a0 T V z x2
    else
      f_X3_keep_16 a0 T V z x2 x1
set_option maxHeartbeats 4000000 in
set_option maxRecDepth 100000 in
theorem e_X3_keep_60 {q : Option Nat × gh_T × gh_V × Nat} {a0 : Nat} (T : gh_T) (V : gh_V) (z : Nat) (x2 : Int32) (x3 : Int32) (hT : gh_ok T) (hz : gh_fr T z) (o_a0 : gh_is T a0 3) (hf : f_X3_keep_60 a0 T V z x2 x3 = some q) : gh_X T z q.2.1 q.2.2.2 := by
  have hx := gh_X.rf hT hz
  rw [f_X3_keep_60] at hf
  obtain ⟨b61, hb61, hf⟩ := sv_bind_some hf
  have o_b61 : gh_is T b61 10 := gh_okr hT o_a0 rfl hb61
  obtain ⟨g66, hf⟩ := sv_g_some hf
  obtain ⟨b68, hb68, hf⟩ := sv_bind_some hf
  have o_b68 : gh_is T b68 10 := gh_okr hT o_a0 rfl hb68
  obtain ⟨g73, hf⟩ := sv_g_some hf
  obtain ⟨g76, hf⟩ := sv_g_some hf
  obtain ⟨b78, hb78, hf⟩ := sv_bind_some hf
  have o_b78 : gh_is T b78 12 := gh_okr hT o_a0 rfl hb78
  obtain ⟨g82, hf⟩ := sv_g_some hf
  cases hb82 : T.2.2.2.2 b78 x3.toNatClampNeg with
  | none =>
    rw [hb82] at hf
    cases hf
    exact hx
  | some b82 =>
    rw [hb82] at hf
    have o_b82 : gh_is T b82 0 := hT.2.1 _ _ _ o_b78 hb82
    cases hf
    exact hx
set_option maxHeartbeats 4000000 in
set_option maxRecDepth 100000 in
theorem w_X3_keep_60 {E : sv_E} {X : sv_X} {q : Option Nat × gh_T × gh_V × Nat} {a0 : Nat} (C : sv_C E X cX3_keep RX3 []) (hZ : sv_Z E X (some (.object "SeaReceiver$BitRow")) (some (va_rf q.1)) (gh_w E q.2.1 q.2.2.1) q.2.2.2 2 106) (hR : sv_R X = { frames := 2, cells := 2, slots := 106, locals := 43 }) (hN : sv_nL X = 4) (T : gh_T) (V : gh_V) (z : Nat) (x2 : Int32) (x3 : Int32) (hT : gh_ok T) (hz : gh_fr T z) (o_a0 : gh_is T a0 3) (hf : f_X3_keep_60 a0 T V z x2 x3 = some q) : sv_J E X (gh_w E T V) z 2 106 60 [(0, .ref a0), (2, .int x2), (3, .int x3)] [] := by
  rw [f_X3_keep_60] at hf
  refine sv_aload_n 0 C dX3_keep_60 rfl rfl ?_
  obtain ⟨b61, hb61, hf⟩ := sv_bind_some hf
  have o_b61 : gh_is T b61 10 := gh_okr hT o_a0 rfl hb61
  refine gh_getr (d := 10) C fl_X3_17 o_a0 (by decide) (by decide) hb61 dX3_keep_61 ?_
  refine sv_iload_n 2 C dX3_keep_64 rfl rfl ?_
  refine sv_iload_n 1 C dX3_keep_65 rfl rfl ?_
  obtain ⟨g66, hf⟩ := sv_g_some hf
  refine gh_iast C o_b61 g66 dX3_keep_66 ?_
  refine sv_aload_n 0 C dX3_keep_67 rfl rfl ?_
  obtain ⟨b68, hb68, hf⟩ := sv_bind_some hf
  have o_b68 : gh_is T b68 10 := gh_okr hT o_a0 rfl hb68
  refine gh_getr (d := 10) C fl_X3_21 o_a0 (by decide) (by decide) hb68 dX3_keep_68 ?_
  refine sv_iload_n 2 C dX3_keep_71 rfl rfl ?_
  refine sv_dup2 C dX3_keep_72 rfl rfl ?_
  obtain ⟨g73, hf⟩ := sv_g_some hf
  refine gh_iald C o_b68 g73 dX3_keep_73 ?_
  refine sv_iconst (v := 1) C dX3_keep_74 (by decide) ?_
  refine sv_iadd C dX3_keep_75 ?_
  obtain ⟨g76, hf⟩ := sv_g_some hf
  refine gh_iast C o_b68 g76 dX3_keep_76 ?_
  refine sv_aload_n 0 C dX3_keep_77 rfl rfl ?_
  obtain ⟨b78, hb78, hf⟩ := sv_bind_some hf
  have o_b78 : gh_is T b78 12 := gh_okr hT o_a0 rfl hb78
  refine gh_getr (d := 12) C fl_X3_13 o_a0 (by decide) (by decide) hb78 dX3_keep_78 ?_
  refine sv_iload_n 2 C dX3_keep_81 rfl rfl ?_
  obtain ⟨g82, hf⟩ := sv_g_some hf
  refine gh_aald (t0 := 4) C o_b78 (by decide) rfl g82 dX3_keep_82 ?_
  cases hb82 : T.2.2.2.2 b78 x3.toNatClampNeg with
  | none =>
    rw [hb82] at hf
    exact sv_aret C (Or.inl ⟨_, rfl⟩) (Or.inl rfl) (by cases hf; exact hZ) dX3_keep_83
  | some b82 =>
    rw [hb82] at hf
    have o_b82 : gh_is T b82 0 := hT.2.1 _ _ _ o_b78 hb82
    exact sv_aret C (Or.inl ⟨_, rfl⟩) (Or.inr ⟨_, rfl⟩) (by cases hf; exact hZ) dX3_keep_83
set_option maxHeartbeats 4000000 in
set_option maxRecDepth 100000 in
theorem e_X3_keep_42 {q : Option Nat × gh_T × gh_V × Nat} {a0 : Nat} (T : gh_T) (V : gh_V) (z : Nat) (x2 : Int32) (x3 : Int32) (hT : gh_ok T) (hz : gh_fr T z) (o_a0 : gh_is T a0 3) (hf : f_X3_keep_42 a0 T V z x2 x3 = some q) : gh_X T z q.2.1 q.2.2.2 := by
  have hx := gh_X.rf hT hz
  rw [f_X3_keep_42] at hf
  obtain ⟨b43, hb43, hf⟩ := sv_bind_some hf
  have o_b43 : gh_is T b43 10 := gh_okr hT o_a0 rfl hb43
  obtain ⟨g47, hf⟩ := sv_g_some hf
  rcases (Decidable.em ((V.2 b43 x3.toNatClampNeg) = 0)).symm with c48 | c48
  · replace hf := sv_if_f c48 hf
    exact hx.trans (e_X3_keep_60 _ _ _ _ _ hT hz o_a0 hf)
  · replace hf := sv_if_t c48 hf
    obtain ⟨b52, hb52, hf⟩ := sv_bind_some hf
    have o_b52 : gh_is T b52 12 := gh_okr hT o_a0 rfl hb52
    obtain ⟨g56, hf⟩ := sv_g_some hf
    obtain ⟨b56, hb56, hf⟩ := sv_bind_some hf
    have o_b56 : gh_is T b56 0 := hT.2.1 _ _ _ o_b52 hb56
    obtain ⟨q57, hc57, hf⟩ := sv_bind_some hf
    exact hx.trans (e_X3_keep_60 _ _ _ _ _ hT hz o_a0 hf)
set_option maxHeartbeats 4000000 in
set_option maxRecDepth 100000 in
theorem w_X3_keep_42 {E : sv_E} {X : sv_X} {q : Option Nat × gh_T × gh_V × Nat} {a0 : Nat} (C : sv_C E X cX3_keep RX3 []) (hZ : sv_Z E X (some (.object "SeaReceiver$BitRow")) (some (va_rf q.1)) (gh_w E q.2.1 q.2.2.1) q.2.2.2 2 106) (hR : sv_R X = { frames := 2, cells := 2, slots := 106, locals := 43 }) (hN : sv_nL X = 4) (T : gh_T) (V : gh_V) (z : Nat) (x2 : Int32) (x3 : Int32) (hT : gh_ok T) (hz : gh_fr T z) (o_a0 : gh_is T a0 3) (hf : f_X3_keep_42 a0 T V z x2 x3 = some q) : sv_J E X (gh_w E T V) z 2 106 42 [(0, .ref a0), (2, .int x2), (3, .int x3)] [] := by
  rw [f_X3_keep_42] at hf
  refine sv_aload_n 0 C dX3_keep_42 rfl rfl ?_
  obtain ⟨b43, hb43, hf⟩ := sv_bind_some hf
  have o_b43 : gh_is T b43 10 := gh_okr hT o_a0 rfl hb43
  refine gh_getr (d := 10) C fl_X3_21 o_a0 (by decide) (by decide) hb43 dX3_keep_43 ?_
  refine sv_iload_n 2 C dX3_keep_46 rfl rfl ?_
  obtain ⟨g47, hf⟩ := sv_g_some hf
  refine gh_iald C o_b43 g47 dX3_keep_47 ?_
  refine sv_if_ne (tgt := 60) C dX3_keep_48 (by decide) (fun c48 => ?_) (fun c48 => ?_)
  · replace hf := sv_if_f c48 hf
    refine sv_sub (lv' := [(0, .ref a0), (2, .int x2), (3, .int x3)]) [0, 1, 2] rfl ?_
    exact w_X3_keep_60 C hZ hR hN _ _ _ _ _ hT hz o_a0 hf
  · replace hf := sv_if_t c48 hf
    refine sv_aload_n 0 C dX3_keep_51 rfl rfl ?_
    obtain ⟨b52, hb52, hf⟩ := sv_bind_some hf
    have o_b52 : gh_is T b52 12 := gh_okr hT o_a0 rfl hb52
    refine gh_getr (d := 12) C fl_X3_13 o_a0 (by decide) (by decide) hb52 dX3_keep_52 ?_
    refine sv_iload_n 2 C dX3_keep_55 rfl rfl ?_
    obtain ⟨g56, hf⟩ := sv_g_some hf
    obtain ⟨b56, hb56, hf⟩ := sv_bind_some hf
    have o_b56 : gh_is T b56 0 := hT.2.1 _ _ _ o_b52 hb56
    refine gh_aald (t0 := 4) C o_b52 (by decide) rfl g56 dX3_keep_56 ?_
    rw [hb56]
    show sv_J E X (gh_w E T V) z 2 106 57 [(0, .ref a0), (2, .int x2), (3, .int x3)] [.ref b56]
    obtain ⟨q57, hc57, hf⟩ := sv_bind_some hf
    refine gh_callV0 C mv_X3_33 (m_X0_empty (sv_l X) E T z _ _ _ hc57 hT o_b56) sv_sx0 o_b56 (by decide) rfl rfl rfl (Nat.le_of_ble_eq_true rfl) ⟨by rw [hR]; decide, by rw [hR]; decide⟩ ⟨by rw [hR]; decide, by rw [hR]; decide⟩ dX3_keep_57 ?_
    refine sv_sub (lv' := [(0, .ref a0), (2, .int x2), (3, .int x3)]) [0, 1, 2] rfl ?_
    exact w_X3_keep_60 C hZ hR hN _ _ _ _ _ hT hz o_a0 hf
set_option maxHeartbeats 4000000 in
set_option maxRecDepth 100000 in
theorem e_X3_keep_16 {q : Option Nat × gh_T × gh_V × Nat} {a0 : Nat} (T : gh_T) (V : gh_V) (z : Nat) (x2 : Int32) (s0 : Int32) (hT : gh_ok T) (hz : gh_fr T z) (o_a0 : gh_is T a0 3) (hf : f_X3_keep_16 a0 T V z x2 s0 = some q) : gh_X T z q.2.1 q.2.2.2 := by
  have hx := gh_X.rf hT hz
  rw [f_X3_keep_16] at hf
  obtain ⟨b18, hb18, hf⟩ := sv_bind_some hf
  have o_b18 : gh_is T b18 12 := gh_okr hT o_a0 rfl hb18
  obtain ⟨g22, hf⟩ := sv_g_some hf
  cases hb22 : T.2.2.2.2 b18 s0.toNatClampNeg with
  | none =>
    rw [hb22] at hf
    obtain ⟨b27, hb27, hf⟩ := sv_bind_some hf
    have o_b27 : gh_is T b27 12 := gh_okr hT o_a0 rfl hb27
    have x31 := gh_X.new (c := 0) hT hz (by decide)
    replace hT := x31.ok
    replace hz := x31.fr
    replace o_a0 := x31.is o_a0
    replace o_b18 := x31.is o_b18
    replace o_b27 := x31.is o_b27
    replace hx := hx.trans x31
    have o_n31 : gh_is (gh_new T z 0) z 0 := gh_is.mk
    obtain ⟨q38, hc38, hf⟩ := sv_bind_some hf
    have x38 := e_X0_init _ _ _ _ _ _ hc38 hT hz o_n31
    replace hT := x38.ok
    replace hz := x38.fr
    replace o_a0 := x38.is o_a0
    replace o_b18 := x38.is o_b18
    replace o_b27 := x38.is o_b27
    replace o_n31 := x38.is o_n31
    replace hx := hx.trans x38
    obtain ⟨g41, hf⟩ := sv_g_some hf
    have x41 := gh_X.pq (i := s0) hT hz o_b27 (Or.inl ⟨rfl, rfl⟩) o_n31
    replace hT := x41.ok
    replace hz := x41.fr
    replace o_a0 := x41.is o_a0
    replace o_b18 := x41.is o_b18
    replace o_b27 := x41.is o_b27
    replace o_n31 := x41.is o_n31
    replace hx := hx.trans x41
    exact hx.trans (e_X3_keep_42 _ _ _ _ _ hT hz o_a0 hf)
  | some b22 =>
    rw [hb22] at hf
    have o_b22 : gh_is T b22 0 := hT.2.1 _ _ _ o_b18 hb22
    exact hx.trans (e_X3_keep_42 _ _ _ _ _ hT hz o_a0 hf)
set_option maxHeartbeats 4000000 in
set_option maxRecDepth 100000 in
theorem w_X3_keep_16 {E : sv_E} {X : sv_X} {q : Option Nat × gh_T × gh_V × Nat} {a0 : Nat} (C : sv_C E X cX3_keep RX3 []) (hZ : sv_Z E X (some (.object "SeaReceiver$BitRow")) (some (va_rf q.1)) (gh_w E q.2.1 q.2.2.1) q.2.2.2 2 106) (hR : sv_R X = { frames := 2, cells := 2, slots := 106, locals := 43 }) (hN : sv_nL X = 4) (T : gh_T) (V : gh_V) (z : Nat) (x2 : Int32) (s0 : Int32) (hT : gh_ok T) (hz : gh_fr T z) (o_a0 : gh_is T a0 3) (hf : f_X3_keep_16 a0 T V z x2 s0 = some q) : sv_J E X (gh_w E T V) z 0 0 16 [(0, .ref a0), (2, .int x2)] [.int s0] := by
  rw [f_X3_keep_16] at hf
  refine sv_istore_n (lv' := [(3, .int s0), (0, .ref a0), (2, .int x2)]) C dX3_keep_16 rfl (by rw [hN]; decide) rfl ?_
  refine sv_aload_n 1 C dX3_keep_17 rfl rfl ?_
  obtain ⟨b18, hb18, hf⟩ := sv_bind_some hf
  have o_b18 : gh_is T b18 12 := gh_okr hT o_a0 rfl hb18
  refine gh_getr (d := 12) C fl_X3_13 o_a0 (by decide) (by decide) hb18 dX3_keep_18 ?_
  refine sv_iload_n 0 C dX3_keep_21 rfl rfl ?_
  obtain ⟨g22, hf⟩ := sv_g_some hf
  refine gh_aald (t0 := 4) C o_b18 (by decide) rfl g22 dX3_keep_22 ?_
  cases hb22 : T.2.2.2.2 b18 s0.toNatClampNeg with
  | none =>
    rw [hb22] at hf
    refine sv_ifnonnullN C dX3_keep_23 ?_
    refine sv_aload_n 1 C dX3_keep_26 rfl rfl ?_
    obtain ⟨b27, hb27, hf⟩ := sv_bind_some hf
    have o_b27 : gh_is T b27 12 := gh_okr hT o_a0 rfl hb27
    refine gh_getr (d := 12) C fl_X3_13 o_a0 (by decide) (by decide) hb27 dX3_keep_27 ?_
    refine sv_iload_n 0 C dX3_keep_30 rfl rfl ?_
    have x31 := gh_X.new (c := 0) hT hz (by decide)
    refine gh_mk C hz cl_X3_11 (by decide) ⟨by rw [hR]; decide, by rw [hR]; decide⟩ dX3_keep_31 ?_
    replace hT := x31.ok
    replace hz := x31.fr
    replace o_a0 := x31.is o_a0
    replace o_b18 := x31.is o_b18
    replace o_b27 := x31.is o_b27
    have o_n31 : gh_is (gh_new T z 0) z 0 := gh_is.mk
    refine sv_dup C dX3_keep_34 rfl ?_
    refine sv_sipush (v := 3240) C dX3_keep_35 (by decide) ?_
    obtain ⟨q38, hc38, hf⟩ := sv_bind_some hf
    have x38 := e_X0_init _ _ _ _ _ _ hc38 hT hz o_n31
    refine sv_callI C mi_X3_30 (m_X0_init (sv_l X) E _ _ _ _ _ _ hc38 hT hz o_n31) sv_sx0 rfl rfl (Nat.le_of_ble_eq_true rfl) ⟨by rw [hR]; decide, by rw [hR]; decide⟩ ⟨by rw [hR]; decide, by rw [hR]; decide⟩ dX3_keep_38 ?_
    replace hT := x38.ok
    replace hz := x38.fr
    replace o_a0 := x38.is o_a0
    replace o_b18 := x38.is o_b18
    replace o_b27 := x38.is o_b27
    replace o_n31 := x38.is o_n31
    show sv_J E X (gh_w E q38.1 q38.2.1) q38.2.2 2 106 41 [(3, .int s0), (0, .ref a0), (2, .int x2)] [.ref z, .int s0, .ref b27]
    obtain ⟨g41, hf⟩ := sv_g_some hf
    have x41 := gh_X.pq (i := s0) hT hz o_b27 (Or.inl ⟨rfl, rfl⟩) o_n31
    refine gh_aast C o_b27 (by decide) o_n31 (by decide) rfl rfl g41 dX3_keep_41 ?_
    replace hT := x41.ok
    replace hz := x41.fr
    replace o_a0 := x41.is o_a0
    replace o_b18 := x41.is o_b18
    replace o_b27 := x41.is o_b27
    replace o_n31 := x41.is o_n31
    refine sv_sub (lv' := [(0, .ref a0), (2, .int x2), (3, .int s0)]) [1, 2, 0] rfl ?_
    exact w_X3_keep_42 C hZ hR hN _ _ _ _ _ hT hz o_a0 hf
  | some b22 =>
    rw [hb22] at hf
    have o_b22 : gh_is T b22 0 := hT.2.1 _ _ _ o_b18 hb22
    refine sv_ifnonnull (tgt := 42) C dX3_keep_23 (by decide) ?_
    refine sv_sub (lv' := [(0, .ref a0), (2, .int x2), (3, .int s0)]) [1, 2, 0] rfl ?_
    refine sv_widen (k := 2) (n := 106) (by decide) (by decide) ?_
    exact w_X3_keep_42 C hZ hR hN _ _ _ _ _ hT hz o_a0 hf
set_option maxHeartbeats 4000000 in
set_option maxRecDepth 100000 in
theorem e_X3_keep_14 {q : Option Nat × gh_T × gh_V × Nat} {a0 : Nat} (T : gh_T) (V : gh_V) (z : Nat) (x2 : Int32) (hT : gh_ok T) (hz : gh_fr T z) (o_a0 : gh_is T a0 3) (hf : f_X3_keep_14 a0 T V z x2 = some q) : gh_X T z q.2.1 q.2.2.2 := by
  have hx := gh_X.rf hT hz
  rw [f_X3_keep_14] at hf
  exact hx.trans (e_X3_keep_16 _ _ _ _ _ hT hz o_a0 hf)
set_option maxHeartbeats 4000000 in
set_option maxRecDepth 100000 in
theorem w_X3_keep_14 {E : sv_E} {X : sv_X} {q : Option Nat × gh_T × gh_V × Nat} {a0 : Nat} (C : sv_C E X cX3_keep RX3 []) (hZ : sv_Z E X (some (.object "SeaReceiver$BitRow")) (some (va_rf q.1)) (gh_w E q.2.1 q.2.2.1) q.2.2.2 2 106) (hR : sv_R X = { frames := 2, cells := 2, slots := 106, locals := 43 }) (hN : sv_nL X = 4) (T : gh_T) (V : gh_V) (z : Nat) (x2 : Int32) (hT : gh_ok T) (hz : gh_fr T z) (o_a0 : gh_is T a0 3) (hf : f_X3_keep_14 a0 T V z x2 = some q) : sv_J E X (gh_w E T V) z 0 0 14 [(0, .ref a0), (2, .int x2)] [] := by
  rw [f_X3_keep_14] at hf
  refine sv_bipush (v := 10) C dX3_keep_14 (by decide) ?_
  refine sv_sub (lv' := [(0, .ref a0), (2, .int x2)]) [0, 1] rfl ?_
  exact w_X3_keep_16 C hZ hR hN _ _ _ _ _ hT hz o_a0 hf
set_option maxHeartbeats 4000000 in
set_option maxRecDepth 100000 in
theorem e_X3_keep (T : gh_T) (V : gh_V) (z : Nat) (a0 : Nat) (x1 : Int32) (x2 : Int32) (q : Option Nat × gh_T × gh_V × Nat) (hf : f_X3_keep T V z a0 x1 x2 = some q) (hT : gh_ok T) (hz : gh_fr T z) (o_a0 : gh_is T a0 3) : gh_X T z q.2.1 q.2.2.2 := by
  have hx := gh_X.rf hT hz
  rw [f_X3_keep] at hf
  rcases (Decidable.em (x1 < 0)) with c1 | c1
  · replace hf := sv_if_t c1 hf
    exact hx.trans (e_X3_keep_14 _ _ _ _ hT hz o_a0 hf)
  · replace hf := sv_if_f c1 hf
    rcases (Decidable.em (11 ≤ x1)) with c7 | c7
    · replace hf := sv_if_t c7 hf
      exact hx.trans (e_X3_keep_14 _ _ _ _ hT hz o_a0 hf)
    · replace hf := sv_if_f c7 hf
      exact hx.trans (e_X3_keep_16 _ _ _ _ _ hT hz o_a0 hf)
set_option maxHeartbeats 4000000 in
set_option maxRecDepth 100000 in
theorem m_X3_keep (l : Launch) (E : sv_E) (T : gh_T) (V : gh_V) (z : Nat) (a0 : Nat) (x1 : Int32) (x2 : Int32) (q : Option Nat × gh_T × gh_V × Nat) (hf : f_X3_keep T V z a0 x1 x2 = some q) (hT : gh_ok T) (hz : gh_fr T z) (o_a0 : gh_is T a0 3) : sv_Met l E yX3_keep cX3_keep 4 (some (.object "SeaReceiver$BitRow")) 2 43 [] [.ref a0, .int x1, .int x2] (gh_w E T V) z (some (va_rf q.1)) (gh_w E q.2.1 q.2.2.1) q.2.2.2 2 106 := by
  refine sv_ofJ (by decide) (Nat.le_of_ble_eq_true rfl) ?_
  intro X hX hN hnm hR C hZ
  replace C : sv_C E X cX3_keep RX3 [] := C
  show sv_J E X (gh_w E T V) z 0 0 0 [(0, .ref a0), (1, .int x1), (2, .int x2)] []
  rw [f_X3_keep] at hf
  refine sv_iload_n 1 C dX3_keep_0 rfl rfl ?_
  refine sv_if_lt (tgt := 14) C dX3_keep_1 (by decide) (fun c1 => ?_) (fun c1 => ?_)
  · replace hf := sv_if_t c1 hf
    refine sv_sub (lv' := [(0, .ref a0), (2, .int x2)]) [0, 2] rfl ?_
    exact w_X3_keep_14 C hZ hR hN _ _ _ _ hT hz o_a0 hf
  · replace hf := sv_if_f c1 hf
    refine sv_iload_n 1 C dX3_keep_4 rfl rfl ?_
    refine sv_bipush (v := 11) C dX3_keep_5 (by decide) ?_
    refine sv_icmp_ge (tgt := 14) C dX3_keep_7 (by decide) (fun c7 => ?_) (fun c7 => ?_)
    · replace hf := sv_if_t c7 hf
      refine sv_sub (lv' := [(0, .ref a0), (2, .int x2)]) [0, 2] rfl ?_
      exact w_X3_keep_14 C hZ hR hN _ _ _ _ hT hz o_a0 hf
    · replace hf := sv_if_f c7 hf
      refine sv_iload_n 1 C dX3_keep_10 rfl rfl ?_
      refine sv_goto (tgt := 16) C dX3_keep_11 (by decide) ?_
      refine sv_sub (lv' := [(0, .ref a0), (2, .int x2)]) [0, 2] rfl ?_
      exact w_X3_keep_16 C hZ hR hN _ _ _ _ _ hT hz o_a0 hf
def f_X2_vesselOf_39 (a0 : Nat) (T : gh_T) (V : gh_V) (z : Nat) : Option (Option Nat × gh_T × gh_V × Nat) :=
  some (none, T, V, z)
def f_X2_vesselOf_69 (a0 : Nat) (T : gh_T) (V : gh_V) (z : Nat) (x1 : Int32) : Option (Option Nat × gh_T × gh_V × Nat) :=
  (T.2.2.1 0 a0).bind (fun b70 =>
    sv_g (sv_inb (V.1 1 a0) (T.2.2.2.1 b70)) (
      (T.2.2.2.2 b70 (V.1 1 a0).toNatClampNeg).bind (fun b77 =>
        (f_X7_begin T V b77 x1).bind (fun q79 =>
          (T.2.2.1 0 a0).bind (fun b93 =>
            sv_g (sv_inb (((gh_pf q79 1 a0 ((q79.1 1 a0) + 1)).1 1 a0) - 1) (T.2.2.2.1 b93)) (
              match T.2.2.2.2 b93 (((gh_pf q79 1 a0 ((q79.1 1 a0) + 1)).1 1 a0) - 1).toNatClampNeg with
              | none =>
                  some (none, T, gh_pf q79 1 a0 ((q79.1 1 a0) + 1), z)
              | some b102 =>
                  some (some b102, T, gh_pf q79 1 a0 ((q79.1 1 a0) + 1), z)))))))
def f_X2_vesselOf_23 (a0 : Nat) (T : gh_T) (V : gh_V) (z : Nat) (x1 : Int32) : Option (Option Nat × gh_T × gh_V × Nat) :=
  if (V.1 1 a0) < 0 then
    f_X2_vesselOf_39 a0 T V z
  else
    if (V.1 1 a0) < 40 then
      (T.2.2.1 0 a0).bind (fun b42 =>
        sv_g (sv_inb (V.1 1 a0) (T.2.2.2.1 b42)) (
          match T.2.2.2.2 b42 (V.1 1 a0).toNatClampNeg with
          | none =>
              (T.2.2.1 0 a0).bind (fun b54 =>
                (f_X7_init (gh_new T z 7) (gh_nv V z) (z + 1) z).bind (fun q65 =>
                  sv_g (sv_inb (V.1 1 a0) (q65.1.2.2.2.1 b54)) (
                    f_X2_vesselOf_69 a0 (gh_pq q65.1 b54 (V.1 1 a0) (some z)) q65.2.1 q65.2.2 x1)))
          | some b49 =>
              f_X2_vesselOf_69 a0 T V z x1))
    else
      f_X2_vesselOf_39 a0 T V z
def f_X2_vesselOf (T : gh_T) (V : gh_V) (z : Nat) (a0 : Nat) (x1 : Int32) : Option (Option Nat × gh_T × gh_V × Nat) :=
  (f_X2_numberOf T V a0 x1).bind (fun q2 =>
    if q2.1 < 0 then
      f_X2_vesselOf_23 a0 T q2.2 z x1
    else
      if 40 ≤ q2.1 then
        f_X2_vesselOf_23 a0 T q2.2 z x1
      else
        (T.2.2.1 0 a0).bind (fun b17 =>
          sv_g (sv_inb q2.1 (T.2.2.2.1 b17)) (
            match T.2.2.2.2 b17 q2.1.toNatClampNeg with
            | none =>
                some (none, T, q2.2, z)
            | some b21 =>
                some (some b21, T, q2.2, z))))
set_option maxHeartbeats 4000000 in
set_option maxRecDepth 100000 in
theorem e_X2_vesselOf_39 {q : Option Nat × gh_T × gh_V × Nat} {a0 : Nat} (T : gh_T) (V : gh_V) (z : Nat) (hT : gh_ok T) (hz : gh_fr T z) (o_a0 : gh_is T a0 2) (hf : f_X2_vesselOf_39 a0 T V z = some q) : gh_X T z q.2.1 q.2.2.2 := by
  have hx := gh_X.rf hT hz
  rw [f_X2_vesselOf_39] at hf
  cases hf
  exact hx
set_option maxHeartbeats 4000000 in
set_option maxRecDepth 100000 in
theorem w_X2_vesselOf_39 {E : sv_E} {X : sv_X} {q : Option Nat × gh_T × gh_V × Nat} {a0 : Nat} (C : sv_C E X cX2_vesselOf RX2 []) (hZ : sv_Z E X (some (.object "SeaReceiver$Vessel")) (some (va_rf q.1)) (gh_w E q.2.1 q.2.2.1) q.2.2.2 4 90) (hR : sv_R X = { frames := 2, cells := 4, slots := 90, locals := 44 }) (hN : sv_nL X = 3) (T : gh_T) (V : gh_V) (z : Nat) (hT : gh_ok T) (hz : gh_fr T z) (o_a0 : gh_is T a0 2) (hf : f_X2_vesselOf_39 a0 T V z = some q) : sv_J E X (gh_w E T V) z 0 0 39 [] [] := by
  rw [f_X2_vesselOf_39] at hf
  refine sv_null C dX2_vesselOf_39 ?_
  refine sv_widen (k := 4) (n := 90) (by decide) (by decide) ?_
  exact sv_aret C (Or.inl ⟨_, rfl⟩) (Or.inl rfl) (by cases hf; exact hZ) dX2_vesselOf_40
set_option maxHeartbeats 4000000 in
set_option maxRecDepth 100000 in
theorem e_X2_vesselOf_69 {q : Option Nat × gh_T × gh_V × Nat} {a0 : Nat} (T : gh_T) (V : gh_V) (z : Nat) (x1 : Int32) (hT : gh_ok T) (hz : gh_fr T z) (o_a0 : gh_is T a0 2) (hf : f_X2_vesselOf_69 a0 T V z x1 = some q) : gh_X T z q.2.1 q.2.2.2 := by
  have hx := gh_X.rf hT hz
  rw [f_X2_vesselOf_69] at hf
  obtain ⟨b70, hb70, hf⟩ := sv_bind_some hf
  have o_b70 : gh_is T b70 13 := gh_okr hT o_a0 rfl hb70
  obtain ⟨g77, hf⟩ := sv_g_some hf
  obtain ⟨b77, hb77, hf⟩ := sv_bind_some hf
  have o_b77 : gh_is T b77 7 := hT.2.2 _ _ _ o_b70 hb77
  obtain ⟨q79, hc79, hf⟩ := sv_bind_some hf
  obtain ⟨b93, hb93, hf⟩ := sv_bind_some hf
  have o_b93 : gh_is T b93 13 := gh_okr hT o_a0 rfl hb93
  obtain ⟨g102, hf⟩ := sv_g_some hf
  cases hb102 : T.2.2.2.2 b93 (((gh_pf q79 1 a0 ((q79.1 1 a0) + 1)).1 1 a0) - 1).toNatClampNeg with
  | none =>
    rw [hb102] at hf
    cases hf
    exact hx
  | some b102 =>
    rw [hb102] at hf
    have o_b102 : gh_is T b102 7 := hT.2.2 _ _ _ o_b93 hb102
    cases hf
    exact hx
set_option maxHeartbeats 4000000 in
set_option maxRecDepth 100000 in
theorem w_X2_vesselOf_69 {E : sv_E} {X : sv_X} {q : Option Nat × gh_T × gh_V × Nat} {a0 : Nat} (C : sv_C E X cX2_vesselOf RX2 []) (hZ : sv_Z E X (some (.object "SeaReceiver$Vessel")) (some (va_rf q.1)) (gh_w E q.2.1 q.2.2.1) q.2.2.2 4 90) (hR : sv_R X = { frames := 2, cells := 4, slots := 90, locals := 44 }) (hN : sv_nL X = 3) (T : gh_T) (V : gh_V) (z : Nat) (x1 : Int32) (hT : gh_ok T) (hz : gh_fr T z) (o_a0 : gh_is T a0 2) (hf : f_X2_vesselOf_69 a0 T V z x1 = some q) : sv_J E X (gh_w E T V) z 4 90 69 [(0, .ref a0), (1, .int x1)] [] := by
  rw [f_X2_vesselOf_69] at hf
  refine sv_aload_n 0 C dX2_vesselOf_69 rfl rfl ?_
  obtain ⟨b70, hb70, hf⟩ := sv_bind_some hf
  have o_b70 : gh_is T b70 13 := gh_okr hT o_a0 rfl hb70
  refine gh_getr (d := 13) C fl_X2_13 o_a0 (by decide) (by decide) hb70 dX2_vesselOf_70 ?_
  refine sv_aload_n 0 C dX2_vesselOf_73 rfl rfl ?_
  refine gh_geti C fl_X2_17 o_a0 (by decide) (by decide) dX2_vesselOf_74 ?_
  obtain ⟨g77, hf⟩ := sv_g_some hf
  obtain ⟨b77, hb77, hf⟩ := sv_bind_some hf
  have o_b77 : gh_is T b77 7 := hT.2.2 _ _ _ o_b70 hb77
  refine gh_aald (t0 := 5) C o_b70 (by decide) rfl g77 dX2_vesselOf_77 ?_
  rw [hb77]
  show sv_J E X (gh_w E T V) z 4 90 78 [(0, .ref a0), (1, .int x1)] [.ref b77]
  refine sv_iload_n 1 C dX2_vesselOf_78 rfl rfl ?_
  obtain ⟨q79, hc79, hf⟩ := sv_bind_some hf
  refine gh_callV0 C mv_X2_31 (m_X7_begin (sv_l X) E T z _ _ _ _ hc79 hT o_b77) sv_sx0 o_b77 (by decide) rfl rfl rfl (Nat.le_of_ble_eq_true rfl) ⟨by rw [hR]; decide, by rw [hR]; decide⟩ ⟨by rw [hR]; decide, by rw [hR]; decide⟩ dX2_vesselOf_79 ?_
  refine sv_aload_n 0 C dX2_vesselOf_82 rfl rfl ?_
  refine sv_dup C dX2_vesselOf_83 rfl ?_
  refine gh_geti C fl_X2_17 o_a0 (by decide) (by decide) dX2_vesselOf_84 ?_
  refine sv_iconst (v := 1) C dX2_vesselOf_87 (by decide) ?_
  refine sv_iadd C dX2_vesselOf_88 ?_
  refine gh_puti C fl_X2_17 o_a0 (by decide) (by decide) rfl rfl dX2_vesselOf_89 ?_
  refine sv_aload_n 0 C dX2_vesselOf_92 rfl rfl ?_
  obtain ⟨b93, hb93, hf⟩ := sv_bind_some hf
  have o_b93 : gh_is T b93 13 := gh_okr hT o_a0 rfl hb93
  refine gh_getr (d := 13) C fl_X2_13 o_a0 (by decide) (by decide) hb93 dX2_vesselOf_93 ?_
  refine sv_aload_n 0 C dX2_vesselOf_96 rfl rfl ?_
  refine gh_geti C fl_X2_17 o_a0 (by decide) (by decide) dX2_vesselOf_97 ?_
  refine sv_iconst (v := 1) C dX2_vesselOf_100 (by decide) ?_
  refine sv_isub C dX2_vesselOf_101 ?_
  obtain ⟨g102, hf⟩ := sv_g_some hf
  refine gh_aald (t0 := 5) C o_b93 (by decide) rfl g102 dX2_vesselOf_102 ?_
  cases hb102 : T.2.2.2.2 b93 (((gh_pf q79 1 a0 ((q79.1 1 a0) + 1)).1 1 a0) - 1).toNatClampNeg with
  | none =>
    rw [hb102] at hf
    exact sv_aret C (Or.inl ⟨_, rfl⟩) (Or.inl rfl) (by cases hf; exact hZ) dX2_vesselOf_103
  | some b102 =>
    rw [hb102] at hf
    have o_b102 : gh_is T b102 7 := hT.2.2 _ _ _ o_b93 hb102
    exact sv_aret C (Or.inl ⟨_, rfl⟩) (Or.inr ⟨_, rfl⟩) (by cases hf; exact hZ) dX2_vesselOf_103
set_option maxHeartbeats 4000000 in
set_option maxRecDepth 100000 in
theorem e_X2_vesselOf_23 {q : Option Nat × gh_T × gh_V × Nat} {a0 : Nat} (T : gh_T) (V : gh_V) (z : Nat) (x1 : Int32) (hT : gh_ok T) (hz : gh_fr T z) (o_a0 : gh_is T a0 2) (hf : f_X2_vesselOf_23 a0 T V z x1 = some q) : gh_X T z q.2.1 q.2.2.2 := by
  have hx := gh_X.rf hT hz
  rw [f_X2_vesselOf_23] at hf
  rcases (Decidable.em ((V.1 1 a0) < 0)) with c27 | c27
  · replace hf := sv_if_t c27 hf
    exact hx.trans (e_X2_vesselOf_39 _ _ _ hT hz o_a0 hf)
  · replace hf := sv_if_f c27 hf
    rcases (Decidable.em ((V.1 1 a0) < 40)) with c36 | c36
    · replace hf := sv_if_t c36 hf
      obtain ⟨b42, hb42, hf⟩ := sv_bind_some hf
      have o_b42 : gh_is T b42 13 := gh_okr hT o_a0 rfl hb42
      obtain ⟨g49, hf⟩ := sv_g_some hf
      cases hb49 : T.2.2.2.2 b42 (V.1 1 a0).toNatClampNeg with
      | none =>
        rw [hb49] at hf
        obtain ⟨b54, hb54, hf⟩ := sv_bind_some hf
        have o_b54 : gh_is T b54 13 := gh_okr hT o_a0 rfl hb54
        have x61 := gh_X.new (c := 7) hT hz (by decide)
        replace hT := x61.ok
        replace hz := x61.fr
        replace o_a0 := x61.is o_a0
        replace o_b42 := x61.is o_b42
        replace o_b54 := x61.is o_b54
        replace hx := hx.trans x61
        have o_n61 : gh_is (gh_new T z 7) z 7 := gh_is.mk
        obtain ⟨q65, hc65, hf⟩ := sv_bind_some hf
        have x65 := e_X7_init _ _ _ _ _ hc65 hT hz o_n61
        replace hT := x65.ok
        replace hz := x65.fr
        replace o_a0 := x65.is o_a0
        replace o_b42 := x65.is o_b42
        replace o_b54 := x65.is o_b54
        replace o_n61 := x65.is o_n61
        replace hx := hx.trans x65
        obtain ⟨g68, hf⟩ := sv_g_some hf
        have x68 := gh_X.pq (i := (V.1 1 a0)) hT hz o_b54 (Or.inr ⟨rfl, rfl⟩) o_n61
        replace hT := x68.ok
        replace hz := x68.fr
        replace o_a0 := x68.is o_a0
        replace o_b42 := x68.is o_b42
        replace o_b54 := x68.is o_b54
        replace o_n61 := x68.is o_n61
        replace hx := hx.trans x68
        exact hx.trans (e_X2_vesselOf_69 _ _ _ _ hT hz o_a0 hf)
      | some b49 =>
        rw [hb49] at hf
        have o_b49 : gh_is T b49 7 := hT.2.2 _ _ _ o_b42 hb49
        exact hx.trans (e_X2_vesselOf_69 _ _ _ _ hT hz o_a0 hf)
    · replace hf := sv_if_f c36 hf
      exact hx.trans (e_X2_vesselOf_39 _ _ _ hT hz o_a0 hf)
set_option maxHeartbeats 4000000 in
set_option maxRecDepth 100000 in
theorem w_X2_vesselOf_23 {E : sv_E} {X : sv_X} {q : Option Nat × gh_T × gh_V × Nat} {a0 : Nat} (C : sv_C E X cX2_vesselOf RX2 []) (hZ : sv_Z E X (some (.object "SeaReceiver$Vessel")) (some (va_rf q.1)) (gh_w E q.2.1 q.2.2.1) q.2.2.2 4 90) (hR : sv_R X = { frames := 2, cells := 4, slots := 90, locals := 44 }) (hN : sv_nL X = 3) (T : gh_T) (V : gh_V) (z : Nat) (x1 : Int32) (hT : gh_ok T) (hz : gh_fr T z) (o_a0 : gh_is T a0 2) (hf : f_X2_vesselOf_23 a0 T V z x1 = some q) : sv_J E X (gh_w E T V) z 0 0 23 [(0, .ref a0), (1, .int x1)] [] := by
  rw [f_X2_vesselOf_23] at hf
  refine sv_aload_n 0 C dX2_vesselOf_23 rfl rfl ?_
  refine gh_geti C fl_X2_17 o_a0 (by decide) (by decide) dX2_vesselOf_24 ?_
  refine sv_if_lt (tgt := 39) C dX2_vesselOf_27 (by decide) (fun c27 => ?_) (fun c27 => ?_)
  · replace hf := sv_if_t c27 hf
    refine sv_sub (lv' := []) [] rfl ?_
    exact w_X2_vesselOf_39 C hZ hR hN _ _ _ hT hz o_a0 hf
  · replace hf := sv_if_f c27 hf
    refine sv_aload_n 0 C dX2_vesselOf_30 rfl rfl ?_
    refine gh_geti C fl_X2_17 o_a0 (by decide) (by decide) dX2_vesselOf_31 ?_
    refine sv_bipush (v := 40) C dX2_vesselOf_34 (by decide) ?_
    refine sv_icmp_lt (tgt := 41) C dX2_vesselOf_36 (by decide) (fun c36 => ?_) (fun c36 => ?_)
    · replace hf := sv_if_t c36 hf
      refine sv_aload_n 0 C dX2_vesselOf_41 rfl rfl ?_
      obtain ⟨b42, hb42, hf⟩ := sv_bind_some hf
      have o_b42 : gh_is T b42 13 := gh_okr hT o_a0 rfl hb42
      refine gh_getr (d := 13) C fl_X2_13 o_a0 (by decide) (by decide) hb42 dX2_vesselOf_42 ?_
      refine sv_aload_n 0 C dX2_vesselOf_45 rfl rfl ?_
      refine gh_geti C fl_X2_17 o_a0 (by decide) (by decide) dX2_vesselOf_46 ?_
      obtain ⟨g49, hf⟩ := sv_g_some hf
      refine gh_aald (t0 := 5) C o_b42 (by decide) rfl g49 dX2_vesselOf_49 ?_
      cases hb49 : T.2.2.2.2 b42 (V.1 1 a0).toNatClampNeg with
      | none =>
        rw [hb49] at hf
        refine sv_ifnonnullN C dX2_vesselOf_50 ?_
        refine sv_aload_n 0 C dX2_vesselOf_53 rfl rfl ?_
        obtain ⟨b54, hb54, hf⟩ := sv_bind_some hf
        have o_b54 : gh_is T b54 13 := gh_okr hT o_a0 rfl hb54
        refine gh_getr (d := 13) C fl_X2_13 o_a0 (by decide) (by decide) hb54 dX2_vesselOf_54 ?_
        refine sv_aload_n 0 C dX2_vesselOf_57 rfl rfl ?_
        refine gh_geti C fl_X2_17 o_a0 (by decide) (by decide) dX2_vesselOf_58 ?_
        have x61 := gh_X.new (c := 7) hT hz (by decide)
        refine gh_mk C hz cl_X2_11 (by decide) ⟨by rw [hR]; decide, by rw [hR]; decide⟩ dX2_vesselOf_61 ?_
        replace hT := x61.ok
        replace hz := x61.fr
        replace o_a0 := x61.is o_a0
        replace o_b42 := x61.is o_b42
        replace o_b54 := x61.is o_b54
        have o_n61 : gh_is (gh_new T z 7) z 7 := gh_is.mk
        refine sv_dup C dX2_vesselOf_64 rfl ?_
        obtain ⟨q65, hc65, hf⟩ := sv_bind_some hf
        have x65 := e_X7_init _ _ _ _ _ hc65 hT hz o_n61
        refine sv_callIN C mn_X2_30 (m_X7_init (sv_l X) E _ _ _ _ _ hc65 hT hz o_n61) sv_sx0 rfl rfl (Nat.le_of_ble_eq_true rfl) ⟨by rw [hR]; decide, by rw [hR]; decide⟩ ⟨by rw [hR]; decide, by rw [hR]; decide⟩ dX2_vesselOf_65 ?_
        replace hT := x65.ok
        replace hz := x65.fr
        replace o_a0 := x65.is o_a0
        replace o_b42 := x65.is o_b42
        replace o_b54 := x65.is o_b54
        replace o_n61 := x65.is o_n61
        show sv_J E X (gh_w E q65.1 q65.2.1) q65.2.2 4 90 68 [(0, .ref a0), (1, .int x1)] [.ref z, .int (V.1 1 a0), .ref b54]
        obtain ⟨g68, hf⟩ := sv_g_some hf
        have x68 := gh_X.pq (i := (V.1 1 a0)) hT hz o_b54 (Or.inr ⟨rfl, rfl⟩) o_n61
        refine gh_aast C o_b54 (by decide) o_n61 (by decide) rfl rfl g68 dX2_vesselOf_68 ?_
        replace hT := x68.ok
        replace hz := x68.fr
        replace o_a0 := x68.is o_a0
        replace o_b42 := x68.is o_b42
        replace o_b54 := x68.is o_b54
        replace o_n61 := x68.is o_n61
        refine sv_sub (lv' := [(0, .ref a0), (1, .int x1)]) [0, 1] rfl ?_
        exact w_X2_vesselOf_69 C hZ hR hN _ _ _ _ hT hz o_a0 hf
      | some b49 =>
        rw [hb49] at hf
        have o_b49 : gh_is T b49 7 := hT.2.2 _ _ _ o_b42 hb49
        refine sv_ifnonnull (tgt := 69) C dX2_vesselOf_50 (by decide) ?_
        refine sv_sub (lv' := [(0, .ref a0), (1, .int x1)]) [0, 1] rfl ?_
        refine sv_widen (k := 4) (n := 90) (by decide) (by decide) ?_
        exact w_X2_vesselOf_69 C hZ hR hN _ _ _ _ hT hz o_a0 hf
    · replace hf := sv_if_f c36 hf
      refine sv_sub (lv' := []) [] rfl ?_
      exact w_X2_vesselOf_39 C hZ hR hN _ _ _ hT hz o_a0 hf
set_option maxHeartbeats 4000000 in
set_option maxRecDepth 100000 in
theorem e_X2_vesselOf (T : gh_T) (V : gh_V) (z : Nat) (a0 : Nat) (x1 : Int32) (q : Option Nat × gh_T × gh_V × Nat) (hf : f_X2_vesselOf T V z a0 x1 = some q) (hT : gh_ok T) (hz : gh_fr T z) (o_a0 : gh_is T a0 2) : gh_X T z q.2.1 q.2.2.2 := by
  have hx := gh_X.rf hT hz
  rw [f_X2_vesselOf] at hf
  obtain ⟨q2, hc2, hf⟩ := sv_bind_some hf
  rcases (Decidable.em (q2.1 < 0)) with c7 | c7
  · replace hf := sv_if_t c7 hf
    exact hx.trans (e_X2_vesselOf_23 _ _ _ _ hT hz o_a0 hf)
  · replace hf := sv_if_f c7 hf
    rcases (Decidable.em (40 ≤ q2.1)) with c13 | c13
    · replace hf := sv_if_t c13 hf
      exact hx.trans (e_X2_vesselOf_23 _ _ _ _ hT hz o_a0 hf)
    · replace hf := sv_if_f c13 hf
      obtain ⟨b17, hb17, hf⟩ := sv_bind_some hf
      have o_b17 : gh_is T b17 13 := gh_okr hT o_a0 rfl hb17
      obtain ⟨g21, hf⟩ := sv_g_some hf
      cases hb21 : T.2.2.2.2 b17 q2.1.toNatClampNeg with
      | none =>
        rw [hb21] at hf
        cases hf
        exact hx
      | some b21 =>
        rw [hb21] at hf
        have o_b21 : gh_is T b21 7 := hT.2.2 _ _ _ o_b17 hb21
        cases hf
        exact hx
set_option maxHeartbeats 4000000 in
set_option maxRecDepth 100000 in
theorem m_X2_vesselOf (l : Launch) (E : sv_E) (T : gh_T) (V : gh_V) (z : Nat) (a0 : Nat) (x1 : Int32) (q : Option Nat × gh_T × gh_V × Nat) (hf : f_X2_vesselOf T V z a0 x1 = some q) (hT : gh_ok T) (hz : gh_fr T z) (o_a0 : gh_is T a0 2) : sv_Met l E yX2_vesselOf cX2_vesselOf 3 (some (.object "SeaReceiver$Vessel")) 2 44 [] [.ref a0, .int x1] (gh_w E T V) z (some (va_rf q.1)) (gh_w E q.2.1 q.2.2.1) q.2.2.2 4 90 := by
  refine sv_ofJ (by decide) (Nat.le_of_ble_eq_true rfl) ?_
  intro X hX hN hnm hR C hZ
  replace C : sv_C E X cX2_vesselOf RX2 [] := C
  show sv_J E X (gh_w E T V) z 0 0 0 [(0, .ref a0), (1, .int x1)] []
  rw [f_X2_vesselOf] at hf
  refine sv_aload_n 0 C dX2_vesselOf_0 rfl rfl ?_
  refine sv_iload_n 1 C dX2_vesselOf_1 rfl rfl ?_
  obtain ⟨q2, hc2, hf⟩ := sv_bind_some hf
  refine gh_callV0 C mv_X2_26 (m_X2_numberOf (sv_l X) E T z _ _ _ _ hc2 hT o_a0) sv_sx0 o_a0 (by decide) rfl rfl rfl (Nat.le_of_ble_eq_true rfl) ⟨by rw [hR]; decide, by rw [hR]; decide⟩ ⟨by rw [hR]; decide, by rw [hR]; decide⟩ dX2_vesselOf_2 ?_
  refine sv_istore_n (lv' := [(2, .int q2.1), (0, .ref a0), (1, .int x1)]) C dX2_vesselOf_5 rfl (by rw [hN]; decide) rfl ?_
  refine sv_iload_n 0 C dX2_vesselOf_6 rfl rfl ?_
  refine sv_if_lt (tgt := 23) C dX2_vesselOf_7 (by decide) (fun c7 => ?_) (fun c7 => ?_)
  · replace hf := sv_if_t c7 hf
    refine sv_sub (lv' := [(0, .ref a0), (1, .int x1)]) [1, 2] rfl ?_
    exact w_X2_vesselOf_23 C hZ hR hN _ _ _ _ hT hz o_a0 hf
  · replace hf := sv_if_f c7 hf
    refine sv_iload_n 0 C dX2_vesselOf_10 rfl rfl ?_
    refine sv_bipush (v := 40) C dX2_vesselOf_11 (by decide) ?_
    refine sv_icmp_ge (tgt := 23) C dX2_vesselOf_13 (by decide) (fun c13 => ?_) (fun c13 => ?_)
    · replace hf := sv_if_t c13 hf
      refine sv_sub (lv' := [(0, .ref a0), (1, .int x1)]) [1, 2] rfl ?_
      exact w_X2_vesselOf_23 C hZ hR hN _ _ _ _ hT hz o_a0 hf
    · replace hf := sv_if_f c13 hf
      refine sv_aload_n 1 C dX2_vesselOf_16 rfl rfl ?_
      obtain ⟨b17, hb17, hf⟩ := sv_bind_some hf
      have o_b17 : gh_is T b17 13 := gh_okr hT o_a0 rfl hb17
      refine gh_getr (d := 13) C fl_X2_13 o_a0 (by decide) (by decide) hb17 dX2_vesselOf_17 ?_
      refine sv_iload_n 0 C dX2_vesselOf_20 rfl rfl ?_
      obtain ⟨g21, hf⟩ := sv_g_some hf
      refine gh_aald (t0 := 5) C o_b17 (by decide) rfl g21 dX2_vesselOf_21 ?_
      cases hb21 : T.2.2.2.2 b17 q2.1.toNatClampNeg with
      | none =>
        rw [hb21] at hf
        refine sv_widen (k := 4) (n := 90) (by decide) (by decide) ?_
        exact sv_aret C (Or.inl ⟨_, rfl⟩) (Or.inl rfl) (by cases hf; exact hZ) dX2_vesselOf_22
      | some b21 =>
        rw [hb21] at hf
        have o_b21 : gh_is T b21 7 := hT.2.2 _ _ _ o_b17 hb21
        refine sv_widen (k := 4) (n := 90) (by decide) (by decide) ?_
        exact sv_aret C (Or.inl ⟨_, rfl⟩) (Or.inr ⟨_, rfl⟩) (by cases hf; exact hZ) dX2_vesselOf_22
def f_X8_receive_48 (a0 : Nat) (T : gh_T) (V : gh_V) (z : Nat) : Option (gh_T × gh_V × Nat) :=
  (T.2.2.1 0 a0).bind (fun b49 =>
    sv_g (sv_inb (6 : Int32) (T.2.2.2.1 b49)) (
      sv_g (sv_inb (6 : Int32) (T.2.2.2.1 b49)) (
        some (T, gh_pa V b49 6 ((V.2 b49 (6 : Int32).toNatClampNeg) + 1), z))))
def f_X8_receive_27 (a0 : Nat) (T : gh_T) (V : gh_V) (z : Nat) (s0 : Int32) : Option (gh_T × gh_V × Nat) :=
  if s0 = (-2147483648) then
    f_X8_receive_48 a0 T V z
  else
    (f_X7_bitsOf T V s0).bind (fun q35 =>
      (T.2.2.1 7 a0).bind (fun b39 =>
        if q35.1 = (q35.2.1 2 b39) then
          (T.2.2.1 0 a0).bind (fun b61 =>
            sv_g (sv_inb (5 : Int32) (T.2.2.2.1 b61)) (
              sv_g (sv_inb (5 : Int32) (T.2.2.2.1 b61)) (
                (T.2.2.1 8 a0).bind (fun b71 =>
                  (T.2.2.1 7 a0).bind (fun b75 =>
                    (f_X0_read T (gh_pa q35.2 b61 5 ((q35.2.2 b61 (5 : Int32).toNatClampNeg) + 1)) b75 8 30).bind (fun q82 =>
                      (f_X2_vesselOf T q82.2 z b71 q82.1).bind (fun q85 =>
                        match q85.1 with
                        | none =>
                            (q85.2.1.2.2.1 0 a0).bind (fun b94 =>
                              sv_g (sv_inb (8 : Int32) (q85.2.1.2.2.2.1 b94)) (
                                sv_g (sv_inb (8 : Int32) (q85.2.1.2.2.2.1 b94)) (
                                  some (q85.2.1, gh_pa q85.2.2.1 b94 8 ((q85.2.2.1.2 b94 (8 : Int32).toNatClampNeg) + 1), q85.2.2.2))))
                        | some b85 =>
                          sv_g (gh_isb q85.2.1 b85 7) (
                            (q85.2.1.2.2.1 7 a0).bind (fun b108 =>
                              (f_X7_learn q85.2.1 q85.2.2.1 b85 s0 b108).bind (fun q111 =>
                                some (q85.2.1, q111, q85.2.2.2)))))))))))
        else
          f_X8_receive_48 a0 T q35.2 z))
def f_X8_receive (T : gh_T) (V : gh_V) (z : Nat) (a0 : Nat) : Option (gh_T × gh_V × Nat) :=
  (T.2.2.1 7 a0).bind (fun b1 =>
    if 38 ≤ (V.1 2 b1) then
      (T.2.2.1 7 a0).bind (fun b18 =>
        (f_X0_read T V b18 0 6).bind (fun q24 =>
          f_X8_receive_27 a0 T q24.2 z q24.1))
    else
      f_X8_receive_27 a0 T V z (-2147483648))
set_option maxHeartbeats 4000000 in
set_option maxRecDepth 100000 in
theorem e_X8_receive_48 {q : gh_T × gh_V × Nat} {a0 : Nat} (T : gh_T) (V : gh_V) (z : Nat) (hT : gh_ok T) (hz : gh_fr T z) (o_a0 : gh_is T a0 8) (hf : f_X8_receive_48 a0 T V z = some q) : gh_X T z q.1 q.2.2 := by
  have hx := gh_X.rf hT hz
  rw [f_X8_receive_48] at hf
  obtain ⟨b49, hb49, hf⟩ := sv_bind_some hf
  have o_b49 : gh_is T b49 10 := gh_okr hT o_a0 rfl hb49
  obtain ⟨g55, hf⟩ := sv_g_some hf
  obtain ⟨g58, hf⟩ := sv_g_some hf
  cases hf
  exact hx
set_option maxHeartbeats 4000000 in
set_option maxRecDepth 100000 in
theorem w_X8_receive_48 {E : sv_E} {X : sv_X} {q : gh_T × gh_V × Nat} {a0 : Nat} (C : sv_C E X cX8_receive RX8 []) (hZ : sv_Z E X none none (gh_w E q.1 q.2.1) q.2.2 4 90) (hR : sv_R X = { frames := 3, cells := 4, slots := 90, locals := 80 }) (hN : sv_nL X = 3) (T : gh_T) (V : gh_V) (z : Nat) (hT : gh_ok T) (hz : gh_fr T z) (o_a0 : gh_is T a0 8) (hf : f_X8_receive_48 a0 T V z = some q) : sv_J E X (gh_w E T V) z 0 0 48 [(0, .ref a0)] [] := by
  rw [f_X8_receive_48] at hf
  refine sv_aload_n 0 C dX8_receive_48 rfl rfl ?_
  obtain ⟨b49, hb49, hf⟩ := sv_bind_some hf
  have o_b49 : gh_is T b49 10 := gh_okr hT o_a0 rfl hb49
  refine gh_getr (d := 10) C fl_X8_9 o_a0 (by decide) (by decide) hb49 dX8_receive_49 ?_
  refine sv_bipush (v := 6) C dX8_receive_52 (by decide) ?_
  refine sv_dup2 C dX8_receive_54 rfl rfl ?_
  obtain ⟨g55, hf⟩ := sv_g_some hf
  refine gh_iald C o_b49 g55 dX8_receive_55 ?_
  refine sv_iconst (v := 1) C dX8_receive_56 (by decide) ?_
  refine sv_iadd C dX8_receive_57 ?_
  obtain ⟨g58, hf⟩ := sv_g_some hf
  refine gh_iast C o_b49 g58 dX8_receive_58 ?_
  refine sv_widen (k := 4) (n := 90) (by decide) (by decide) ?_
  exact sv_vret C (by cases hf; exact hZ) dX8_receive_59
set_option maxHeartbeats 4000000 in
set_option maxRecDepth 100000 in
theorem e_X8_receive_27 {q : gh_T × gh_V × Nat} {a0 : Nat} (T : gh_T) (V : gh_V) (z : Nat) (s0 : Int32) (hT : gh_ok T) (hz : gh_fr T z) (o_a0 : gh_is T a0 8) (hf : f_X8_receive_27 a0 T V z s0 = some q) : gh_X T z q.1 q.2.2 := by
  have hx := gh_X.rf hT hz
  rw [f_X8_receive_27] at hf
  rcases (Decidable.em (s0 = (-2147483648))) with c31 | c31
  · replace hf := sv_if_t c31 hf
    exact hx.trans (e_X8_receive_48 _ _ _ hT hz o_a0 hf)
  · replace hf := sv_if_f c31 hf
    obtain ⟨q35, hc35, hf⟩ := sv_bind_some hf
    obtain ⟨b39, hb39, hf⟩ := sv_bind_some hf
    have o_b39 : gh_is T b39 0 := gh_okr hT o_a0 rfl hb39
    rcases (Decidable.em (q35.1 = (q35.2.1 2 b39))) with c45 | c45
    · replace hf := sv_if_t c45 hf
      obtain ⟨b61, hb61, hf⟩ := sv_bind_some hf
      have o_b61 : gh_is T b61 10 := gh_okr hT o_a0 rfl hb61
      obtain ⟨g66, hf⟩ := sv_g_some hf
      obtain ⟨g69, hf⟩ := sv_g_some hf
      obtain ⟨b71, hb71, hf⟩ := sv_bind_some hf
      have o_b71 : gh_is T b71 2 := gh_okr hT o_a0 rfl hb71
      obtain ⟨b75, hb75, hf⟩ := sv_bind_some hf
      have o_b75 : gh_is T b75 0 := gh_okr hT o_a0 rfl hb75
      obtain ⟨q82, hc82, hf⟩ := sv_bind_some hf
      obtain ⟨q85, hc85, hf⟩ := sv_bind_some hf
      have x85 := e_X2_vesselOf _ _ _ _ _ _ hc85 hT hz o_b71
      replace hT := x85.ok
      replace hz := x85.fr
      replace o_a0 := x85.is o_a0
      replace o_b39 := x85.is o_b39
      replace o_b61 := x85.is o_b61
      replace o_b71 := x85.is o_b71
      replace o_b75 := x85.is o_b75
      replace hx := hx.trans x85
      cases hb85 : q85.1 with
      | none =>
        rw [hb85] at hf
        obtain ⟨b94, hb94, hf⟩ := sv_bind_some hf
        have o_b94 : gh_is q85.2.1 b94 10 := gh_okr hT o_a0 rfl hb94
        obtain ⟨g100, hf⟩ := sv_g_some hf
        obtain ⟨g103, hf⟩ := sv_g_some hf
        cases hf
        exact hx
      | some b85 =>
        rw [hb85] at hf
        obtain ⟨g85, hf⟩ := sv_g_some hf
        have o_b85 : gh_is q85.2.1 b85 7 := gh_isb_is g85
        obtain ⟨b108, hb108, hf⟩ := sv_bind_some hf
        have o_b108 : gh_is q85.2.1 b108 0 := gh_okr hT o_a0 rfl hb108
        obtain ⟨q111, hc111, hf⟩ := sv_bind_some hf
        cases hf
        exact hx
    · replace hf := sv_if_f c45 hf
      exact hx.trans (e_X8_receive_48 _ _ _ hT hz o_a0 hf)
set_option maxHeartbeats 4000000 in
set_option maxRecDepth 100000 in
theorem w_X8_receive_27 {E : sv_E} {X : sv_X} {q : gh_T × gh_V × Nat} {a0 : Nat} (C : sv_C E X cX8_receive RX8 []) (hZ : sv_Z E X none none (gh_w E q.1 q.2.1) q.2.2 4 90) (hR : sv_R X = { frames := 3, cells := 4, slots := 90, locals := 80 }) (hN : sv_nL X = 3) (T : gh_T) (V : gh_V) (z : Nat) (s0 : Int32) (hT : gh_ok T) (hz : gh_fr T z) (o_a0 : gh_is T a0 8) (hf : f_X8_receive_27 a0 T V z s0 = some q) : sv_J E X (gh_w E T V) z 0 0 27 [(0, .ref a0)] [.int s0] := by
  rw [f_X8_receive_27] at hf
  refine sv_istore_n (lv' := [(1, .int s0), (0, .ref a0)]) C dX8_receive_27 rfl (by rw [hN]; decide) rfl ?_
  refine sv_iload_n 0 C dX8_receive_28 rfl rfl ?_
  refine sv_ldc C kw_397 dX8_receive_29 ?_
  refine sv_icmp_eq (tgt := 48) C dX8_receive_31 (by decide) (fun c31 => ?_) (fun c31 => ?_)
  · replace hf := sv_if_t c31 hf
    refine sv_sub (lv' := [(0, .ref a0)]) [1] rfl ?_
    exact w_X8_receive_48 C hZ hR hN _ _ _ hT hz o_a0 hf
  · replace hf := sv_if_f c31 hf
    refine sv_iload_n 0 C dX8_receive_34 rfl rfl ?_
    obtain ⟨q35, hc35, hf⟩ := sv_bind_some hf
    refine sv_callS0 C ms_X8_256 (m_X7_bitsOf (sv_l X) E T z _ _ _ hc35 hT) sv_sx0 rfl rfl (Nat.le_of_ble_eq_true rfl) ⟨by rw [hR]; decide, by rw [hR]; decide⟩ ⟨by rw [hR]; decide, by rw [hR]; decide⟩ dX8_receive_35 ?_
    refine sv_aload_n 1 C dX8_receive_38 rfl rfl ?_
    obtain ⟨b39, hb39, hf⟩ := sv_bind_some hf
    have o_b39 : gh_is T b39 0 := gh_okr hT o_a0 rfl hb39
    refine gh_getr (d := 0) C fl_X8_56 o_a0 (by decide) (by decide) hb39 dX8_receive_39 ?_
    refine gh_geti C fl_X8_132 o_b39 (by decide) (by decide) dX8_receive_42 ?_
    refine sv_icmp_eq (tgt := 60) C dX8_receive_45 (by decide) (fun c45 => ?_) (fun c45 => ?_)
    · replace hf := sv_if_t c45 hf
      refine sv_aload_n 1 C dX8_receive_60 rfl rfl ?_
      obtain ⟨b61, hb61, hf⟩ := sv_bind_some hf
      have o_b61 : gh_is T b61 10 := gh_okr hT o_a0 rfl hb61
      refine gh_getr (d := 10) C fl_X8_9 o_a0 (by decide) (by decide) hb61 dX8_receive_61 ?_
      refine sv_iconst (v := 5) C dX8_receive_64 (by decide) ?_
      refine sv_dup2 C dX8_receive_65 rfl rfl ?_
      obtain ⟨g66, hf⟩ := sv_g_some hf
      refine gh_iald C o_b61 g66 dX8_receive_66 ?_
      refine sv_iconst (v := 1) C dX8_receive_67 (by decide) ?_
      refine sv_iadd C dX8_receive_68 ?_
      obtain ⟨g69, hf⟩ := sv_g_some hf
      refine gh_iast C o_b61 g69 dX8_receive_69 ?_
      refine sv_aload_n 1 C dX8_receive_70 rfl rfl ?_
      obtain ⟨b71, hb71, hf⟩ := sv_bind_some hf
      have o_b71 : gh_is T b71 2 := gh_okr hT o_a0 rfl hb71
      refine gh_getr (d := 2) C fl_X8_63 o_a0 (by decide) (by decide) hb71 dX8_receive_71 ?_
      refine sv_aload_n 1 C dX8_receive_74 rfl rfl ?_
      obtain ⟨b75, hb75, hf⟩ := sv_bind_some hf
      have o_b75 : gh_is T b75 0 := gh_okr hT o_a0 rfl hb75
      refine gh_getr (d := 0) C fl_X8_56 o_a0 (by decide) (by decide) hb75 dX8_receive_75 ?_
      refine sv_bipush (v := 8) C dX8_receive_78 (by decide) ?_
      refine sv_bipush (v := 30) C dX8_receive_80 (by decide) ?_
      obtain ⟨q82, hc82, hf⟩ := sv_bind_some hf
      refine gh_callV0 C mv_X8_137 (m_X0_read (sv_l X) E T z _ _ _ _ _ hc82 hT o_b75) sv_sx0 o_b75 (by decide) rfl rfl rfl (Nat.le_of_ble_eq_true rfl) ⟨by rw [hR]; decide, by rw [hR]; decide⟩ ⟨by rw [hR]; decide, by rw [hR]; decide⟩ dX8_receive_82 ?_
      obtain ⟨q85, hc85, hf⟩ := sv_bind_some hf
      have x85 := e_X2_vesselOf _ _ _ _ _ _ hc85 hT hz o_b71
      refine gh_callV C mv_X8_259 (m_X2_vesselOf (sv_l X) E _ _ _ _ _ _ hc85 hT hz o_b71) sv_sx0 o_b71 (by decide) rfl rfl rfl (Nat.le_of_ble_eq_true rfl) ⟨by rw [hR]; decide, by rw [hR]; decide⟩ ⟨by rw [hR]; decide, by rw [hR]; decide⟩ dX8_receive_85 ?_
      replace hT := x85.ok
      replace hz := x85.fr
      replace o_a0 := x85.is o_a0
      replace o_b39 := x85.is o_b39
      replace o_b61 := x85.is o_b61
      replace o_b71 := x85.is o_b71
      replace o_b75 := x85.is o_b75
      cases hb85 : q85.1 with
      | none =>
        rw [hb85] at hf
        show sv_J E X (gh_w E q85.2.1 q85.2.2.1) q85.2.2.2 4 90 88 [(1, .int s0), (0, .ref a0)] [.null]
        refine sv_astore_nN (lv' := [(2, .null), (1, .int s0), (0, .ref a0)]) C dX8_receive_88 rfl (by rw [hN]; decide) rfl ?_
        refine sv_aload_nN 0 C dX8_receive_89 rfl rfl ?_
        refine sv_ifnonnullN C dX8_receive_90 ?_
        refine sv_aload_n 2 C dX8_receive_93 rfl rfl ?_
        obtain ⟨b94, hb94, hf⟩ := sv_bind_some hf
        have o_b94 : gh_is q85.2.1 b94 10 := gh_okr hT o_a0 rfl hb94
        refine gh_getr (d := 10) C fl_X8_9 o_a0 (by decide) (by decide) hb94 dX8_receive_94 ?_
        refine sv_bipush (v := 8) C dX8_receive_97 (by decide) ?_
        refine sv_dup2 C dX8_receive_99 rfl rfl ?_
        obtain ⟨g100, hf⟩ := sv_g_some hf
        refine gh_iald C o_b94 g100 dX8_receive_100 ?_
        refine sv_iconst (v := 1) C dX8_receive_101 (by decide) ?_
        refine sv_iadd C dX8_receive_102 ?_
        obtain ⟨g103, hf⟩ := sv_g_some hf
        refine gh_iast C o_b94 g103 dX8_receive_103 ?_
        exact sv_vret C (by cases hf; exact hZ) dX8_receive_104
      | some b85 =>
        rw [hb85] at hf
        obtain ⟨g85, hf⟩ := sv_g_some hf
        have o_b85 : gh_is q85.2.1 b85 7 := gh_isb_is g85
        show sv_J E X (gh_w E q85.2.1 q85.2.2.1) q85.2.2.2 4 90 88 [(1, .int s0), (0, .ref a0)] [.ref b85]
        refine sv_astore_n (lv' := [(2, .ref b85), (1, .int s0), (0, .ref a0)]) C dX8_receive_88 rfl (by rw [hN]; decide) rfl ?_
        refine sv_aload_n 0 C dX8_receive_89 rfl rfl ?_
        refine sv_ifnonnull (tgt := 105) C dX8_receive_90 (by decide) ?_
        refine sv_aload_n 0 C dX8_receive_105 rfl rfl ?_
        refine sv_iload_n 1 C dX8_receive_106 rfl rfl ?_
        refine sv_aload_n 2 C dX8_receive_107 rfl rfl ?_
        obtain ⟨b108, hb108, hf⟩ := sv_bind_some hf
        have o_b108 : gh_is q85.2.1 b108 0 := gh_okr hT o_a0 rfl hb108
        refine gh_getr (d := 0) C fl_X8_56 o_a0 (by decide) (by decide) hb108 dX8_receive_108 ?_
        obtain ⟨q111, hc111, hf⟩ := sv_bind_some hf
        refine gh_callV0 C mv_X8_262 (m_X7_learn (sv_l X) E q85.2.1 q85.2.2.2 _ _ _ _ _ hc111 hT o_b85 o_b108) sv_sx0 o_b85 (by decide) rfl rfl rfl (Nat.le_of_ble_eq_true rfl) ⟨by rw [hR]; decide, by rw [hR]; decide⟩ ⟨by rw [hR]; decide, by rw [hR]; decide⟩ dX8_receive_111 ?_
        exact sv_vret C (by cases hf; exact hZ) dX8_receive_114
    · replace hf := sv_if_f c45 hf
      refine sv_sub (lv' := [(0, .ref a0)]) [1] rfl ?_
      exact w_X8_receive_48 C hZ hR hN _ _ _ hT hz o_a0 hf
set_option maxHeartbeats 4000000 in
set_option maxRecDepth 100000 in
theorem e_X8_receive (T : gh_T) (V : gh_V) (z : Nat) (a0 : Nat) (q : gh_T × gh_V × Nat) (hf : f_X8_receive T V z a0 = some q) (hT : gh_ok T) (hz : gh_fr T z) (o_a0 : gh_is T a0 8) : gh_X T z q.1 q.2.2 := by
  have hx := gh_X.rf hT hz
  rw [f_X8_receive] at hf
  obtain ⟨b1, hb1, hf⟩ := sv_bind_some hf
  have o_b1 : gh_is T b1 0 := gh_okr hT o_a0 rfl hb1
  rcases (Decidable.em (38 ≤ (V.1 2 b1))) with c9 | c9
  · replace hf := sv_if_t c9 hf
    obtain ⟨b18, hb18, hf⟩ := sv_bind_some hf
    have o_b18 : gh_is T b18 0 := gh_okr hT o_a0 rfl hb18
    obtain ⟨q24, hc24, hf⟩ := sv_bind_some hf
    exact hx.trans (e_X8_receive_27 _ _ _ _ hT hz o_a0 hf)
  · replace hf := sv_if_f c9 hf
    exact hx.trans (e_X8_receive_27 _ _ _ _ hT hz o_a0 hf)
set_option maxHeartbeats 4000000 in
set_option maxRecDepth 100000 in
theorem m_X8_receive (l : Launch) (E : sv_E) (T : gh_T) (V : gh_V) (z : Nat) (a0 : Nat) (q : gh_T × gh_V × Nat) (hf : f_X8_receive T V z a0 = some q) (hT : gh_ok T) (hz : gh_fr T z) (o_a0 : gh_is T a0 8) : sv_Met l E yX8_receive cX8_receive 3 none 3 80 [] [.ref a0] (gh_w E T V) z none (gh_w E q.1 q.2.1) q.2.2 4 90 := by
  refine sv_ofJ (by decide) (Nat.le_of_ble_eq_true rfl) ?_
  intro X hX hN hnm hR C hZ
  replace C : sv_C E X cX8_receive RX8 [] := C
  show sv_J E X (gh_w E T V) z 0 0 0 [(0, .ref a0)] []
  rw [f_X8_receive] at hf
  refine sv_aload_n 0 C dX8_receive_0 rfl rfl ?_
  obtain ⟨b1, hb1, hf⟩ := sv_bind_some hf
  have o_b1 : gh_is T b1 0 := gh_okr hT o_a0 rfl hb1
  refine gh_getr (d := 0) C fl_X8_56 o_a0 (by decide) (by decide) hb1 dX8_receive_1 ?_
  refine gh_geti C fl_X8_132 o_b1 (by decide) (by decide) dX8_receive_4 ?_
  refine sv_bipush (v := 38) C dX8_receive_7 (by decide) ?_
  refine sv_icmp_ge (tgt := 17) C dX8_receive_9 (by decide) (fun c9 => ?_) (fun c9 => ?_)
  · replace hf := sv_if_t c9 hf
    refine sv_aload_n 0 C dX8_receive_17 rfl rfl ?_
    obtain ⟨b18, hb18, hf⟩ := sv_bind_some hf
    have o_b18 : gh_is T b18 0 := gh_okr hT o_a0 rfl hb18
    refine gh_getr (d := 0) C fl_X8_56 o_a0 (by decide) (by decide) hb18 dX8_receive_18 ?_
    refine sv_iconst (v := 0) C dX8_receive_21 (by decide) ?_
    refine sv_bipush (v := 6) C dX8_receive_22 (by decide) ?_
    obtain ⟨q24, hc24, hf⟩ := sv_bind_some hf
    refine gh_callV0 C mv_X8_137 (m_X0_read (sv_l X) E T z _ _ _ _ _ hc24 hT o_b18) sv_sx0 o_b18 (by decide) rfl rfl rfl (Nat.le_of_ble_eq_true rfl) ⟨by rw [hR]; decide, by rw [hR]; decide⟩ ⟨by rw [hR]; decide, by rw [hR]; decide⟩ dX8_receive_24 ?_
    refine sv_sub (lv' := [(0, .ref a0)]) [0] rfl ?_
    exact w_X8_receive_27 C hZ hR hN _ _ _ _ hT hz o_a0 hf
  · replace hf := sv_if_f c9 hf
    refine sv_ldc C kw_397 dX8_receive_12 ?_
    refine sv_goto (tgt := 27) C dX8_receive_14 (by decide) ?_
    refine sv_sub (lv' := [(0, .ref a0)]) [0] rfl ?_
    exact w_X8_receive_27 C hZ hR hN _ _ _ _ hT hz o_a0 hf
def f_X8_takePart_64 (a0 : Nat) (T : gh_T) (V : gh_V) (z : Nat) (x1 : Int32) (x2 : Int32) (s0 : Int32) : Option (Int32 × gh_T × gh_V × Nat) :=
  (T.2.2.1 4 a0).bind (fun b66 =>
    (f_X1_oneOf T V b66 4 ([65, 66, 49, 50])).bind (fun q72 =>
      (T.2.2.1 4 a0).bind (fun b77 =>
        (f_X1_checkPack T q72.2 b77 5).bind (fun q81 =>
          (T.2.2.1 4 a0).bind (fun b85 =>
            (f_X1_digit T q81 b85 6 0 5).bind (fun q92 =>
              (T.2.2.1 4 a0).bind (fun b98 =>
                if (q92.2.1 3 b98) = 0 then
                  some (0, T, q92.2, z)
                else
                  (f_X8_isInOrder T q92.2 a0 s0 x1 x2).bind (fun q113 =>
                    if q113.1 = 0 then
                      some (1, T, q113.2, z)
                    else
                      (T.2.2.1 6 a0).bind (fun b120 =>
                        (f_X3_keep T q113.2 z b120 s0 x1).bind (fun q125 =>
                          match q125.1 with
                          | none =>
                              (q125.2.1.2.2.1 4 a0).bind (fun b131 =>
                                none)
                          | some b125 =>
                            sv_g (gh_isb q125.2.1 b125 0) (
                              (q125.2.1.2.2.1 4 a0).bind (fun b131 =>
                                (f_X1_unpack q125.2.1 q125.2.2.1 b131 5 q92.1 b125).bind (fun q139 =>
                                  if x2 = x1 then
                                    (q125.2.1.2.2.1 7 a0).bind (fun b148 =>
                                      (f_X0_copy q125.2.1 q139 b148 b125).bind (fun q153 =>
                                        (q125.2.1.2.2.1 6 a0).bind (fun b157 =>
                                          (f_X3_drop q125.2.1 q153 b157 s0).bind (fun q161 =>
                                            (f_X8_receive q125.2.1 q161.2 q125.2.2.2 a0).bind (fun q166 =>
                                              some (1, q166.1, q166.2.1, q166.2.2))))))
                                  else
                                    some (1, q125.2.1, q139, q125.2.2.2))))))))))))))
def f_X8_takePart (T : gh_T) (V : gh_V) (z : Nat) (a0 : Nat) : Option (Int32 × gh_T × gh_V × Nat) :=
  (T.2.2.1 4 a0).bind (fun b1 =>
    if (V.1 2 b1) = 7 then
      (T.2.2.1 4 a0).bind (fun b15 =>
        (f_X1_digit T V b15 1 1 9).bind (fun q22 =>
          (T.2.2.1 4 a0).bind (fun b27 =>
            (f_X1_digit T q22.2 b27 2 1 q22.1).bind (fun q33 =>
              (T.2.2.1 4 a0).bind (fun b38 =>
                (f_X1_isEmpty T q33.2 b38 3).bind (fun q42 =>
                  if q42.1 = 0 then
                    (T.2.2.1 4 a0).bind (fun b54 =>
                      (f_X1_digit T q42.2 b54 3 0 9).bind (fun q61 =>
                        f_X8_takePart_64 a0 T q61.2 z q22.1 q33.1 q61.1))
                  else
                    f_X8_takePart_64 a0 T q42.2 z q22.1 q33.1 10))))))
    else
      some (0, T, V, z))
set_option maxHeartbeats 4000000 in
set_option maxRecDepth 100000 in
theorem e_X8_takePart_64 {q : Int32 × gh_T × gh_V × Nat} {a0 : Nat} (T : gh_T) (V : gh_V) (z : Nat) (x1 : Int32) (x2 : Int32) (s0 : Int32) (hT : gh_ok T) (hz : gh_fr T z) (o_a0 : gh_is T a0 8) (hf : f_X8_takePart_64 a0 T V z x1 x2 s0 = some q) : gh_X T z q.2.1 q.2.2.2 := by
  have hx := gh_X.rf hT hz
  rw [f_X8_takePart_64] at hf
  obtain ⟨b66, hb66, hf⟩ := sv_bind_some hf
  have o_b66 : gh_is T b66 1 := gh_okr hT o_a0 rfl hb66
  obtain ⟨q72, hc72, hf⟩ := sv_bind_some hf
  obtain ⟨b77, hb77, hf⟩ := sv_bind_some hf
  have o_b77 : gh_is T b77 1 := gh_okr hT o_a0 rfl hb77
  obtain ⟨q81, hc81, hf⟩ := sv_bind_some hf
  obtain ⟨b85, hb85, hf⟩ := sv_bind_some hf
  have o_b85 : gh_is T b85 1 := gh_okr hT o_a0 rfl hb85
  obtain ⟨q92, hc92, hf⟩ := sv_bind_some hf
  obtain ⟨b98, hb98, hf⟩ := sv_bind_some hf
  have o_b98 : gh_is T b98 1 := gh_okr hT o_a0 rfl hb98
  rcases (Decidable.em ((q92.2.1 3 b98) = 0)).symm with c104 | c104
  · replace hf := sv_if_f c104 hf
    obtain ⟨q113, hc113, hf⟩ := sv_bind_some hf
    rcases (Decidable.em (q113.1 = 0)) with c116 | c116
    · replace hf := sv_if_t c116 hf
      cases hf
      exact hx
    · replace hf := sv_if_f c116 hf
      obtain ⟨b120, hb120, hf⟩ := sv_bind_some hf
      have o_b120 : gh_is T b120 3 := gh_okr hT o_a0 rfl hb120
      obtain ⟨q125, hc125, hf⟩ := sv_bind_some hf
      have x125 := e_X3_keep _ _ _ _ _ _ _ hc125 hT hz o_b120
      replace hT := x125.ok
      replace hz := x125.fr
      replace o_a0 := x125.is o_a0
      replace o_b66 := x125.is o_b66
      replace o_b77 := x125.is o_b77
      replace o_b85 := x125.is o_b85
      replace o_b98 := x125.is o_b98
      replace o_b120 := x125.is o_b120
      replace hx := hx.trans x125
      cases hb125 : q125.1 with
      | none =>
        rw [hb125] at hf
        obtain ⟨b131, hb131, hf⟩ := sv_bind_some hf
        have o_b131 : gh_is q125.2.1 b131 1 := gh_okr hT o_a0 rfl hb131
        cases hf
      | some b125 =>
        rw [hb125] at hf
        obtain ⟨g125, hf⟩ := sv_g_some hf
        have o_b125 : gh_is q125.2.1 b125 0 := gh_isb_is g125
        obtain ⟨b131, hb131, hf⟩ := sv_bind_some hf
        have o_b131 : gh_is q125.2.1 b131 1 := gh_okr hT o_a0 rfl hb131
        obtain ⟨q139, hc139, hf⟩ := sv_bind_some hf
        rcases (Decidable.em (x2 = x1)).symm with c144 | c144
        · replace hf := sv_if_f c144 hf
          cases hf
          exact hx
        · replace hf := sv_if_t c144 hf
          obtain ⟨b148, hb148, hf⟩ := sv_bind_some hf
          have o_b148 : gh_is q125.2.1 b148 0 := gh_okr hT o_a0 rfl hb148
          obtain ⟨q153, hc153, hf⟩ := sv_bind_some hf
          obtain ⟨b157, hb157, hf⟩ := sv_bind_some hf
          have o_b157 : gh_is q125.2.1 b157 3 := gh_okr hT o_a0 rfl hb157
          obtain ⟨q161, hc161, hf⟩ := sv_bind_some hf
          obtain ⟨q166, hc166, hf⟩ := sv_bind_some hf
          have x166 := e_X8_receive _ _ _ _ _ hc166 hT hz o_a0
          replace hT := x166.ok
          replace hz := x166.fr
          replace o_a0 := x166.is o_a0
          replace o_b66 := x166.is o_b66
          replace o_b77 := x166.is o_b77
          replace o_b85 := x166.is o_b85
          replace o_b98 := x166.is o_b98
          replace o_b120 := x166.is o_b120
          replace o_b125 := x166.is o_b125
          replace o_b131 := x166.is o_b131
          replace o_b148 := x166.is o_b148
          replace o_b157 := x166.is o_b157
          replace hx := hx.trans x166
          cases hf
          exact hx
  · replace hf := sv_if_t c104 hf
    cases hf
    exact hx
set_option maxHeartbeats 4000000 in
set_option maxRecDepth 100000 in
theorem w_X8_takePart_64 {E : sv_E} {X : sv_X} {q : Int32 × gh_T × gh_V × Nat} {a0 : Nat} (C : sv_C E X cX8_takePart RX8 []) (hZ : sv_Z E X (some .boolean) (some (.int q.1)) (gh_w E q.2.1 q.2.2.1) q.2.2.2 6 196) (hR : sv_R X = { frames := 5, cells := 6, slots := 196, locals := 115 }) (hN : sv_nL X = 6) (T : gh_T) (V : gh_V) (z : Nat) (x1 : Int32) (x2 : Int32) (s0 : Int32) (hT : gh_ok T) (hz : gh_fr T z) (o_a0 : gh_is T a0 8) (hf : f_X8_takePart_64 a0 T V z x1 x2 s0 = some q) : sv_J E X (gh_w E T V) z 0 0 64 [(0, .ref a0), (1, .int x1), (2, .int x2)] [.int s0] := by
  rw [f_X8_takePart_64] at hf
  refine sv_istore_n (lv' := [(3, .int s0), (0, .ref a0), (1, .int x1), (2, .int x2)]) C dX8_takePart_64 rfl (by rw [hN]; decide) rfl ?_
  refine sv_aload_n 1 C dX8_takePart_65 rfl rfl ?_
  obtain ⟨b66, hb66, hf⟩ := sv_bind_some hf
  have o_b66 : gh_is T b66 1 := gh_okr hT o_a0 rfl hb66
  refine gh_getr (d := 1) C fl_X8_35 o_a0 (by decide) (by decide) hb66 dX8_takePart_66 ?_
  refine sv_iconst (v := 4) C dX8_takePart_69 (by decide) ?_
  refine sv_ldcS (i := 9) C (by rfl) dX8_takePart_70 ?_
  obtain ⟨q72, hc72, hf⟩ := sv_bind_some hf
  refine gh_callV0 C mv_X8_220 (m_X1_oneOf (sv_l X) E T z (E.2.2.1 9) (E.2.2.2.1 9) _ _ _ _ _ hc72 hT o_b66) (sv_sxi (i := 9) (by rfl)) o_b66 (by decide) rfl rfl rfl (Nat.le_of_ble_eq_true rfl) ⟨by rw [hR]; decide, by rw [hR]; decide⟩ ⟨by rw [hR]; decide, by rw [hR]; decide⟩ dX8_takePart_72 ?_
  refine sv_pop C dX8_takePart_75 rfl ?_
  refine sv_aload_n 1 C dX8_takePart_76 rfl rfl ?_
  obtain ⟨b77, hb77, hf⟩ := sv_bind_some hf
  have o_b77 : gh_is T b77 1 := gh_okr hT o_a0 rfl hb77
  refine gh_getr (d := 1) C fl_X8_35 o_a0 (by decide) (by decide) hb77 dX8_takePart_77 ?_
  refine sv_iconst (v := 5) C dX8_takePart_80 (by decide) ?_
  obtain ⟨q81, hc81, hf⟩ := sv_bind_some hf
  refine gh_callV0 C mv_X8_224 (m_X1_checkPack (sv_l X) E T z _ _ _ _ hc81 hT o_b77) sv_sx0 o_b77 (by decide) rfl rfl rfl (Nat.le_of_ble_eq_true rfl) ⟨by rw [hR]; decide, by rw [hR]; decide⟩ ⟨by rw [hR]; decide, by rw [hR]; decide⟩ dX8_takePart_81 ?_
  refine sv_aload_n 1 C dX8_takePart_84 rfl rfl ?_
  obtain ⟨b85, hb85, hf⟩ := sv_bind_some hf
  have o_b85 : gh_is T b85 1 := gh_okr hT o_a0 rfl hb85
  refine gh_getr (d := 1) C fl_X8_35 o_a0 (by decide) (by decide) hb85 dX8_takePart_85 ?_
  refine sv_bipush (v := 6) C dX8_takePart_88 (by decide) ?_
  refine sv_iconst (v := 0) C dX8_takePart_90 (by decide) ?_
  refine sv_iconst (v := 5) C dX8_takePart_91 (by decide) ?_
  obtain ⟨q92, hc92, hf⟩ := sv_bind_some hf
  refine gh_callV0 C mv_X8_211 (m_X1_digit (sv_l X) E T z _ _ _ _ _ _ hc92 hT o_b85) sv_sx0 o_b85 (by decide) rfl rfl rfl (Nat.le_of_ble_eq_true rfl) ⟨by rw [hR]; decide, by rw [hR]; decide⟩ ⟨by rw [hR]; decide, by rw [hR]; decide⟩ dX8_takePart_92 ?_
  refine sv_istore (lv' := [(4, .int q92.1), (3, .int s0), (0, .ref a0), (1, .int x1), (2, .int x2)]) C dX8_takePart_95 (by rw [hN]; decide) rfl ?_
  refine sv_aload_n 2 C dX8_takePart_97 rfl rfl ?_
  obtain ⟨b98, hb98, hf⟩ := sv_bind_some hf
  have o_b98 : gh_is T b98 1 := gh_okr hT o_a0 rfl hb98
  refine gh_getr (d := 1) C fl_X8_35 o_a0 (by decide) (by decide) hb98 dX8_takePart_98 ?_
  refine gh_geti C fl_X8_227 o_b98 (by decide) (by decide) dX8_takePart_101 ?_
  refine sv_if_ne (tgt := 109) C dX8_takePart_104 (by decide) (fun c104 => ?_) (fun c104 => ?_)
  · replace hf := sv_if_f c104 hf
    refine sv_aload_n 2 C dX8_takePart_109 rfl rfl ?_
    refine sv_iload_n 1 C dX8_takePart_110 rfl rfl ?_
    refine sv_iload_n 3 C dX8_takePart_111 rfl rfl ?_
    refine sv_iload_n 4 C dX8_takePart_112 rfl rfl ?_
    obtain ⟨q113, hc113, hf⟩ := sv_bind_some hf
    refine gh_callV0 C mv_X8_231 (m_X8_isInOrder (sv_l X) E T z _ _ _ _ _ _ hc113 hT o_a0) sv_sx0 o_a0 (by decide) rfl rfl rfl (Nat.le_of_ble_eq_true rfl) ⟨by rw [hR]; decide, by rw [hR]; decide⟩ ⟨by rw [hR]; decide, by rw [hR]; decide⟩ dX8_takePart_113 ?_
    refine sv_if_eq (tgt := 169) C dX8_takePart_116 (by decide) (fun c116 => ?_) (fun c116 => ?_)
    · replace hf := sv_if_t c116 hf
      refine sv_iconst (v := 1) C dX8_takePart_169 (by decide) ?_
      refine sv_widen (k := 6) (n := 196) (by decide) (by decide) ?_
      exact sv_zret (ty := .boolean) C (by decide) (by cases hf; exact hZ) dX8_takePart_170
    · replace hf := sv_if_f c116 hf
      refine sv_aload_n 2 C dX8_takePart_119 rfl rfl ?_
      obtain ⟨b120, hb120, hf⟩ := sv_bind_some hf
      have o_b120 : gh_is T b120 3 := gh_okr hT o_a0 rfl hb120
      refine gh_getr (d := 3) C fl_X8_49 o_a0 (by decide) (by decide) hb120 dX8_takePart_120 ?_
      refine sv_iload_n 1 C dX8_takePart_123 rfl rfl ?_
      refine sv_iload_n 3 C dX8_takePart_124 rfl rfl ?_
      obtain ⟨q125, hc125, hf⟩ := sv_bind_some hf
      have x125 := e_X3_keep _ _ _ _ _ _ _ hc125 hT hz o_b120
      refine gh_callV C mv_X8_235 (m_X3_keep (sv_l X) E _ _ _ _ _ _ _ hc125 hT hz o_b120) sv_sx0 o_b120 (by decide) rfl rfl rfl (Nat.le_of_ble_eq_true rfl) ⟨by rw [hR]; decide, by rw [hR]; decide⟩ ⟨by rw [hR]; decide, by rw [hR]; decide⟩ dX8_takePart_125 ?_
      replace hT := x125.ok
      replace hz := x125.fr
      replace o_a0 := x125.is o_a0
      replace o_b66 := x125.is o_b66
      replace o_b77 := x125.is o_b77
      replace o_b85 := x125.is o_b85
      replace o_b98 := x125.is o_b98
      replace o_b120 := x125.is o_b120
      cases hb125 : q125.1 with
      | none =>
        rw [hb125] at hf
        show sv_J E X (gh_w E q125.2.1 q125.2.2.1) q125.2.2.2 2 106 128 [(4, .int q92.1), (3, .int s0), (0, .ref a0), (1, .int x1), (2, .int x2)] [.null]
        refine sv_astoreN (lv' := [(5, .null), (4, .int q92.1), (3, .int s0), (0, .ref a0), (1, .int x1), (2, .int x2)]) C dX8_takePart_128 (by rw [hN]; decide) rfl ?_
        refine sv_aload_n 3 C dX8_takePart_130 rfl rfl ?_
        obtain ⟨b131, hb131, hf⟩ := sv_bind_some hf
        have o_b131 : gh_is q125.2.1 b131 1 := gh_okr hT o_a0 rfl hb131
        refine gh_getr (d := 1) C fl_X8_35 o_a0 (by decide) (by decide) hb131 dX8_takePart_131 ?_
        refine sv_iconst (v := 5) C dX8_takePart_134 (by decide) ?_
        refine sv_iload 1 C dX8_takePart_135 rfl ?_
        refine sv_aloadN 0 C dX8_takePart_137 rfl ?_
        cases hf
      | some b125 =>
        rw [hb125] at hf
        obtain ⟨g125, hf⟩ := sv_g_some hf
        have o_b125 : gh_is q125.2.1 b125 0 := gh_isb_is g125
        show sv_J E X (gh_w E q125.2.1 q125.2.2.1) q125.2.2.2 2 106 128 [(4, .int q92.1), (3, .int s0), (0, .ref a0), (1, .int x1), (2, .int x2)] [.ref b125]
        refine sv_astore (lv' := [(5, .ref b125), (4, .int q92.1), (3, .int s0), (0, .ref a0), (1, .int x1), (2, .int x2)]) C dX8_takePart_128 (by rw [hN]; decide) rfl ?_
        refine sv_aload_n 3 C dX8_takePart_130 rfl rfl ?_
        obtain ⟨b131, hb131, hf⟩ := sv_bind_some hf
        have o_b131 : gh_is q125.2.1 b131 1 := gh_okr hT o_a0 rfl hb131
        refine gh_getr (d := 1) C fl_X8_35 o_a0 (by decide) (by decide) hb131 dX8_takePart_131 ?_
        refine sv_iconst (v := 5) C dX8_takePart_134 (by decide) ?_
        refine sv_iload 1 C dX8_takePart_135 rfl ?_
        refine sv_aload 0 C dX8_takePart_137 rfl ?_
        obtain ⟨q139, hc139, hf⟩ := sv_bind_some hf
        refine gh_callV0 C mv_X8_239 (m_X1_unpack (sv_l X) E q125.2.1 q125.2.2.2 _ _ _ _ _ _ hc139 hT o_b131 o_b125) sv_sx0 o_b131 (by decide) rfl rfl rfl (Nat.le_of_ble_eq_true rfl) ⟨by rw [hR]; decide, by rw [hR]; decide⟩ ⟨by rw [hR]; decide, by rw [hR]; decide⟩ dX8_takePart_139 ?_
        refine sv_iload_n 5 C dX8_takePart_142 rfl rfl ?_
        refine sv_iload_n 4 C dX8_takePart_143 rfl rfl ?_
        refine sv_icmp_ne (tgt := 169) C dX8_takePart_144 (by decide) (fun c144 => ?_) (fun c144 => ?_)
        · replace hf := sv_if_f c144 hf
          refine sv_iconst (v := 1) C dX8_takePart_169 (by decide) ?_
          refine sv_widen (k := 6) (n := 196) (by decide) (by decide) ?_
          exact sv_zret (ty := .boolean) C (by decide) (by cases hf; exact hZ) dX8_takePart_170
        · replace hf := sv_if_t c144 hf
          refine sv_aload_n 3 C dX8_takePart_147 rfl rfl ?_
          obtain ⟨b148, hb148, hf⟩ := sv_bind_some hf
          have o_b148 : gh_is q125.2.1 b148 0 := gh_okr hT o_a0 rfl hb148
          refine gh_getr (d := 0) C fl_X8_56 o_a0 (by decide) (by decide) hb148 dX8_takePart_148 ?_
          refine sv_aload 0 C dX8_takePart_151 rfl ?_
          obtain ⟨q153, hc153, hf⟩ := sv_bind_some hf
          refine gh_callV0 C mv_X8_243 (m_X0_copy (sv_l X) E q125.2.1 q125.2.2.2 _ _ _ _ hc153 hT o_b148 o_b125) sv_sx0 o_b148 (by decide) rfl rfl rfl (Nat.le_of_ble_eq_true rfl) ⟨by rw [hR]; decide, by rw [hR]; decide⟩ ⟨by rw [hR]; decide, by rw [hR]; decide⟩ dX8_takePart_153 ?_
          refine sv_aload_n 3 C dX8_takePart_156 rfl rfl ?_
          obtain ⟨b157, hb157, hf⟩ := sv_bind_some hf
          have o_b157 : gh_is q125.2.1 b157 3 := gh_okr hT o_a0 rfl hb157
          refine gh_getr (d := 3) C fl_X8_49 o_a0 (by decide) (by decide) hb157 dX8_takePart_157 ?_
          refine sv_iload_n 2 C dX8_takePart_160 rfl rfl ?_
          obtain ⟨q161, hc161, hf⟩ := sv_bind_some hf
          refine gh_callV0 C mv_X8_247 (m_X3_drop (sv_l X) E q125.2.1 q125.2.2.2 _ _ _ _ hc161 hT o_b157) sv_sx0 o_b157 (by decide) rfl rfl rfl (Nat.le_of_ble_eq_true rfl) ⟨by rw [hR]; decide, by rw [hR]; decide⟩ ⟨by rw [hR]; decide, by rw [hR]; decide⟩ dX8_takePart_161 ?_
          refine sv_pop C dX8_takePart_164 rfl ?_
          refine sv_aload_n 3 C dX8_takePart_165 rfl rfl ?_
          obtain ⟨q166, hc166, hf⟩ := sv_bind_some hf
          have x166 := e_X8_receive _ _ _ _ _ hc166 hT hz o_a0
          refine gh_callV C mv_X8_250 (m_X8_receive (sv_l X) E _ _ _ _ _ hc166 hT hz o_a0) sv_sx0 o_a0 (by decide) rfl rfl rfl (Nat.le_of_ble_eq_true rfl) ⟨by rw [hR]; decide, by rw [hR]; decide⟩ ⟨by rw [hR]; decide, by rw [hR]; decide⟩ dX8_takePart_166 ?_
          replace hT := x166.ok
          replace hz := x166.fr
          replace o_a0 := x166.is o_a0
          replace o_b66 := x166.is o_b66
          replace o_b77 := x166.is o_b77
          replace o_b85 := x166.is o_b85
          replace o_b98 := x166.is o_b98
          replace o_b120 := x166.is o_b120
          replace o_b125 := x166.is o_b125
          replace o_b131 := x166.is o_b131
          replace o_b148 := x166.is o_b148
          replace o_b157 := x166.is o_b157
          show sv_J E X (gh_w E q166.1 q166.2.1) q166.2.2 6 196 169 [(5, .ref b125), (4, .int q92.1), (3, .int s0), (0, .ref a0), (1, .int x1), (2, .int x2)] []
          refine sv_iconst (v := 1) C dX8_takePart_169 (by decide) ?_
          exact sv_zret (ty := .boolean) C (by decide) (by cases hf; exact hZ) dX8_takePart_170
  · replace hf := sv_if_t c104 hf
    refine sv_iconst (v := 0) C dX8_takePart_107 (by decide) ?_
    refine sv_widen (k := 6) (n := 196) (by decide) (by decide) ?_
    exact sv_zret (ty := .boolean) C (by decide) (by cases hf; exact hZ) dX8_takePart_108
set_option maxHeartbeats 4000000 in
set_option maxRecDepth 100000 in
theorem e_X8_takePart (T : gh_T) (V : gh_V) (z : Nat) (a0 : Nat) (q : Int32 × gh_T × gh_V × Nat) (hf : f_X8_takePart T V z a0 = some q) (hT : gh_ok T) (hz : gh_fr T z) (o_a0 : gh_is T a0 8) : gh_X T z q.2.1 q.2.2.2 := by
  have hx := gh_X.rf hT hz
  rw [f_X8_takePart] at hf
  obtain ⟨b1, hb1, hf⟩ := sv_bind_some hf
  have o_b1 : gh_is T b1 1 := gh_okr hT o_a0 rfl hb1
  rcases (Decidable.em ((V.1 2 b1) = 7)) with c9 | c9
  · replace hf := sv_if_t c9 hf
    obtain ⟨b15, hb15, hf⟩ := sv_bind_some hf
    have o_b15 : gh_is T b15 1 := gh_okr hT o_a0 rfl hb15
    obtain ⟨q22, hc22, hf⟩ := sv_bind_some hf
    obtain ⟨b27, hb27, hf⟩ := sv_bind_some hf
    have o_b27 : gh_is T b27 1 := gh_okr hT o_a0 rfl hb27
    obtain ⟨q33, hc33, hf⟩ := sv_bind_some hf
    obtain ⟨b38, hb38, hf⟩ := sv_bind_some hf
    have o_b38 : gh_is T b38 1 := gh_okr hT o_a0 rfl hb38
    obtain ⟨q42, hc42, hf⟩ := sv_bind_some hf
    rcases (Decidable.em (q42.1 = 0)) with c45 | c45
    · replace hf := sv_if_t c45 hf
      obtain ⟨b54, hb54, hf⟩ := sv_bind_some hf
      have o_b54 : gh_is T b54 1 := gh_okr hT o_a0 rfl hb54
      obtain ⟨q61, hc61, hf⟩ := sv_bind_some hf
      exact hx.trans (e_X8_takePart_64 _ _ _ _ _ _ hT hz o_a0 hf)
    · replace hf := sv_if_f c45 hf
      exact hx.trans (e_X8_takePart_64 _ _ _ _ _ _ hT hz o_a0 hf)
  · replace hf := sv_if_f c9 hf
    cases hf
    exact hx
set_option maxHeartbeats 4000000 in
set_option maxRecDepth 100000 in
theorem m_X8_takePart (l : Launch) (E : sv_E) (T : gh_T) (V : gh_V) (z : Nat) (a0 : Nat) (q : Int32 × gh_T × gh_V × Nat) (hf : f_X8_takePart T V z a0 = some q) (hT : gh_ok T) (hz : gh_fr T z) (o_a0 : gh_is T a0 8) : sv_Met l E yX8_takePart cX8_takePart 6 (some .boolean) 5 115 [] [.ref a0] (gh_w E T V) z (some (.int q.1)) (gh_w E q.2.1 q.2.2.1) q.2.2.2 6 196 := by
  refine sv_ofJ (by decide) (Nat.le_of_ble_eq_true rfl) ?_
  intro X hX hN hnm hR C hZ
  replace C : sv_C E X cX8_takePart RX8 [] := C
  show sv_J E X (gh_w E T V) z 0 0 0 [(0, .ref a0)] []
  rw [f_X8_takePart] at hf
  refine sv_aload_n 0 C dX8_takePart_0 rfl rfl ?_
  obtain ⟨b1, hb1, hf⟩ := sv_bind_some hf
  have o_b1 : gh_is T b1 1 := gh_okr hT o_a0 rfl hb1
  refine gh_getr (d := 1) C fl_X8_35 o_a0 (by decide) (by decide) hb1 dX8_takePart_1 ?_
  refine gh_geti C fl_X8_208 o_b1 (by decide) (by decide) dX8_takePart_4 ?_
  refine sv_bipush (v := 7) C dX8_takePart_7 (by decide) ?_
  refine sv_icmp_eq (tgt := 14) C dX8_takePart_9 (by decide) (fun c9 => ?_) (fun c9 => ?_)
  · replace hf := sv_if_t c9 hf
    refine sv_aload_n 0 C dX8_takePart_14 rfl rfl ?_
    obtain ⟨b15, hb15, hf⟩ := sv_bind_some hf
    have o_b15 : gh_is T b15 1 := gh_okr hT o_a0 rfl hb15
    refine gh_getr (d := 1) C fl_X8_35 o_a0 (by decide) (by decide) hb15 dX8_takePart_15 ?_
    refine sv_iconst (v := 1) C dX8_takePart_18 (by decide) ?_
    refine sv_iconst (v := 1) C dX8_takePart_19 (by decide) ?_
    refine sv_bipush (v := 9) C dX8_takePart_20 (by decide) ?_
    obtain ⟨q22, hc22, hf⟩ := sv_bind_some hf
    refine gh_callV0 C mv_X8_211 (m_X1_digit (sv_l X) E T z _ _ _ _ _ _ hc22 hT o_b15) sv_sx0 o_b15 (by decide) rfl rfl rfl (Nat.le_of_ble_eq_true rfl) ⟨by rw [hR]; decide, by rw [hR]; decide⟩ ⟨by rw [hR]; decide, by rw [hR]; decide⟩ dX8_takePart_22 ?_
    refine sv_istore_n (lv' := [(1, .int q22.1), (0, .ref a0)]) C dX8_takePart_25 rfl (by rw [hN]; decide) rfl ?_
    refine sv_aload_n 1 C dX8_takePart_26 rfl rfl ?_
    obtain ⟨b27, hb27, hf⟩ := sv_bind_some hf
    have o_b27 : gh_is T b27 1 := gh_okr hT o_a0 rfl hb27
    refine gh_getr (d := 1) C fl_X8_35 o_a0 (by decide) (by decide) hb27 dX8_takePart_27 ?_
    refine sv_iconst (v := 2) C dX8_takePart_30 (by decide) ?_
    refine sv_iconst (v := 1) C dX8_takePart_31 (by decide) ?_
    refine sv_iload_n 0 C dX8_takePart_32 rfl rfl ?_
    obtain ⟨q33, hc33, hf⟩ := sv_bind_some hf
    refine gh_callV0 C mv_X8_211 (m_X1_digit (sv_l X) E T z _ _ _ _ _ _ hc33 hT o_b27) sv_sx0 o_b27 (by decide) rfl rfl rfl (Nat.le_of_ble_eq_true rfl) ⟨by rw [hR]; decide, by rw [hR]; decide⟩ ⟨by rw [hR]; decide, by rw [hR]; decide⟩ dX8_takePart_33 ?_
    refine sv_istore_n (lv' := [(2, .int q33.1), (1, .int q22.1), (0, .ref a0)]) C dX8_takePart_36 rfl (by rw [hN]; decide) rfl ?_
    refine sv_aload_n 2 C dX8_takePart_37 rfl rfl ?_
    obtain ⟨b38, hb38, hf⟩ := sv_bind_some hf
    have o_b38 : gh_is T b38 1 := gh_okr hT o_a0 rfl hb38
    refine gh_getr (d := 1) C fl_X8_35 o_a0 (by decide) (by decide) hb38 dX8_takePart_38 ?_
    refine sv_iconst (v := 3) C dX8_takePart_41 (by decide) ?_
    obtain ⟨q42, hc42, hf⟩ := sv_bind_some hf
    refine gh_callV0 C mv_X8_215 (m_X1_isEmpty (sv_l X) E T z _ _ _ _ hc42 hT o_b38) sv_sx0 o_b38 (by decide) rfl rfl rfl (Nat.le_of_ble_eq_true rfl) ⟨by rw [hR]; decide, by rw [hR]; decide⟩ ⟨by rw [hR]; decide, by rw [hR]; decide⟩ dX8_takePart_42 ?_
    refine sv_if_eq (tgt := 53) C dX8_takePart_45 (by decide) (fun c45 => ?_) (fun c45 => ?_)
    · replace hf := sv_if_t c45 hf
      refine sv_aload_n 2 C dX8_takePart_53 rfl rfl ?_
      obtain ⟨b54, hb54, hf⟩ := sv_bind_some hf
      have o_b54 : gh_is T b54 1 := gh_okr hT o_a0 rfl hb54
      refine gh_getr (d := 1) C fl_X8_35 o_a0 (by decide) (by decide) hb54 dX8_takePart_54 ?_
      refine sv_iconst (v := 3) C dX8_takePart_57 (by decide) ?_
      refine sv_iconst (v := 0) C dX8_takePart_58 (by decide) ?_
      refine sv_bipush (v := 9) C dX8_takePart_59 (by decide) ?_
      obtain ⟨q61, hc61, hf⟩ := sv_bind_some hf
      refine gh_callV0 C mv_X8_211 (m_X1_digit (sv_l X) E T z _ _ _ _ _ _ hc61 hT o_b54) sv_sx0 o_b54 (by decide) rfl rfl rfl (Nat.le_of_ble_eq_true rfl) ⟨by rw [hR]; decide, by rw [hR]; decide⟩ ⟨by rw [hR]; decide, by rw [hR]; decide⟩ dX8_takePart_61 ?_
      refine sv_sub (lv' := [(0, .ref a0), (1, .int q22.1), (2, .int q33.1)]) [2, 1, 0] rfl ?_
      exact w_X8_takePart_64 C hZ hR hN _ _ _ _ _ _ hT hz o_a0 hf
    · replace hf := sv_if_f c45 hf
      refine sv_bipush (v := 10) C dX8_takePart_48 (by decide) ?_
      refine sv_goto (tgt := 64) C dX8_takePart_50 (by decide) ?_
      refine sv_sub (lv' := [(0, .ref a0), (1, .int q22.1), (2, .int q33.1)]) [2, 1, 0] rfl ?_
      exact w_X8_takePart_64 C hZ hR hN _ _ _ _ _ _ hT hz o_a0 hf
  · replace hf := sv_if_f c9 hf
    refine sv_iconst (v := 0) C dX8_takePart_12 (by decide) ?_
    refine sv_widen (k := 6) (n := 196) (by decide) (by decide) ?_
    exact sv_zret (ty := .boolean) C (by decide) (by cases hf; exact hZ) dX8_takePart_13
def f_X8_judge_131 (a0 : Nat) (T : gh_T) (V : gh_V) (z : Nat) (x1 : Int32) : Option (Int32 × gh_T × gh_V × Nat) :=
  if x1 = 0 then
    some (4, T, V, z)
  else
    some (0, T, V, z)
def f_X8_judge (T : gh_T) (V : gh_V) (z : Nat) (a0 : Nat) : Option (Int32 × gh_T × gh_V × Nat) :=
  (T.2.2.1 3 a0).bind (fun b1 =>
    (T.2.2.1 3 a0).bind (fun b8 =>
      if (V.1 4 b1) = (V.1 5 b8) then
        (T.2.2.1 4 a0).bind (fun b20 =>
          (T.2.2.1 3 a0).bind (fun b24 =>
            (f_X1_split T V b20 b24).bind (fun q27 =>
              (T.2.2.1 4 a0).bind (fun b31 =>
                (T.2.2.1 3 a0).bind (fun b35 =>
                  (f_X1_form T q27 b31 (q27.1 2 b35)).bind (fun q41 =>
                    if q41.1 = 1 then
                      (T.2.2.1 5 a0).bind (fun b77 =>
                        (T.2.2.1 4 a0).bind (fun b81 =>
                          (f_X4_takeGga T q41.2 b77 b81).bind (fun q84 =>
                            f_X8_judge_131 a0 T q84.2 z q84.1)))
                    else if q41.1 = 2 then
                      (T.2.2.1 5 a0).bind (fun b92 =>
                        (T.2.2.1 4 a0).bind (fun b96 =>
                          (f_X4_takeRmc T q41.2 b92 b96).bind (fun q99 =>
                            f_X8_judge_131 a0 T q99.2 z q99.1)))
                    else if q41.1 = 3 then
                      (T.2.2.1 5 a0).bind (fun b107 =>
                        (T.2.2.1 4 a0).bind (fun b111 =>
                          (f_X4_takeVtg T q41.2 b107 b111).bind (fun q114 =>
                            f_X8_judge_131 a0 T q114.2 z q114.1)))
                    else if q41.1 = 4 then
                      (f_X8_takePart T q41.2 z a0).bind (fun q122 =>
                        f_X8_judge_131 a0 q122.2.1 q122.2.2.1 q122.2.2.2 q122.1)
                    else 
                      some (3, T, q41.2, z)))))))
      else
        some (2, T, V, z)))
set_option maxHeartbeats 4000000 in
set_option maxRecDepth 100000 in
theorem e_X8_judge_131 {q : Int32 × gh_T × gh_V × Nat} {a0 : Nat} (T : gh_T) (V : gh_V) (z : Nat) (x1 : Int32) (hT : gh_ok T) (hz : gh_fr T z) (o_a0 : gh_is T a0 8) (hf : f_X8_judge_131 a0 T V z x1 = some q) : gh_X T z q.2.1 q.2.2.2 := by
  have hx := gh_X.rf hT hz
  rw [f_X8_judge_131] at hf
  rcases (Decidable.em (x1 = 0)) with c132 | c132
  · replace hf := sv_if_t c132 hf
    cases hf
    exact hx
  · replace hf := sv_if_f c132 hf
    cases hf
    exact hx
set_option maxHeartbeats 4000000 in
set_option maxRecDepth 100000 in
theorem w_X8_judge_131 {E : sv_E} {X : sv_X} {q : Int32 × gh_T × gh_V × Nat} {a0 : Nat} (C : sv_C E X cX8_judge RX8 []) (hZ : sv_Z E X (some .int) (some (.int q.1)) (gh_w E q.2.1 q.2.2.1) q.2.2.2 6 196) (hR : sv_R X = { frames := 6, cells := 6, slots := 196, locals := 140 }) (hN : sv_nL X = 2) (T : gh_T) (V : gh_V) (z : Nat) (x1 : Int32) (hT : gh_ok T) (hz : gh_fr T z) (o_a0 : gh_is T a0 8) (hf : f_X8_judge_131 a0 T V z x1 = some q) : sv_J E X (gh_w E T V) z 6 196 131 [(1, .int x1)] [] := by
  rw [f_X8_judge_131] at hf
  refine sv_iload_n 0 C dX8_judge_131 rfl rfl ?_
  refine sv_if_eq (tgt := 139) C dX8_judge_132 (by decide) (fun c132 => ?_) (fun c132 => ?_)
  · replace hf := sv_if_t c132 hf
    refine sv_iconst (v := 4) C dX8_judge_139 (by decide) ?_
    exact sv_iret C (by cases hf; exact hZ) dX8_judge_140
  · replace hf := sv_if_f c132 hf
    refine sv_iconst (v := 0) C dX8_judge_135 (by decide) ?_
    refine sv_goto (tgt := 140) C dX8_judge_136 (by decide) ?_
    exact sv_iret C (by cases hf; exact hZ) dX8_judge_140
set_option maxHeartbeats 4000000 in
set_option maxRecDepth 100000 in
theorem e_X8_judge (T : gh_T) (V : gh_V) (z : Nat) (a0 : Nat) (q : Int32 × gh_T × gh_V × Nat) (hf : f_X8_judge T V z a0 = some q) (hT : gh_ok T) (hz : gh_fr T z) (o_a0 : gh_is T a0 8) : gh_X T z q.2.1 q.2.2.2 := by
  have hx := gh_X.rf hT hz
  rw [f_X8_judge] at hf
  obtain ⟨b1, hb1, hf⟩ := sv_bind_some hf
  have o_b1 : gh_is T b1 5 := gh_okr hT o_a0 rfl hb1
  obtain ⟨b8, hb8, hf⟩ := sv_bind_some hf
  have o_b8 : gh_is T b8 5 := gh_okr hT o_a0 rfl hb8
  rcases (Decidable.em ((V.1 4 b1) = (V.1 5 b8))) with c14 | c14
  · replace hf := sv_if_t c14 hf
    obtain ⟨b20, hb20, hf⟩ := sv_bind_some hf
    have o_b20 : gh_is T b20 1 := gh_okr hT o_a0 rfl hb20
    obtain ⟨b24, hb24, hf⟩ := sv_bind_some hf
    have o_b24 : gh_is T b24 5 := gh_okr hT o_a0 rfl hb24
    obtain ⟨q27, hc27, hf⟩ := sv_bind_some hf
    obtain ⟨b31, hb31, hf⟩ := sv_bind_some hf
    have o_b31 : gh_is T b31 1 := gh_okr hT o_a0 rfl hb31
    obtain ⟨b35, hb35, hf⟩ := sv_bind_some hf
    have o_b35 : gh_is T b35 5 := gh_okr hT o_a0 rfl hb35
    obtain ⟨q41, hc41, hf⟩ := sv_bind_some hf
    by_cases c44_0 : q41.1 = 1
    · replace hf := sv_if_t c44_0 hf
      obtain ⟨b77, hb77, hf⟩ := sv_bind_some hf
      have o_b77 : gh_is T b77 4 := gh_okr hT o_a0 rfl hb77
      obtain ⟨b81, hb81, hf⟩ := sv_bind_some hf
      have o_b81 : gh_is T b81 1 := gh_okr hT o_a0 rfl hb81
      obtain ⟨q84, hc84, hf⟩ := sv_bind_some hf
      exact hx.trans (e_X8_judge_131 _ _ _ _ hT hz o_a0 hf)
    · replace hf := sv_if_f c44_0 hf
      by_cases c44_1 : q41.1 = 2
      · replace hf := sv_if_t c44_1 hf
        obtain ⟨b92, hb92, hf⟩ := sv_bind_some hf
        have o_b92 : gh_is T b92 4 := gh_okr hT o_a0 rfl hb92
        obtain ⟨b96, hb96, hf⟩ := sv_bind_some hf
        have o_b96 : gh_is T b96 1 := gh_okr hT o_a0 rfl hb96
        obtain ⟨q99, hc99, hf⟩ := sv_bind_some hf
        exact hx.trans (e_X8_judge_131 _ _ _ _ hT hz o_a0 hf)
      · replace hf := sv_if_f c44_1 hf
        by_cases c44_2 : q41.1 = 3
        · replace hf := sv_if_t c44_2 hf
          obtain ⟨b107, hb107, hf⟩ := sv_bind_some hf
          have o_b107 : gh_is T b107 4 := gh_okr hT o_a0 rfl hb107
          obtain ⟨b111, hb111, hf⟩ := sv_bind_some hf
          have o_b111 : gh_is T b111 1 := gh_okr hT o_a0 rfl hb111
          obtain ⟨q114, hc114, hf⟩ := sv_bind_some hf
          exact hx.trans (e_X8_judge_131 _ _ _ _ hT hz o_a0 hf)
        · replace hf := sv_if_f c44_2 hf
          by_cases c44_3 : q41.1 = 4
          · replace hf := sv_if_t c44_3 hf
            obtain ⟨q122, hc122, hf⟩ := sv_bind_some hf
            have x122 := e_X8_takePart _ _ _ _ _ hc122 hT hz o_a0
            replace hT := x122.ok
            replace hz := x122.fr
            replace o_a0 := x122.is o_a0
            replace o_b1 := x122.is o_b1
            replace o_b8 := x122.is o_b8
            replace o_b20 := x122.is o_b20
            replace o_b24 := x122.is o_b24
            replace o_b31 := x122.is o_b31
            replace o_b35 := x122.is o_b35
            replace hx := hx.trans x122
            exact hx.trans (e_X8_judge_131 _ _ _ _ hT hz o_a0 hf)
          · replace hf := sv_if_f c44_3 hf
            have n44_0 : q41.1.toInt ≠ 1 := fun e => c44_0 (Int32.toInt_inj.mp (e.trans (by decide)))
            have n44_1 : q41.1.toInt ≠ 2 := fun e => c44_1 (Int32.toInt_inj.mp (e.trans (by decide)))
            have n44_2 : q41.1.toInt ≠ 3 := fun e => c44_2 (Int32.toInt_inj.mp (e.trans (by decide)))
            have n44_3 : q41.1.toInt ≠ 4 := fun e => c44_3 (Int32.toInt_inj.mp (e.trans (by decide)))
            cases hf
            exact hx
  · replace hf := sv_if_f c14 hf
    cases hf
    exact hx
set_option maxHeartbeats 4000000 in
set_option maxRecDepth 100000 in
theorem m_X8_judge (l : Launch) (E : sv_E) (T : gh_T) (V : gh_V) (z : Nat) (a0 : Nat) (q : Int32 × gh_T × gh_V × Nat) (hf : f_X8_judge T V z a0 = some q) (hT : gh_ok T) (hz : gh_fr T z) (o_a0 : gh_is T a0 8) : sv_Met l E yX8_judge cX8_judge 2 (some .int) 6 140 [] [.ref a0] (gh_w E T V) z (some (.int q.1)) (gh_w E q.2.1 q.2.2.1) q.2.2.2 6 196 := by
  refine sv_ofJ (by decide) (Nat.le_of_ble_eq_true rfl) ?_
  intro X hX hN hnm hR C hZ
  replace C : sv_C E X cX8_judge RX8 [] := C
  show sv_J E X (gh_w E T V) z 0 0 0 [(0, .ref a0)] []
  rw [f_X8_judge] at hf
  refine sv_aload_n 0 C dX8_judge_0 rfl rfl ?_
  obtain ⟨b1, hb1, hf⟩ := sv_bind_some hf
  have o_b1 : gh_is T b1 5 := gh_okr hT o_a0 rfl hb1
  refine gh_getr (d := 5) C fl_X8_28 o_a0 (by decide) (by decide) hb1 dX8_judge_1 ?_
  refine gh_geti C fl_X8_178 o_b1 (by decide) (by decide) dX8_judge_4 ?_
  refine sv_aload_n 0 C dX8_judge_7 rfl rfl ?_
  obtain ⟨b8, hb8, hf⟩ := sv_bind_some hf
  have o_b8 : gh_is T b8 5 := gh_okr hT o_a0 rfl hb8
  refine gh_getr (d := 5) C fl_X8_28 o_a0 (by decide) (by decide) hb8 dX8_judge_8 ?_
  refine gh_geti C fl_X8_181 o_b8 (by decide) (by decide) dX8_judge_11 ?_
  refine sv_icmp_eq (tgt := 19) C dX8_judge_14 (by decide) (fun c14 => ?_) (fun c14 => ?_)
  · replace hf := sv_if_t c14 hf
    refine sv_aload_n 0 C dX8_judge_19 rfl rfl ?_
    obtain ⟨b20, hb20, hf⟩ := sv_bind_some hf
    have o_b20 : gh_is T b20 1 := gh_okr hT o_a0 rfl hb20
    refine gh_getr (d := 1) C fl_X8_35 o_a0 (by decide) (by decide) hb20 dX8_judge_20 ?_
    refine sv_aload_n 0 C dX8_judge_23 rfl rfl ?_
    obtain ⟨b24, hb24, hf⟩ := sv_bind_some hf
    have o_b24 : gh_is T b24 5 := gh_okr hT o_a0 rfl hb24
    refine gh_getr (d := 5) C fl_X8_28 o_a0 (by decide) (by decide) hb24 dX8_judge_24 ?_
    obtain ⟨q27, hc27, hf⟩ := sv_bind_some hf
    refine gh_callV0 C mv_X8_184 (m_X1_split (sv_l X) E T z _ _ _ _ hc27 hT o_b20 o_b24) sv_sx0 o_b20 (by decide) rfl rfl rfl (Nat.le_of_ble_eq_true rfl) ⟨by rw [hR]; decide, by rw [hR]; decide⟩ ⟨by rw [hR]; decide, by rw [hR]; decide⟩ dX8_judge_27 ?_
    refine sv_aload_n 0 C dX8_judge_30 rfl rfl ?_
    obtain ⟨b31, hb31, hf⟩ := sv_bind_some hf
    have o_b31 : gh_is T b31 1 := gh_okr hT o_a0 rfl hb31
    refine gh_getr (d := 1) C fl_X8_35 o_a0 (by decide) (by decide) hb31 dX8_judge_31 ?_
    refine sv_aload_n 0 C dX8_judge_34 rfl rfl ?_
    obtain ⟨b35, hb35, hf⟩ := sv_bind_some hf
    have o_b35 : gh_is T b35 5 := gh_okr hT o_a0 rfl hb35
    refine gh_getr (d := 5) C fl_X8_28 o_a0 (by decide) (by decide) hb35 dX8_judge_35 ?_
    refine gh_geti C fl_X8_188 o_b35 (by decide) (by decide) dX8_judge_38 ?_
    obtain ⟨q41, hc41, hf⟩ := sv_bind_some hf
    refine gh_callV0 C mv_X8_191 (m_X1_form (sv_l X) E T z _ _ _ _ hc41 hT o_b31) sv_sx0 o_b31 (by decide) rfl rfl rfl (Nat.le_of_ble_eq_true rfl) ⟨by rw [hR]; decide, by rw [hR]; decide⟩ ⟨by rw [hR]; decide, by rw [hR]; decide⟩ dX8_judge_41 ?_
    by_cases c44_0 : q41.1 = 1
    · replace hf := sv_if_t c44_0 hf
      refine sv_tswI (v := 1) (tgt := 76) C dX8_judge_44 c44_0 (by decide) (by decide) rfl (by decide) ?_
      refine sv_aload_n 0 C dX8_judge_76 rfl rfl ?_
      obtain ⟨b77, hb77, hf⟩ := sv_bind_some hf
      have o_b77 : gh_is T b77 4 := gh_okr hT o_a0 rfl hb77
      refine gh_getr (d := 4) C fl_X8_42 o_a0 (by decide) (by decide) hb77 dX8_judge_77 ?_
      refine sv_aload_n 0 C dX8_judge_80 rfl rfl ?_
      obtain ⟨b81, hb81, hf⟩ := sv_bind_some hf
      have o_b81 : gh_is T b81 1 := gh_okr hT o_a0 rfl hb81
      refine gh_getr (d := 1) C fl_X8_35 o_a0 (by decide) (by decide) hb81 dX8_judge_81 ?_
      obtain ⟨q84, hc84, hf⟩ := sv_bind_some hf
      refine gh_callV0 C mv_X8_194 (m_X4_takeGga (sv_l X) E T z _ _ _ _ hc84 hT o_b77 o_b81) sv_sx0 o_b77 (by decide) rfl rfl rfl (Nat.le_of_ble_eq_true rfl) ⟨by rw [hR]; decide, by rw [hR]; decide⟩ ⟨by rw [hR]; decide, by rw [hR]; decide⟩ dX8_judge_84 ?_
      refine sv_istore_n (lv' := [(1, .int q84.1), (0, .ref a0)]) C dX8_judge_87 rfl (by rw [hN]; decide) rfl ?_
      refine sv_goto (tgt := 131) C dX8_judge_88 (by decide) ?_
      refine sv_sub (lv' := [(1, .int q84.1)]) [0] rfl ?_
      refine sv_widen (k := 6) (n := 196) (by decide) (by decide) ?_
      exact w_X8_judge_131 C hZ hR hN _ _ _ _ hT hz o_a0 hf
    · replace hf := sv_if_f c44_0 hf
      by_cases c44_1 : q41.1 = 2
      · replace hf := sv_if_t c44_1 hf
        refine sv_tswI (v := 2) (tgt := 91) C dX8_judge_44 c44_1 (by decide) (by decide) rfl (by decide) ?_
        refine sv_aload_n 0 C dX8_judge_91 rfl rfl ?_
        obtain ⟨b92, hb92, hf⟩ := sv_bind_some hf
        have o_b92 : gh_is T b92 4 := gh_okr hT o_a0 rfl hb92
        refine gh_getr (d := 4) C fl_X8_42 o_a0 (by decide) (by decide) hb92 dX8_judge_92 ?_
        refine sv_aload_n 0 C dX8_judge_95 rfl rfl ?_
        obtain ⟨b96, hb96, hf⟩ := sv_bind_some hf
        have o_b96 : gh_is T b96 1 := gh_okr hT o_a0 rfl hb96
        refine gh_getr (d := 1) C fl_X8_35 o_a0 (by decide) (by decide) hb96 dX8_judge_96 ?_
        obtain ⟨q99, hc99, hf⟩ := sv_bind_some hf
        refine gh_callV0 C mv_X8_198 (m_X4_takeRmc (sv_l X) E T z _ _ _ _ hc99 hT o_b92 o_b96) sv_sx0 o_b92 (by decide) rfl rfl rfl (Nat.le_of_ble_eq_true rfl) ⟨by rw [hR]; decide, by rw [hR]; decide⟩ ⟨by rw [hR]; decide, by rw [hR]; decide⟩ dX8_judge_99 ?_
        refine sv_istore_n (lv' := [(1, .int q99.1), (0, .ref a0)]) C dX8_judge_102 rfl (by rw [hN]; decide) rfl ?_
        refine sv_goto (tgt := 131) C dX8_judge_103 (by decide) ?_
        refine sv_sub (lv' := [(1, .int q99.1)]) [0] rfl ?_
        refine sv_widen (k := 6) (n := 196) (by decide) (by decide) ?_
        exact w_X8_judge_131 C hZ hR hN _ _ _ _ hT hz o_a0 hf
      · replace hf := sv_if_f c44_1 hf
        by_cases c44_2 : q41.1 = 3
        · replace hf := sv_if_t c44_2 hf
          refine sv_tswI (v := 3) (tgt := 106) C dX8_judge_44 c44_2 (by decide) (by decide) rfl (by decide) ?_
          refine sv_aload_n 0 C dX8_judge_106 rfl rfl ?_
          obtain ⟨b107, hb107, hf⟩ := sv_bind_some hf
          have o_b107 : gh_is T b107 4 := gh_okr hT o_a0 rfl hb107
          refine gh_getr (d := 4) C fl_X8_42 o_a0 (by decide) (by decide) hb107 dX8_judge_107 ?_
          refine sv_aload_n 0 C dX8_judge_110 rfl rfl ?_
          obtain ⟨b111, hb111, hf⟩ := sv_bind_some hf
          have o_b111 : gh_is T b111 1 := gh_okr hT o_a0 rfl hb111
          refine gh_getr (d := 1) C fl_X8_35 o_a0 (by decide) (by decide) hb111 dX8_judge_111 ?_
          obtain ⟨q114, hc114, hf⟩ := sv_bind_some hf
          refine gh_callV0 C mv_X8_201 (m_X4_takeVtg (sv_l X) E T z _ _ _ _ hc114 hT o_b107 o_b111) sv_sx0 o_b107 (by decide) rfl rfl rfl (Nat.le_of_ble_eq_true rfl) ⟨by rw [hR]; decide, by rw [hR]; decide⟩ ⟨by rw [hR]; decide, by rw [hR]; decide⟩ dX8_judge_114 ?_
          refine sv_istore_n (lv' := [(1, .int q114.1), (0, .ref a0)]) C dX8_judge_117 rfl (by rw [hN]; decide) rfl ?_
          refine sv_goto (tgt := 131) C dX8_judge_118 (by decide) ?_
          refine sv_sub (lv' := [(1, .int q114.1)]) [0] rfl ?_
          refine sv_widen (k := 6) (n := 196) (by decide) (by decide) ?_
          exact w_X8_judge_131 C hZ hR hN _ _ _ _ hT hz o_a0 hf
        · replace hf := sv_if_f c44_2 hf
          by_cases c44_3 : q41.1 = 4
          · replace hf := sv_if_t c44_3 hf
            refine sv_tswI (v := 4) (tgt := 121) C dX8_judge_44 c44_3 (by decide) (by decide) rfl (by decide) ?_
            refine sv_aload_n 0 C dX8_judge_121 rfl rfl ?_
            obtain ⟨q122, hc122, hf⟩ := sv_bind_some hf
            have x122 := e_X8_takePart _ _ _ _ _ hc122 hT hz o_a0
            refine gh_callV C mv_X8_204 (m_X8_takePart (sv_l X) E _ _ _ _ _ hc122 hT hz o_a0) sv_sx0 o_a0 (by decide) rfl rfl rfl (Nat.le_of_ble_eq_true rfl) ⟨by rw [hR]; decide, by rw [hR]; decide⟩ ⟨by rw [hR]; decide, by rw [hR]; decide⟩ dX8_judge_122 ?_
            replace hT := x122.ok
            replace hz := x122.fr
            replace o_a0 := x122.is o_a0
            replace o_b1 := x122.is o_b1
            replace o_b8 := x122.is o_b8
            replace o_b20 := x122.is o_b20
            replace o_b24 := x122.is o_b24
            replace o_b31 := x122.is o_b31
            replace o_b35 := x122.is o_b35
            show sv_J E X (gh_w E q122.2.1 q122.2.2.1) q122.2.2.2 6 196 125 [(0, .ref a0)] [.int q122.1]
            refine sv_istore_n (lv' := [(1, .int q122.1), (0, .ref a0)]) C dX8_judge_125 rfl (by rw [hN]; decide) rfl ?_
            refine sv_goto (tgt := 131) C dX8_judge_126 (by decide) ?_
            refine sv_sub (lv' := [(1, .int q122.1)]) [0] rfl ?_
            exact w_X8_judge_131 C hZ hR hN _ _ _ _ hT hz o_a0 hf
          · replace hf := sv_if_f c44_3 hf
            have n44_0 : q41.1.toInt ≠ 1 := fun e => c44_0 (Int32.toInt_inj.mp (e.trans (by decide)))
            have n44_1 : q41.1.toInt ≠ 2 := fun e => c44_1 (Int32.toInt_inj.mp (e.trans (by decide)))
            have n44_2 : q41.1.toInt ≠ 3 := fun e => c44_2 (Int32.toInt_inj.mp (e.trans (by decide)))
            have n44_3 : q41.1.toInt ≠ 4 := fun e => c44_3 (Int32.toInt_inj.mp (e.trans (by decide)))
            refine sv_tswO (tgt := 129) C dX8_judge_44 (by omega) (by decide) ?_
            refine sv_iconst (v := 3) C dX8_judge_129 (by decide) ?_
            refine sv_widen (k := 6) (n := 196) (by decide) (by decide) ?_
            exact sv_iret C (by cases hf; exact hZ) dX8_judge_130
  · replace hf := sv_if_f c14 hf
    refine sv_iconst (v := 2) C dX8_judge_17 (by decide) ?_
    refine sv_widen (k := 6) (n := 196) (by decide) (by decide) ?_
    exact sv_iret C (by cases hf; exact hZ) dX8_judge_18
