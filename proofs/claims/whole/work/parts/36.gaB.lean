def f_X3_keep_60 (a0 : Nat) (T : gh_T) (V : gh_V) (z : Nat) (x2 : Int32) (x3 : Int32) : Option (Option Nat × gh_T × gh_V × Nat) :=
  (T.2.2.1 1 a0).bind (fun b61 =>
    sv_g (sv_inb x3 (T.2.2.2.1 b61)) (
      (T.2.2.1 2 a0).bind (fun b68 =>
        sv_g (sv_inb x3 (T.2.2.2.1 b68)) (
          sv_g (sv_inb x3 (T.2.2.2.1 b68)) (
            (T.2.2.1 0 a0).bind (fun b78 =>
              sv_g (sv_inb x3 (T.2.2.2.1 b78)) (
                match T.2.2.2.2 b78 x3.toNatClampNeg with
                | none =>
                    some (none, T, gh_pa (gh_pa V b61 x3 x2) b68 x3 (((gh_pa V b61 x3 x2).2 b68 x3.toNatClampNeg) + 1), z)
                | some b82 =>
                    some (some b82, T, gh_pa (gh_pa V b61 x3 x2) b68 x3 (((gh_pa V b61 x3 x2).2 b68 x3.toNatClampNeg) + 1), z))))))))
def f_X3_keep_42 (a0 : Nat) (T : gh_T) (V : gh_V) (z : Nat) (x2 : Int32) (x3 : Int32) : Option (Option Nat × gh_T × gh_V × Nat) :=
  (T.2.2.1 2 a0).bind (fun b43 =>
    sv_g (sv_inb x3 (T.2.2.2.1 b43)) (
      if (V.2 b43 x3.toNatClampNeg) = 0 then
        (T.2.2.1 0 a0).bind (fun b52 =>
          sv_g (sv_inb x3 (T.2.2.2.1 b52)) (
            (T.2.2.2.2 b52 x3.toNatClampNeg).bind (fun b56 =>
              (f_X0_empty T V b56).bind (fun q57 =>
                f_X3_keep_60 a0 T q57 z x2 x3))))
      else
        f_X3_keep_60 a0 T V z x2 x3))
def f_X3_keep_41 (a0 : Nat) (T : gh_T) (V : gh_V) (z : Nat) (x2 : Int32) (x3 : Int32) (as0 : Nat) (s1 : Int32) (as2 : Nat) : Option (Option Nat × gh_T × gh_V × Nat) :=
  sv_g (sv_inb s1 (T.2.2.2.1 as2)) (
    f_X3_keep_42 a0 (gh_pq T as2 s1 (some as0)) V z x2 x3)
def f_X3_keep_34 (a0 : Nat) (T : gh_T) (V : gh_V) (z : Nat) (x2 : Int32) (x3 : Int32) (as0 : Nat) (s1 : Int32) (as2 : Nat) : Option (Option Nat × gh_T × gh_V × Nat) :=
  (f_X0_init T V z as0 3240).bind (fun q38 =>
    f_X3_keep_41 a0 q38.1 q38.2.1 q38.2.2 x2 x3 as0 s1 as2)
def f_X3_keep_16 (a0 : Nat) (T : gh_T) (V : gh_V) (z : Nat) (x2 : Int32) (s0 : Int32) : Option (Option Nat × gh_T × gh_V × Nat) :=
  (T.2.2.1 0 a0).bind (fun b18 =>
    sv_g (sv_inb s0 (T.2.2.2.1 b18)) (
      match T.2.2.2.2 b18 s0.toNatClampNeg with
      | none =>
          (T.2.2.1 0 a0).bind (fun b27 =>
            f_X3_keep_34 a0 (gh_new T z 0) (gh_nv V z) (z + 1) x2 s0 z s0 b27)
      | some b22 =>
          f_X3_keep_42 a0 T V z x2 s0))
def f_X3_keep_14 (a0 : Nat) (T : gh_T) (V : gh_V) (z : Nat) (x2 : Int32) : Option (Option Nat × gh_T × gh_V × Nat) :=
  f_X3_keep_16 a0 T V z x2 10
def f_X3_keep (T : gh_T) (V : gh_V) (z : Nat) (a0 : Nat) (x1 : Int32) (x2 : Int32) : Option (Option Nat × gh_T × gh_V × Nat) :=
  if x1 < 0 then
    f_X3_keep_14 a0 T V z x2
  else
    if 11 ≤ x1 then
      f_X3_keep_14 a0 T V z x2
    else
      f_X3_keep_16 a0 T V z x2 x1
set_option maxHeartbeats 4000000 in
set_option maxRecDepth 100000 in
theorem e_X3_keep_60 {q : Option Nat × gh_T × gh_V × Nat} {a0 : Nat} (T : gh_T) (V : gh_V) (z : Nat) (x2 : Int32) (x3 : Int32) (hT : gh_ok T) (hz : gh_fr T z) (o_a0 : gh_is T a0 3) (hf : f_X3_keep_60 a0 T V z x2 x3 = some q) : gh_X T z q.2.1 q.2.2.2 := by
  have hx := gh_X.rf hT hz
  rw [f_X3_keep_60] at hf
  obtain ⟨b61, hb61, hf⟩ := sv_bind_some hf
  have o_b61 : gh_is T b61 10 := gh_okr hT o_a0 rfl hb61
  obtain ⟨g66, hf⟩ := sv_g_some hf
  obtain ⟨b68, hb68, hf⟩ := sv_bind_some hf
  have o_b68 : gh_is T b68 10 := gh_okr hT o_a0 rfl hb68
  obtain ⟨g73, hf⟩ := sv_g_some hf
  obtain ⟨g76, hf⟩ := sv_g_some hf
  obtain ⟨b78, hb78, hf⟩ := sv_bind_some hf
  have o_b78 : gh_is T b78 12 := gh_okr hT o_a0 rfl hb78
  obtain ⟨g82, hf⟩ := sv_g_some hf
  cases hb82 : T.2.2.2.2 b78 x3.toNatClampNeg with
  | none =>
    rw [hb82] at hf
    cases hf
    exact hx
  | some b82 =>
    rw [hb82] at hf
    have o_b82 : gh_is T b82 0 := hT.2.1 _ _ _ o_b78 hb82
    cases hf
    exact hx
set_option maxHeartbeats 4000000 in
set_option maxRecDepth 100000 in
theorem w_X3_keep_60 {E : sv_E} {X : sv_X} {z0 : Nat} {q : Option Nat × gh_T × gh_V × Nat} {a0 : Nat} (C : sv_C E X cX3_keep RX3 []) (hZ : sv_Z E X (some (.object "SeaReceiver$BitRow")) (some (va_rf q.1)) (gh_w E q.2.1 q.2.2.1) q.2.2.2 (q.2.2.2 - z0) (128 * (q.2.2.2 - z0))) (hR : sv_R X = { frames := 2, cells := q.2.2.2 - z0, slots := 128 * (q.2.2.2 - z0), locals := 43 }) (hN : sv_nL X = 4) (T : gh_T) (V : gh_V) (z : Nat) (x2 : Int32) (x3 : Int32) (hT : gh_ok T) (hz : gh_fr T z) (h0 : z0 ≤ z) (o_a0 : gh_is T a0 3) (hf : f_X3_keep_60 a0 T V z x2 x3 = some q) : sv_J E X (gh_w E T V) z (z - z0) (128 * (z - z0)) 60 [(0, .ref a0), (2, .int x2), (3, .int x3)] [] := by
  have hle0 : z ≤ q.2.2.2 := (e_X3_keep_60 _ _ _ _ _ hT hz o_a0 hf).le
  rw [f_X3_keep_60] at hf
  refine sv_aload_n 0 C dX3_keep_60 rfl rfl ?_
  obtain ⟨b61, hb61, hf⟩ := sv_bind_some hf
  have o_b61 : gh_is T b61 10 := gh_okr hT o_a0 rfl hb61
  refine gh_getr (d := 10) C fl_X3_17 o_a0 (by decide) (by decide) hb61 dX3_keep_61 ?_
  refine sv_iload_n 2 C dX3_keep_64 rfl rfl ?_
  refine sv_iload_n 1 C dX3_keep_65 rfl rfl ?_
  obtain ⟨g66, hf⟩ := sv_g_some hf
  refine gh_iast C o_b61 g66 dX3_keep_66 ?_
  refine sv_aload_n 0 C dX3_keep_67 rfl rfl ?_
  obtain ⟨b68, hb68, hf⟩ := sv_bind_some hf
  have o_b68 : gh_is T b68 10 := gh_okr hT o_a0 rfl hb68
  refine gh_getr (d := 10) C fl_X3_21 o_a0 (by decide) (by decide) hb68 dX3_keep_68 ?_
  refine sv_iload_n 2 C dX3_keep_71 rfl rfl ?_
  refine sv_dup2 C dX3_keep_72 rfl rfl ?_
  obtain ⟨g73, hf⟩ := sv_g_some hf
  refine gh_iald C o_b68 g73 dX3_keep_73 ?_
  refine sv_iconst (v := 1) C dX3_keep_74 (by decide) ?_
  refine sv_iadd C dX3_keep_75 ?_
  obtain ⟨g76, hf⟩ := sv_g_some hf
  refine gh_iast C o_b68 g76 dX3_keep_76 ?_
  refine sv_aload_n 0 C dX3_keep_77 rfl rfl ?_
  obtain ⟨b78, hb78, hf⟩ := sv_bind_some hf
  have o_b78 : gh_is T b78 12 := gh_okr hT o_a0 rfl hb78
  refine gh_getr (d := 12) C fl_X3_13 o_a0 (by decide) (by decide) hb78 dX3_keep_78 ?_
  refine sv_iload_n 2 C dX3_keep_81 rfl rfl ?_
  obtain ⟨g82, hf⟩ := sv_g_some hf
  refine gh_aald (t0 := 4) C o_b78 (by decide) rfl g82 dX3_keep_82 ?_
  cases hb82 : T.2.2.2.2 b78 x3.toNatClampNeg with
  | none =>
    rw [hb82] at hf
    exact sv_aret C (Or.inl ⟨_, rfl⟩) (Or.inl rfl) (by cases hf; exact hZ) dX3_keep_83
  | some b82 =>
    rw [hb82] at hf
    have o_b82 : gh_is T b82 0 := hT.2.1 _ _ _ o_b78 hb82
    exact sv_aret C (Or.inl ⟨_, rfl⟩) (Or.inr ⟨_, rfl⟩) (by cases hf; exact hZ) dX3_keep_83
set_option maxHeartbeats 4000000 in
set_option maxRecDepth 100000 in
theorem e_X3_keep_42 {q : Option Nat × gh_T × gh_V × Nat} {a0 : Nat} (T : gh_T) (V : gh_V) (z : Nat) (x2 : Int32) (x3 : Int32) (hT : gh_ok T) (hz : gh_fr T z) (o_a0 : gh_is T a0 3) (hf : f_X3_keep_42 a0 T V z x2 x3 = some q) : gh_X T z q.2.1 q.2.2.2 := by
  have hx := gh_X.rf hT hz
  rw [f_X3_keep_42] at hf
  obtain ⟨b43, hb43, hf⟩ := sv_bind_some hf
  have o_b43 : gh_is T b43 10 := gh_okr hT o_a0 rfl hb43
  obtain ⟨g47, hf⟩ := sv_g_some hf
  rcases (Decidable.em ((V.2 b43 x3.toNatClampNeg) = 0)).symm with c48 | c48
  · replace hf := sv_if_f c48 hf
    exact hx.trans (e_X3_keep_60 _ _ _ _ _ hT hz o_a0 hf)
  · replace hf := sv_if_t c48 hf
    obtain ⟨b52, hb52, hf⟩ := sv_bind_some hf
    have o_b52 : gh_is T b52 12 := gh_okr hT o_a0 rfl hb52
    obtain ⟨g56, hf⟩ := sv_g_some hf
    obtain ⟨b56, hb56, hf⟩ := sv_bind_some hf
    have o_b56 : gh_is T b56 0 := hT.2.1 _ _ _ o_b52 hb56
    obtain ⟨q57, hc57, hf⟩ := sv_bind_some hf
    exact hx.trans (e_X3_keep_60 _ _ _ _ _ hT hz o_a0 hf)
set_option maxHeartbeats 4000000 in
set_option maxRecDepth 100000 in
theorem w_X3_keep_42 {E : sv_E} {X : sv_X} {z0 : Nat} {q : Option Nat × gh_T × gh_V × Nat} {a0 : Nat} (C : sv_C E X cX3_keep RX3 []) (hZ : sv_Z E X (some (.object "SeaReceiver$BitRow")) (some (va_rf q.1)) (gh_w E q.2.1 q.2.2.1) q.2.2.2 (q.2.2.2 - z0) (128 * (q.2.2.2 - z0))) (hR : sv_R X = { frames := 2, cells := q.2.2.2 - z0, slots := 128 * (q.2.2.2 - z0), locals := 43 }) (hN : sv_nL X = 4) (T : gh_T) (V : gh_V) (z : Nat) (x2 : Int32) (x3 : Int32) (hT : gh_ok T) (hz : gh_fr T z) (h0 : z0 ≤ z) (o_a0 : gh_is T a0 3) (hf : f_X3_keep_42 a0 T V z x2 x3 = some q) : sv_J E X (gh_w E T V) z (z - z0) (128 * (z - z0)) 42 [(0, .ref a0), (2, .int x2), (3, .int x3)] [] := by
  have hle0 : z ≤ q.2.2.2 := (e_X3_keep_42 _ _ _ _ _ hT hz o_a0 hf).le
  rw [f_X3_keep_42] at hf
  refine sv_aload_n 0 C dX3_keep_42 rfl rfl ?_
  obtain ⟨b43, hb43, hf⟩ := sv_bind_some hf
  have o_b43 : gh_is T b43 10 := gh_okr hT o_a0 rfl hb43
  refine gh_getr (d := 10) C fl_X3_21 o_a0 (by decide) (by decide) hb43 dX3_keep_43 ?_
  refine sv_iload_n 2 C dX3_keep_46 rfl rfl ?_
  obtain ⟨g47, hf⟩ := sv_g_some hf
  refine gh_iald C o_b43 g47 dX3_keep_47 ?_
  refine sv_if_ne (tgt := 60) C dX3_keep_48 (by decide) (fun c48 => ?_) (fun c48 => ?_)
  · replace hf := sv_if_f c48 hf
    refine sv_sub (lv' := [(0, .ref a0), (2, .int x2), (3, .int x3)]) [0, 1, 2] rfl ?_
    exact w_X3_keep_60 C hZ hR hN _ _ _ _ _ hT hz h0 o_a0 hf
  · replace hf := sv_if_t c48 hf
    refine sv_aload_n 0 C dX3_keep_51 rfl rfl ?_
    obtain ⟨b52, hb52, hf⟩ := sv_bind_some hf
    have o_b52 : gh_is T b52 12 := gh_okr hT o_a0 rfl hb52
    refine gh_getr (d := 12) C fl_X3_13 o_a0 (by decide) (by decide) hb52 dX3_keep_52 ?_
    refine sv_iload_n 2 C dX3_keep_55 rfl rfl ?_
    obtain ⟨g56, hf⟩ := sv_g_some hf
    obtain ⟨b56, hb56, hf⟩ := sv_bind_some hf
    have o_b56 : gh_is T b56 0 := hT.2.1 _ _ _ o_b52 hb56
    refine gh_aald (t0 := 4) C o_b52 (by decide) rfl g56 dX3_keep_56 ?_
    rw [hb56]
    show sv_J E X (gh_w E T V) z (z - z0) (128 * (z - z0)) 57 [(0, .ref a0), (2, .int x2), (3, .int x3)] [.ref b56]
    obtain ⟨q57, hc57, hf⟩ := sv_bind_some hf
    refine gh_callV0 C mv_X3_33 (m_X0_empty (sv_l X) E T z _ _ _ hc57 hT o_b56) sv_sx0 o_b56 (by decide) rfl rfl rfl (Nat.le_of_ble_eq_true rfl) ⟨by rw [hR]; exact Nat.le_of_ble_eq_true rfl, by rw [hR]; exact Nat.le_of_ble_eq_true rfl⟩ ⟨by rw [hR]; exact Nat.sub_le_sub_right hle0 _, by rw [hR]; exact Nat.mul_le_mul_left 128 (Nat.sub_le_sub_right hle0 _)⟩ dX3_keep_57 ?_
    refine sv_sub (lv' := [(0, .ref a0), (2, .int x2), (3, .int x3)]) [0, 1, 2] rfl ?_
    exact w_X3_keep_60 C hZ hR hN _ _ _ _ _ hT hz h0 o_a0 hf
set_option maxHeartbeats 4000000 in
set_option maxRecDepth 100000 in
theorem e_X3_keep_41 {q : Option Nat × gh_T × gh_V × Nat} {a0 : Nat} (T : gh_T) (V : gh_V) (z : Nat) (x2 : Int32) (x3 : Int32) (as0 : Nat) (s1 : Int32) (as2 : Nat) (hT : gh_ok T) (hz : gh_fr T z) (o_a0 : gh_is T a0 3) (o_as0 : gh_is T as0 0) (o_as2 : gh_is T as2 12) (hf : f_X3_keep_41 a0 T V z x2 x3 as0 s1 as2 = some q) : gh_X T z q.2.1 q.2.2.2 := by
  have hx := gh_X.rf hT hz
  rw [f_X3_keep_41] at hf
  obtain ⟨g41, hf⟩ := sv_g_some hf
  have x41 := gh_X.pq (i := s1) hT hz o_as2 (Or.inl ⟨rfl, rfl⟩) o_as0
  replace hT := x41.ok
  replace hz := x41.fr
  replace o_a0 := x41.is o_a0
  replace o_as0 := x41.is o_as0
  replace o_as2 := x41.is o_as2
  replace hx := hx.trans x41
  exact hx.trans (e_X3_keep_42 _ _ _ _ _ hT hz o_a0 hf)
set_option maxHeartbeats 4000000 in
set_option maxRecDepth 100000 in
theorem w_X3_keep_41 {E : sv_E} {X : sv_X} {z0 : Nat} {q : Option Nat × gh_T × gh_V × Nat} {a0 : Nat} (C : sv_C E X cX3_keep RX3 []) (hZ : sv_Z E X (some (.object "SeaReceiver$BitRow")) (some (va_rf q.1)) (gh_w E q.2.1 q.2.2.1) q.2.2.2 (q.2.2.2 - z0) (128 * (q.2.2.2 - z0))) (hR : sv_R X = { frames := 2, cells := q.2.2.2 - z0, slots := 128 * (q.2.2.2 - z0), locals := 43 }) (hN : sv_nL X = 4) (T : gh_T) (V : gh_V) (z : Nat) (x2 : Int32) (x3 : Int32) (as0 : Nat) (s1 : Int32) (as2 : Nat) (hT : gh_ok T) (hz : gh_fr T z) (h0 : z0 ≤ z) (o_a0 : gh_is T a0 3) (o_as0 : gh_is T as0 0) (o_as2 : gh_is T as2 12) (hf : f_X3_keep_41 a0 T V z x2 x3 as0 s1 as2 = some q) : sv_J E X (gh_w E T V) z (z - z0) (128 * (z - z0)) 41 [(0, .ref a0), (2, .int x2), (3, .int x3)] [.ref as0, .int s1, .ref as2] := by
  have hle0 : z ≤ q.2.2.2 := (e_X3_keep_41 _ _ _ _ _ _ _ _ hT hz o_a0 o_as0 o_as2 hf).le
  rw [f_X3_keep_41] at hf
  obtain ⟨g41, hf⟩ := sv_g_some hf
  have x41 := gh_X.pq (i := s1) hT hz o_as2 (Or.inl ⟨rfl, rfl⟩) o_as0
  refine gh_aast C o_as2 (by decide) o_as0 (by decide) rfl rfl g41 dX3_keep_41 ?_
  replace hT := x41.ok
  replace hz := x41.fr
  replace o_a0 := x41.is o_a0
  replace o_as0 := x41.is o_as0
  replace o_as2 := x41.is o_as2
  refine sv_sub (lv' := [(0, .ref a0), (2, .int x2), (3, .int x3)]) [0, 1, 2] rfl ?_
  exact w_X3_keep_42 C hZ hR hN _ _ _ _ _ hT hz h0 o_a0 hf
set_option maxHeartbeats 4000000 in
set_option maxRecDepth 100000 in
theorem e_X3_keep_34 {q : Option Nat × gh_T × gh_V × Nat} {a0 : Nat} (T : gh_T) (V : gh_V) (z : Nat) (x2 : Int32) (x3 : Int32) (as0 : Nat) (s1 : Int32) (as2 : Nat) (hT : gh_ok T) (hz : gh_fr T z) (o_a0 : gh_is T a0 3) (o_as0 : gh_is T as0 0) (o_as2 : gh_is T as2 12) (hf : f_X3_keep_34 a0 T V z x2 x3 as0 s1 as2 = some q) : gh_X T z q.2.1 q.2.2.2 := by
  have hx := gh_X.rf hT hz
  rw [f_X3_keep_34] at hf
  obtain ⟨q38, hc38, hf⟩ := sv_bind_some hf
  have x38 := e_X0_init _ _ _ _ _ _ hc38 hT hz o_as0
  have o0_38 := o_as0
  have hT0 := hT
  have hz0 := hz
  replace hT := x38.ok
  replace hz := x38.fr
  replace o_a0 := x38.is o_a0
  replace o_as0 := x38.is o_as0
  replace o_as2 := x38.is o_as2
  replace hx := hx.trans x38
  exact hx.trans (e_X3_keep_41 _ _ _ _ _ _ _ _ hT hz o_a0 o_as0 o_as2 hf)
set_option maxHeartbeats 4000000 in
set_option maxRecDepth 100000 in
theorem w_X3_keep_34 {E : sv_E} {X : sv_X} {z0 : Nat} {q : Option Nat × gh_T × gh_V × Nat} {a0 : Nat} (C : sv_C E X cX3_keep RX3 []) (hZ : sv_Z E X (some (.object "SeaReceiver$BitRow")) (some (va_rf q.1)) (gh_w E q.2.1 q.2.2.1) q.2.2.2 (q.2.2.2 - z0) (128 * (q.2.2.2 - z0))) (hR : sv_R X = { frames := 2, cells := q.2.2.2 - z0, slots := 128 * (q.2.2.2 - z0), locals := 43 }) (hN : sv_nL X = 4) (T : gh_T) (V : gh_V) (z : Nat) (x2 : Int32) (x3 : Int32) (as0 : Nat) (s1 : Int32) (as2 : Nat) (hT : gh_ok T) (hz : gh_fr T z) (h0 : z0 ≤ z) (o_a0 : gh_is T a0 3) (o_as0 : gh_is T as0 0) (o_as2 : gh_is T as2 12) (hf : f_X3_keep_34 a0 T V z x2 x3 as0 s1 as2 = some q) : sv_J E X (gh_w E T V) z (z - z0) (128 * (z - z0)) 34 [(0, .ref a0), (2, .int x2), (3, .int x3)] [.ref as0, .int s1, .ref as2] := by
  have hle0 : z ≤ q.2.2.2 := (e_X3_keep_34 _ _ _ _ _ _ _ _ hT hz o_a0 o_as0 o_as2 hf).le
  rw [f_X3_keep_34] at hf
  refine sv_dup C dX3_keep_34 rfl ?_
  refine sv_sipush (v := 3240) C dX3_keep_35 (by decide) ?_
  obtain ⟨q38, hc38, hf⟩ := sv_bind_some hf
  have x38 := e_X0_init _ _ _ _ _ _ hc38 hT hz o_as0
  have o0_38 := o_as0
  have hT0 := hT
  have hz0 := hz
  replace hT := x38.ok
  replace hz := x38.fr
  replace o_a0 := x38.is o_a0
  replace o_as0 := x38.is o_as0
  replace o_as2 := x38.is o_as2
  have hle : q38.2.2 ≤ q.2.2.2 := (e_X3_keep_41 _ _ _ _ _ _ _ _ hT hz o_a0 o_as0 o_as2 hf).le
  have hzz := zz_X0_init _ _ _ _ _ _ hc38
  refine sv_callI C mi_X3_30 (m_X0_init (sv_l X) E _ _ _ _ _ _ hc38 hT0 hz0 o0_38) sv_sx0 rfl rfl (Nat.le_of_ble_eq_true rfl) ⟨by rw [hR]; exact Nat.le_of_ble_eq_true rfl, by rw [hR]; exact Nat.le_of_ble_eq_true rfl⟩ ⟨by rw [hR]; show z - z0 + 1 ≤ q.2.2.2 - z0; omega, by rw [hR]; show 128 * (z - z0) + 103 ≤ 128 * (q.2.2.2 - z0); omega⟩ dX3_keep_38 ?_
  refine sv_widen (k := q38.2.2 - z0) (n := 128 * (q38.2.2 - z0)) (by omega) (by omega) ?_
  have h0 : z0 ≤ q38.2.2 := Nat.le_trans h0 x38.le
  show sv_J E X (gh_w E q38.1 q38.2.1) q38.2.2 (q38.2.2 - z0) (128 * (q38.2.2 - z0)) 41 [(0, .ref a0), (2, .int x2), (3, .int x3)] [.ref as0, .int s1, .ref as2]
  refine sv_sub (lv' := [(0, .ref a0), (2, .int x2), (3, .int x3)]) [0, 1, 2] rfl ?_
  exact w_X3_keep_41 C hZ hR hN _ _ _ _ _ _ _ _ hT hz h0 o_a0 o_as0 o_as2 hf
set_option maxHeartbeats 4000000 in
set_option maxRecDepth 100000 in
theorem e_X3_keep_16 {q : Option Nat × gh_T × gh_V × Nat} {a0 : Nat} (T : gh_T) (V : gh_V) (z : Nat) (x2 : Int32) (s0 : Int32) (hT : gh_ok T) (hz : gh_fr T z) (o_a0 : gh_is T a0 3) (hf : f_X3_keep_16 a0 T V z x2 s0 = some q) : gh_X T z q.2.1 q.2.2.2 := by
  have hx := gh_X.rf hT hz
  rw [f_X3_keep_16] at hf
  obtain ⟨b18, hb18, hf⟩ := sv_bind_some hf
  have o_b18 : gh_is T b18 12 := gh_okr hT o_a0 rfl hb18
  obtain ⟨g22, hf⟩ := sv_g_some hf
  cases hb22 : T.2.2.2.2 b18 s0.toNatClampNeg with
  | none =>
    rw [hb22] at hf
    obtain ⟨b27, hb27, hf⟩ := sv_bind_some hf
    have o_b27 : gh_is T b27 12 := gh_okr hT o_a0 rfl hb27
    have x31 := gh_X.new (c := 0) hT hz (by decide)
    have hT0 := hT
    have hz0 := hz
    replace hT := x31.ok
    replace hz := x31.fr
    replace o_a0 := x31.is o_a0
    replace o_b18 := x31.is o_b18
    replace o_b27 := x31.is o_b27
    replace hx := hx.trans x31
    have o_n31 : gh_is (gh_new T z 0) z 0 := gh_is.mk
    exact hx.trans (e_X3_keep_34 _ _ _ _ _ _ _ _ hT hz o_a0 o_n31 o_b27 hf)
  | some b22 =>
    rw [hb22] at hf
    have o_b22 : gh_is T b22 0 := hT.2.1 _ _ _ o_b18 hb22
    exact hx.trans (e_X3_keep_42 _ _ _ _ _ hT hz o_a0 hf)
set_option maxHeartbeats 4000000 in
set_option maxRecDepth 100000 in
theorem w_X3_keep_16 {E : sv_E} {X : sv_X} {z0 : Nat} {q : Option Nat × gh_T × gh_V × Nat} {a0 : Nat} (C : sv_C E X cX3_keep RX3 []) (hZ : sv_Z E X (some (.object "SeaReceiver$BitRow")) (some (va_rf q.1)) (gh_w E q.2.1 q.2.2.1) q.2.2.2 (q.2.2.2 - z0) (128 * (q.2.2.2 - z0))) (hR : sv_R X = { frames := 2, cells := q.2.2.2 - z0, slots := 128 * (q.2.2.2 - z0), locals := 43 }) (hN : sv_nL X = 4) (T : gh_T) (V : gh_V) (z : Nat) (x2 : Int32) (s0 : Int32) (hT : gh_ok T) (hz : gh_fr T z) (h0 : z0 ≤ z) (o_a0 : gh_is T a0 3) (hf : f_X3_keep_16 a0 T V z x2 s0 = some q) : sv_J E X (gh_w E T V) z (z - z0) (128 * (z - z0)) 16 [(0, .ref a0), (2, .int x2)] [.int s0] := by
  have hle0 : z ≤ q.2.2.2 := (e_X3_keep_16 _ _ _ _ _ hT hz o_a0 hf).le
  rw [f_X3_keep_16] at hf
  refine sv_istore_n (lv' := [(3, .int s0), (0, .ref a0), (2, .int x2)]) C dX3_keep_16 rfl (by rw [hN]; decide) rfl ?_
  refine sv_aload_n 1 C dX3_keep_17 rfl rfl ?_
  obtain ⟨b18, hb18, hf⟩ := sv_bind_some hf
  have o_b18 : gh_is T b18 12 := gh_okr hT o_a0 rfl hb18
  refine gh_getr (d := 12) C fl_X3_13 o_a0 (by decide) (by decide) hb18 dX3_keep_18 ?_
  refine sv_iload_n 0 C dX3_keep_21 rfl rfl ?_
  obtain ⟨g22, hf⟩ := sv_g_some hf
  refine gh_aald (t0 := 4) C o_b18 (by decide) rfl g22 dX3_keep_22 ?_
  cases hb22 : T.2.2.2.2 b18 s0.toNatClampNeg with
  | none =>
    rw [hb22] at hf
    refine sv_ifnonnullN C dX3_keep_23 ?_
    refine sv_aload_n 1 C dX3_keep_26 rfl rfl ?_
    obtain ⟨b27, hb27, hf⟩ := sv_bind_some hf
    have o_b27 : gh_is T b27 12 := gh_okr hT o_a0 rfl hb27
    refine gh_getr (d := 12) C fl_X3_13 o_a0 (by decide) (by decide) hb27 dX3_keep_27 ?_
    refine sv_iload_n 0 C dX3_keep_30 rfl rfl ?_
    have x31 := gh_X.new (c := 0) hT hz (by decide)
    have hT0 := hT
    have hz0 := hz
    replace hT := x31.ok
    replace hz := x31.fr
    replace o_a0 := x31.is o_a0
    replace o_b18 := x31.is o_b18
    replace o_b27 := x31.is o_b27
    have o_n31 : gh_is (gh_new T z 0) z 0 := gh_is.mk
    have hle : z + 1 ≤ q.2.2.2 := (e_X3_keep_34 _ _ _ _ _ _ _ _ hT hz o_a0 o_n31 o_b27 hf).le
    refine gh_mk C hz0 cl_X3_11 (by decide) ⟨by rw [hR]; show z - z0 + 1 ≤ q.2.2.2 - z0; omega, by rw [hR]; show 128 * (z - z0) + 3 ≤ 128 * (q.2.2.2 - z0); omega⟩ dX3_keep_31 ?_
    refine sv_widen (k := z + 1 - z0) (n := 128 * (z + 1 - z0)) (by omega) (by omega) ?_
    have h0 : z0 ≤ z + 1 := Nat.le_trans h0 x31.le
    show sv_J E X (gh_w E (gh_new T z 0) (gh_nv V z)) (z + 1) ((z + 1) - z0) (128 * ((z + 1) - z0)) 34 [(3, .int s0), (0, .ref a0), (2, .int x2)] [.ref z, .int s0, .ref b27]
    refine sv_sub (lv' := [(0, .ref a0), (2, .int x2), (3, .int s0)]) [1, 2, 0] rfl ?_
    exact w_X3_keep_34 C hZ hR hN _ _ _ _ _ _ _ _ hT hz h0 o_a0 o_n31 o_b27 hf
  | some b22 =>
    rw [hb22] at hf
    have o_b22 : gh_is T b22 0 := hT.2.1 _ _ _ o_b18 hb22
    refine sv_ifnonnull (tgt := 42) C dX3_keep_23 (by decide) ?_
    refine sv_sub (lv' := [(0, .ref a0), (2, .int x2), (3, .int s0)]) [1, 2, 0] rfl ?_
    exact w_X3_keep_42 C hZ hR hN _ _ _ _ _ hT hz h0 o_a0 hf
set_option maxHeartbeats 4000000 in
set_option maxRecDepth 100000 in
theorem e_X3_keep_14 {q : Option Nat × gh_T × gh_V × Nat} {a0 : Nat} (T : gh_T) (V : gh_V) (z : Nat) (x2 : Int32) (hT : gh_ok T) (hz : gh_fr T z) (o_a0 : gh_is T a0 3) (hf : f_X3_keep_14 a0 T V z x2 = some q) : gh_X T z q.2.1 q.2.2.2 := by
  have hx := gh_X.rf hT hz
  rw [f_X3_keep_14] at hf
  exact hx.trans (e_X3_keep_16 _ _ _ _ _ hT hz o_a0 hf)
set_option maxHeartbeats 4000000 in
set_option maxRecDepth 100000 in
theorem w_X3_keep_14 {E : sv_E} {X : sv_X} {z0 : Nat} {q : Option Nat × gh_T × gh_V × Nat} {a0 : Nat} (C : sv_C E X cX3_keep RX3 []) (hZ : sv_Z E X (some (.object "SeaReceiver$BitRow")) (some (va_rf q.1)) (gh_w E q.2.1 q.2.2.1) q.2.2.2 (q.2.2.2 - z0) (128 * (q.2.2.2 - z0))) (hR : sv_R X = { frames := 2, cells := q.2.2.2 - z0, slots := 128 * (q.2.2.2 - z0), locals := 43 }) (hN : sv_nL X = 4) (T : gh_T) (V : gh_V) (z : Nat) (x2 : Int32) (hT : gh_ok T) (hz : gh_fr T z) (h0 : z0 ≤ z) (o_a0 : gh_is T a0 3) (hf : f_X3_keep_14 a0 T V z x2 = some q) : sv_J E X (gh_w E T V) z (z - z0) (128 * (z - z0)) 14 [(0, .ref a0), (2, .int x2)] [] := by
  have hle0 : z ≤ q.2.2.2 := (e_X3_keep_14 _ _ _ _ hT hz o_a0 hf).le
  rw [f_X3_keep_14] at hf
  refine sv_bipush (v := 10) C dX3_keep_14 (by decide) ?_
  refine sv_sub (lv' := [(0, .ref a0), (2, .int x2)]) [0, 1] rfl ?_
  exact w_X3_keep_16 C hZ hR hN _ _ _ _ _ hT hz h0 o_a0 hf
set_option maxHeartbeats 4000000 in
set_option maxRecDepth 100000 in
theorem e_X3_keep (T : gh_T) (V : gh_V) (z : Nat) (a0 : Nat) (x1 : Int32) (x2 : Int32) (q : Option Nat × gh_T × gh_V × Nat) (hf : f_X3_keep T V z a0 x1 x2 = some q) (hT : gh_ok T) (hz : gh_fr T z) (o_a0 : gh_is T a0 3) : gh_X T z q.2.1 q.2.2.2 := by
  have hx := gh_X.rf hT hz
  rw [f_X3_keep] at hf
  rcases (Decidable.em (x1 < 0)) with c1 | c1
  · replace hf := sv_if_t c1 hf
    exact hx.trans (e_X3_keep_14 _ _ _ _ hT hz o_a0 hf)
  · replace hf := sv_if_f c1 hf
    rcases (Decidable.em (11 ≤ x1)) with c7 | c7
    · replace hf := sv_if_t c7 hf
      exact hx.trans (e_X3_keep_14 _ _ _ _ hT hz o_a0 hf)
    · replace hf := sv_if_f c7 hf
      exact hx.trans (e_X3_keep_16 _ _ _ _ _ hT hz o_a0 hf)
set_option maxHeartbeats 4000000 in
set_option maxRecDepth 100000 in
theorem m_X3_keep (l : Launch) (E : sv_E) (T : gh_T) (V : gh_V) (z : Nat) (a0 : Nat) (x1 : Int32) (x2 : Int32) (q : Option Nat × gh_T × gh_V × Nat) (hf : f_X3_keep T V z a0 x1 x2 = some q) (hT : gh_ok T) (hz : gh_fr T z) (o_a0 : gh_is T a0 3) : sv_Met l E yX3_keep cX3_keep 4 (some (.object "SeaReceiver$BitRow")) 2 43 [] [.ref a0, .int x1, .int x2] (gh_w E T V) z (some (va_rf q.1)) (gh_w E q.2.1 q.2.2.1) q.2.2.2 (q.2.2.2 - z) (128 * (q.2.2.2 - z)) := by
  refine sv_ofJ (by decide) (Nat.le_of_ble_eq_true rfl) ?_
  intro X hX hN hnm hR C hZ
  replace C : sv_C E X cX3_keep RX3 [] := C
  obtain ⟨z0, hz0⟩ : ∃ z0 : Nat, z0 = z := ⟨z, rfl⟩
  have h0 : z0 ≤ z := Nat.le_of_eq hz0
  rw [← hz0] at hR hZ
  refine sv_widen (k := z - z0) (n := 128 * (z - z0)) (Nat.zero_le _) (Nat.zero_le _) ?_
  show sv_J E X (gh_w E T V) z (z - z0) (128 * (z - z0)) 0 [(0, .ref a0), (1, .int x1), (2, .int x2)] []
  have hle0 : z ≤ q.2.2.2 := (e_X3_keep _ _ _ _ _ _ _ hf hT hz o_a0).le
  rw [f_X3_keep] at hf
  refine sv_iload_n 1 C dX3_keep_0 rfl rfl ?_
  refine sv_if_lt (tgt := 14) C dX3_keep_1 (by decide) (fun c1 => ?_) (fun c1 => ?_)
  · replace hf := sv_if_t c1 hf
    refine sv_sub (lv' := [(0, .ref a0), (2, .int x2)]) [0, 2] rfl ?_
    exact w_X3_keep_14 C hZ hR hN _ _ _ _ hT hz h0 o_a0 hf
  · replace hf := sv_if_f c1 hf
    refine sv_iload_n 1 C dX3_keep_4 rfl rfl ?_
    refine sv_bipush (v := 11) C dX3_keep_5 (by decide) ?_
    refine sv_icmp_ge (tgt := 14) C dX3_keep_7 (by decide) (fun c7 => ?_) (fun c7 => ?_)
    · replace hf := sv_if_t c7 hf
      refine sv_sub (lv' := [(0, .ref a0), (2, .int x2)]) [0, 2] rfl ?_
      exact w_X3_keep_14 C hZ hR hN _ _ _ _ hT hz h0 o_a0 hf
    · replace hf := sv_if_f c7 hf
      refine sv_iload_n 1 C dX3_keep_10 rfl rfl ?_
      refine sv_goto (tgt := 16) C dX3_keep_11 (by decide) ?_
      refine sv_sub (lv' := [(0, .ref a0), (2, .int x2)]) [0, 2] rfl ?_
      exact w_X3_keep_16 C hZ hR hN _ _ _ _ _ hT hz h0 o_a0 hf
def f_X2_vesselOf_39 (a0 : Nat) (T : gh_T) (V : gh_V) (z : Nat) : Option (Option Nat × gh_T × gh_V × Nat) :=
  some (none, T, V, z)
def f_X2_vesselOf_69 (a0 : Nat) (T : gh_T) (V : gh_V) (z : Nat) (x1 : Int32) : Option (Option Nat × gh_T × gh_V × Nat) :=
  (T.2.2.1 0 a0).bind (fun b70 =>
    sv_g (sv_inb (V.1 1 a0) (T.2.2.2.1 b70)) (
      (T.2.2.2.2 b70 (V.1 1 a0).toNatClampNeg).bind (fun b77 =>
        (f_X7_begin T V b77 x1).bind (fun q79 =>
          (T.2.2.1 0 a0).bind (fun b93 =>
            sv_g (sv_inb (((gh_pf q79 1 a0 ((q79.1 1 a0) + 1)).1 1 a0) - 1) (T.2.2.2.1 b93)) (
              match T.2.2.2.2 b93 (((gh_pf q79 1 a0 ((q79.1 1 a0) + 1)).1 1 a0) - 1).toNatClampNeg with
              | none =>
                  some (none, T, gh_pf q79 1 a0 ((q79.1 1 a0) + 1), z)
              | some b102 =>
                  some (some b102, T, gh_pf q79 1 a0 ((q79.1 1 a0) + 1), z)))))))
def f_X2_vesselOf_68 (a0 : Nat) (T : gh_T) (V : gh_V) (z : Nat) (x1 : Int32) (as0 : Nat) (s1 : Int32) (as2 : Nat) : Option (Option Nat × gh_T × gh_V × Nat) :=
  sv_g (sv_inb s1 (T.2.2.2.1 as2)) (
    f_X2_vesselOf_69 a0 (gh_pq T as2 s1 (some as0)) V z x1)
def f_X2_vesselOf_64 (a0 : Nat) (T : gh_T) (V : gh_V) (z : Nat) (x1 : Int32) (as0 : Nat) (s1 : Int32) (as2 : Nat) : Option (Option Nat × gh_T × gh_V × Nat) :=
  (f_X7_init T V z as0).bind (fun q65 =>
    f_X2_vesselOf_68 a0 q65.1 q65.2.1 q65.2.2 x1 as0 s1 as2)
def f_X2_vesselOf_23 (a0 : Nat) (T : gh_T) (V : gh_V) (z : Nat) (x1 : Int32) : Option (Option Nat × gh_T × gh_V × Nat) :=
  if (V.1 1 a0) < 0 then
    f_X2_vesselOf_39 a0 T V z
  else
    if (V.1 1 a0) < 40 then
      (T.2.2.1 0 a0).bind (fun b42 =>
        sv_g (sv_inb (V.1 1 a0) (T.2.2.2.1 b42)) (
          match T.2.2.2.2 b42 (V.1 1 a0).toNatClampNeg with
          | none =>
              (T.2.2.1 0 a0).bind (fun b54 =>
                f_X2_vesselOf_64 a0 (gh_new T z 7) (gh_nv V z) (z + 1) x1 z (V.1 1 a0) b54)
          | some b49 =>
              f_X2_vesselOf_69 a0 T V z x1))
    else
      f_X2_vesselOf_39 a0 T V z
def f_X2_vesselOf (T : gh_T) (V : gh_V) (z : Nat) (a0 : Nat) (x1 : Int32) : Option (Option Nat × gh_T × gh_V × Nat) :=
  (f_X2_numberOf T V a0 x1).bind (fun q2 =>
    if q2.1 < 0 then
      f_X2_vesselOf_23 a0 T q2.2 z x1
    else
      if 40 ≤ q2.1 then
        f_X2_vesselOf_23 a0 T q2.2 z x1
      else
        (T.2.2.1 0 a0).bind (fun b17 =>
          sv_g (sv_inb q2.1 (T.2.2.2.1 b17)) (
            match T.2.2.2.2 b17 q2.1.toNatClampNeg with
            | none =>
                some (none, T, q2.2, z)
            | some b21 =>
                some (some b21, T, q2.2, z))))
set_option maxHeartbeats 4000000 in
set_option maxRecDepth 100000 in
theorem e_X2_vesselOf_39 {q : Option Nat × gh_T × gh_V × Nat} {a0 : Nat} (T : gh_T) (V : gh_V) (z : Nat) (hT : gh_ok T) (hz : gh_fr T z) (o_a0 : gh_is T a0 2) (hf : f_X2_vesselOf_39 a0 T V z = some q) : gh_X T z q.2.1 q.2.2.2 := by
  have hx := gh_X.rf hT hz
  rw [f_X2_vesselOf_39] at hf
  cases hf
  exact hx
set_option maxHeartbeats 4000000 in
set_option maxRecDepth 100000 in
theorem w_X2_vesselOf_39 {E : sv_E} {X : sv_X} {z0 : Nat} {q : Option Nat × gh_T × gh_V × Nat} {a0 : Nat} (C : sv_C E X cX2_vesselOf RX2 []) (hZ : sv_Z E X (some (.object "SeaReceiver$Vessel")) (some (va_rf q.1)) (gh_w E q.2.1 q.2.2.1) q.2.2.2 (q.2.2.2 - z0) (128 * (q.2.2.2 - z0))) (hR : sv_R X = { frames := 2, cells := q.2.2.2 - z0, slots := 128 * (q.2.2.2 - z0), locals := 44 }) (hN : sv_nL X = 3) (T : gh_T) (V : gh_V) (z : Nat) (hT : gh_ok T) (hz : gh_fr T z) (h0 : z0 ≤ z) (o_a0 : gh_is T a0 2) (hf : f_X2_vesselOf_39 a0 T V z = some q) : sv_J E X (gh_w E T V) z (z - z0) (128 * (z - z0)) 39 [] [] := by
  have hle0 : z ≤ q.2.2.2 := (e_X2_vesselOf_39 _ _ _ hT hz o_a0 hf).le
  rw [f_X2_vesselOf_39] at hf
  refine sv_null C dX2_vesselOf_39 ?_
  exact sv_aret C (Or.inl ⟨_, rfl⟩) (Or.inl rfl) (by cases hf; exact hZ) dX2_vesselOf_40
set_option maxHeartbeats 4000000 in
set_option maxRecDepth 100000 in
theorem e_X2_vesselOf_69 {q : Option Nat × gh_T × gh_V × Nat} {a0 : Nat} (T : gh_T) (V : gh_V) (z : Nat) (x1 : Int32) (hT : gh_ok T) (hz : gh_fr T z) (o_a0 : gh_is T a0 2) (hf : f_X2_vesselOf_69 a0 T V z x1 = some q) : gh_X T z q.2.1 q.2.2.2 := by
  have hx := gh_X.rf hT hz
  rw [f_X2_vesselOf_69] at hf
  obtain ⟨b70, hb70, hf⟩ := sv_bind_some hf
  have o_b70 : gh_is T b70 13 := gh_okr hT o_a0 rfl hb70
  obtain ⟨g77, hf⟩ := sv_g_some hf
  obtain ⟨b77, hb77, hf⟩ := sv_bind_some hf
  have o_b77 : gh_is T b77 7 := hT.2.2 _ _ _ o_b70 hb77
  obtain ⟨q79, hc79, hf⟩ := sv_bind_some hf
  obtain ⟨b93, hb93, hf⟩ := sv_bind_some hf
  have o_b93 : gh_is T b93 13 := gh_okr hT o_a0 rfl hb93
  obtain ⟨g102, hf⟩ := sv_g_some hf
  cases hb102 : T.2.2.2.2 b93 (((gh_pf q79 1 a0 ((q79.1 1 a0) + 1)).1 1 a0) - 1).toNatClampNeg with
  | none =>
    rw [hb102] at hf
    cases hf
    exact hx
  | some b102 =>
    rw [hb102] at hf
    have o_b102 : gh_is T b102 7 := hT.2.2 _ _ _ o_b93 hb102
    cases hf
    exact hx
set_option maxHeartbeats 4000000 in
set_option maxRecDepth 100000 in
theorem w_X2_vesselOf_69 {E : sv_E} {X : sv_X} {z0 : Nat} {q : Option Nat × gh_T × gh_V × Nat} {a0 : Nat} (C : sv_C E X cX2_vesselOf RX2 []) (hZ : sv_Z E X (some (.object "SeaReceiver$Vessel")) (some (va_rf q.1)) (gh_w E q.2.1 q.2.2.1) q.2.2.2 (q.2.2.2 - z0) (128 * (q.2.2.2 - z0))) (hR : sv_R X = { frames := 2, cells := q.2.2.2 - z0, slots := 128 * (q.2.2.2 - z0), locals := 44 }) (hN : sv_nL X = 3) (T : gh_T) (V : gh_V) (z : Nat) (x1 : Int32) (hT : gh_ok T) (hz : gh_fr T z) (h0 : z0 ≤ z) (o_a0 : gh_is T a0 2) (hf : f_X2_vesselOf_69 a0 T V z x1 = some q) : sv_J E X (gh_w E T V) z (z - z0) (128 * (z - z0)) 69 [(0, .ref a0), (1, .int x1)] [] := by
  have hle0 : z ≤ q.2.2.2 := (e_X2_vesselOf_69 _ _ _ _ hT hz o_a0 hf).le
  rw [f_X2_vesselOf_69] at hf
  refine sv_aload_n 0 C dX2_vesselOf_69 rfl rfl ?_
  obtain ⟨b70, hb70, hf⟩ := sv_bind_some hf
  have o_b70 : gh_is T b70 13 := gh_okr hT o_a0 rfl hb70
  refine gh_getr (d := 13) C fl_X2_13 o_a0 (by decide) (by decide) hb70 dX2_vesselOf_70 ?_
  refine sv_aload_n 0 C dX2_vesselOf_73 rfl rfl ?_
  refine gh_geti C fl_X2_17 o_a0 (by decide) (by decide) dX2_vesselOf_74 ?_
  obtain ⟨g77, hf⟩ := sv_g_some hf
  obtain ⟨b77, hb77, hf⟩ := sv_bind_some hf
  have o_b77 : gh_is T b77 7 := hT.2.2 _ _ _ o_b70 hb77
  refine gh_aald (t0 := 5) C o_b70 (by decide) rfl g77 dX2_vesselOf_77 ?_
  rw [hb77]
  show sv_J E X (gh_w E T V) z (z - z0) (128 * (z - z0)) 78 [(0, .ref a0), (1, .int x1)] [.ref b77]
  refine sv_iload_n 1 C dX2_vesselOf_78 rfl rfl ?_
  obtain ⟨q79, hc79, hf⟩ := sv_bind_some hf
  refine gh_callV0 C mv_X2_31 (m_X7_begin (sv_l X) E T z _ _ _ _ hc79 hT o_b77) sv_sx0 o_b77 (by decide) rfl rfl rfl (Nat.le_of_ble_eq_true rfl) ⟨by rw [hR]; exact Nat.le_of_ble_eq_true rfl, by rw [hR]; exact Nat.le_of_ble_eq_true rfl⟩ ⟨by rw [hR]; exact Nat.sub_le_sub_right hle0 _, by rw [hR]; exact Nat.mul_le_mul_left 128 (Nat.sub_le_sub_right hle0 _)⟩ dX2_vesselOf_79 ?_
  refine sv_aload_n 0 C dX2_vesselOf_82 rfl rfl ?_
  refine sv_dup C dX2_vesselOf_83 rfl ?_
  refine gh_geti C fl_X2_17 o_a0 (by decide) (by decide) dX2_vesselOf_84 ?_
  refine sv_iconst (v := 1) C dX2_vesselOf_87 (by decide) ?_
  refine sv_iadd C dX2_vesselOf_88 ?_
  refine gh_puti C fl_X2_17 o_a0 (by decide) (by decide) rfl rfl dX2_vesselOf_89 ?_
  refine sv_aload_n 0 C dX2_vesselOf_92 rfl rfl ?_
  obtain ⟨b93, hb93, hf⟩ := sv_bind_some hf
  have o_b93 : gh_is T b93 13 := gh_okr hT o_a0 rfl hb93
  refine gh_getr (d := 13) C fl_X2_13 o_a0 (by decide) (by decide) hb93 dX2_vesselOf_93 ?_
  refine sv_aload_n 0 C dX2_vesselOf_96 rfl rfl ?_
  refine gh_geti C fl_X2_17 o_a0 (by decide) (by decide) dX2_vesselOf_97 ?_
  refine sv_iconst (v := 1) C dX2_vesselOf_100 (by decide) ?_
  refine sv_isub C dX2_vesselOf_101 ?_
  obtain ⟨g102, hf⟩ := sv_g_some hf
  refine gh_aald (t0 := 5) C o_b93 (by decide) rfl g102 dX2_vesselOf_102 ?_
  cases hb102 : T.2.2.2.2 b93 (((gh_pf q79 1 a0 ((q79.1 1 a0) + 1)).1 1 a0) - 1).toNatClampNeg with
  | none =>
    rw [hb102] at hf
    exact sv_aret C (Or.inl ⟨_, rfl⟩) (Or.inl rfl) (by cases hf; exact hZ) dX2_vesselOf_103
  | some b102 =>
    rw [hb102] at hf
    have o_b102 : gh_is T b102 7 := hT.2.2 _ _ _ o_b93 hb102
    exact sv_aret C (Or.inl ⟨_, rfl⟩) (Or.inr ⟨_, rfl⟩) (by cases hf; exact hZ) dX2_vesselOf_103
set_option maxHeartbeats 4000000 in
set_option maxRecDepth 100000 in
theorem e_X2_vesselOf_68 {q : Option Nat × gh_T × gh_V × Nat} {a0 : Nat} (T : gh_T) (V : gh_V) (z : Nat) (x1 : Int32) (as0 : Nat) (s1 : Int32) (as2 : Nat) (hT : gh_ok T) (hz : gh_fr T z) (o_a0 : gh_is T a0 2) (o_as0 : gh_is T as0 7) (o_as2 : gh_is T as2 13) (hf : f_X2_vesselOf_68 a0 T V z x1 as0 s1 as2 = some q) : gh_X T z q.2.1 q.2.2.2 := by
  have hx := gh_X.rf hT hz
  rw [f_X2_vesselOf_68] at hf
  obtain ⟨g68, hf⟩ := sv_g_some hf
  have x68 := gh_X.pq (i := s1) hT hz o_as2 (Or.inr ⟨rfl, rfl⟩) o_as0
  replace hT := x68.ok
  replace hz := x68.fr
  replace o_a0 := x68.is o_a0
  replace o_as0 := x68.is o_as0
  replace o_as2 := x68.is o_as2
  replace hx := hx.trans x68
  exact hx.trans (e_X2_vesselOf_69 _ _ _ _ hT hz o_a0 hf)
set_option maxHeartbeats 4000000 in
set_option maxRecDepth 100000 in
theorem w_X2_vesselOf_68 {E : sv_E} {X : sv_X} {z0 : Nat} {q : Option Nat × gh_T × gh_V × Nat} {a0 : Nat} (C : sv_C E X cX2_vesselOf RX2 []) (hZ : sv_Z E X (some (.object "SeaReceiver$Vessel")) (some (va_rf q.1)) (gh_w E q.2.1 q.2.2.1) q.2.2.2 (q.2.2.2 - z0) (128 * (q.2.2.2 - z0))) (hR : sv_R X = { frames := 2, cells := q.2.2.2 - z0, slots := 128 * (q.2.2.2 - z0), locals := 44 }) (hN : sv_nL X = 3) (T : gh_T) (V : gh_V) (z : Nat) (x1 : Int32) (as0 : Nat) (s1 : Int32) (as2 : Nat) (hT : gh_ok T) (hz : gh_fr T z) (h0 : z0 ≤ z) (o_a0 : gh_is T a0 2) (o_as0 : gh_is T as0 7) (o_as2 : gh_is T as2 13) (hf : f_X2_vesselOf_68 a0 T V z x1 as0 s1 as2 = some q) : sv_J E X (gh_w E T V) z (z - z0) (128 * (z - z0)) 68 [(0, .ref a0), (1, .int x1)] [.ref as0, .int s1, .ref as2] := by
  have hle0 : z ≤ q.2.2.2 := (e_X2_vesselOf_68 _ _ _ _ _ _ _ hT hz o_a0 o_as0 o_as2 hf).le
  rw [f_X2_vesselOf_68] at hf
  obtain ⟨g68, hf⟩ := sv_g_some hf
  have x68 := gh_X.pq (i := s1) hT hz o_as2 (Or.inr ⟨rfl, rfl⟩) o_as0
  refine gh_aast C o_as2 (by decide) o_as0 (by decide) rfl rfl g68 dX2_vesselOf_68 ?_
  replace hT := x68.ok
  replace hz := x68.fr
  replace o_a0 := x68.is o_a0
  replace o_as0 := x68.is o_as0
  replace o_as2 := x68.is o_as2
  refine sv_sub (lv' := [(0, .ref a0), (1, .int x1)]) [0, 1] rfl ?_
  exact w_X2_vesselOf_69 C hZ hR hN _ _ _ _ hT hz h0 o_a0 hf
set_option maxHeartbeats 4000000 in
set_option maxRecDepth 100000 in
theorem e_X2_vesselOf_64 {q : Option Nat × gh_T × gh_V × Nat} {a0 : Nat} (T : gh_T) (V : gh_V) (z : Nat) (x1 : Int32) (as0 : Nat) (s1 : Int32) (as2 : Nat) (hT : gh_ok T) (hz : gh_fr T z) (o_a0 : gh_is T a0 2) (o_as0 : gh_is T as0 7) (o_as2 : gh_is T as2 13) (hf : f_X2_vesselOf_64 a0 T V z x1 as0 s1 as2 = some q) : gh_X T z q.2.1 q.2.2.2 := by
  have hx := gh_X.rf hT hz
  rw [f_X2_vesselOf_64] at hf
  obtain ⟨q65, hc65, hf⟩ := sv_bind_some hf
  have x65 := e_X7_init _ _ _ _ _ hc65 hT hz o_as0
  have o0_65 := o_as0
  have hT0 := hT
  have hz0 := hz
  replace hT := x65.ok
  replace hz := x65.fr
  replace o_a0 := x65.is o_a0
  replace o_as0 := x65.is o_as0
  replace o_as2 := x65.is o_as2
  replace hx := hx.trans x65
  exact hx.trans (e_X2_vesselOf_68 _ _ _ _ _ _ _ hT hz o_a0 o_as0 o_as2 hf)
set_option maxHeartbeats 4000000 in
set_option maxRecDepth 100000 in
theorem w_X2_vesselOf_64 {E : sv_E} {X : sv_X} {z0 : Nat} {q : Option Nat × gh_T × gh_V × Nat} {a0 : Nat} (C : sv_C E X cX2_vesselOf RX2 []) (hZ : sv_Z E X (some (.object "SeaReceiver$Vessel")) (some (va_rf q.1)) (gh_w E q.2.1 q.2.2.1) q.2.2.2 (q.2.2.2 - z0) (128 * (q.2.2.2 - z0))) (hR : sv_R X = { frames := 2, cells := q.2.2.2 - z0, slots := 128 * (q.2.2.2 - z0), locals := 44 }) (hN : sv_nL X = 3) (T : gh_T) (V : gh_V) (z : Nat) (x1 : Int32) (as0 : Nat) (s1 : Int32) (as2 : Nat) (hT : gh_ok T) (hz : gh_fr T z) (h0 : z0 ≤ z) (o_a0 : gh_is T a0 2) (o_as0 : gh_is T as0 7) (o_as2 : gh_is T as2 13) (hf : f_X2_vesselOf_64 a0 T V z x1 as0 s1 as2 = some q) : sv_J E X (gh_w E T V) z (z - z0) (128 * (z - z0)) 64 [(0, .ref a0), (1, .int x1)] [.ref as0, .int s1, .ref as2] := by
  have hle0 : z ≤ q.2.2.2 := (e_X2_vesselOf_64 _ _ _ _ _ _ _ hT hz o_a0 o_as0 o_as2 hf).le
  rw [f_X2_vesselOf_64] at hf
  refine sv_dup C dX2_vesselOf_64 rfl ?_
  obtain ⟨q65, hc65, hf⟩ := sv_bind_some hf
  have x65 := e_X7_init _ _ _ _ _ hc65 hT hz o_as0
  have o0_65 := o_as0
  have hT0 := hT
  have hz0 := hz
  replace hT := x65.ok
  replace hz := x65.fr
  replace o_a0 := x65.is o_a0
  replace o_as0 := x65.is o_as0
  replace o_as2 := x65.is o_as2
  have hle : q65.2.2 ≤ q.2.2.2 := (e_X2_vesselOf_68 _ _ _ _ _ _ _ hT hz o_a0 o_as0 o_as2 hf).le
  have hzz := zz_X7_init _ _ _ _ _ hc65
  refine sv_callIN C mn_X2_30 (m_X7_init (sv_l X) E _ _ _ _ _ hc65 hT0 hz0 o0_65) sv_sx0 rfl rfl (Nat.le_of_ble_eq_true rfl) ⟨by rw [hR]; exact Nat.le_of_ble_eq_true rfl, by rw [hR]; exact Nat.le_of_ble_eq_true rfl⟩ ⟨by rw [hR]; show z - z0 + 3 ≤ q.2.2.2 - z0; omega, by rw [hR]; show 128 * (z - z0) + 87 ≤ 128 * (q.2.2.2 - z0); omega⟩ dX2_vesselOf_65 ?_
  refine sv_widen (k := q65.2.2 - z0) (n := 128 * (q65.2.2 - z0)) (by omega) (by omega) ?_
  have h0 : z0 ≤ q65.2.2 := Nat.le_trans h0 x65.le
  show sv_J E X (gh_w E q65.1 q65.2.1) q65.2.2 (q65.2.2 - z0) (128 * (q65.2.2 - z0)) 68 [(0, .ref a0), (1, .int x1)] [.ref as0, .int s1, .ref as2]
  refine sv_sub (lv' := [(0, .ref a0), (1, .int x1)]) [0, 1] rfl ?_
  exact w_X2_vesselOf_68 C hZ hR hN _ _ _ _ _ _ _ hT hz h0 o_a0 o_as0 o_as2 hf
set_option maxHeartbeats 4000000 in
set_option maxRecDepth 100000 in
theorem e_X2_vesselOf_23 {q : Option Nat × gh_T × gh_V × Nat} {a0 : Nat} (T : gh_T) (V : gh_V) (z : Nat) (x1 : Int32) (hT : gh_ok T) (hz : gh_fr T z) (o_a0 : gh_is T a0 2) (hf : f_X2_vesselOf_23 a0 T V z x1 = some q) : gh_X T z q.2.1 q.2.2.2 := by
  have hx := gh_X.rf hT hz
  rw [f_X2_vesselOf_23] at hf
  rcases (Decidable.em ((V.1 1 a0) < 0)) with c27 | c27
  · replace hf := sv_if_t c27 hf
    exact hx.trans (e_X2_vesselOf_39 _ _ _ hT hz o_a0 hf)
  · replace hf := sv_if_f c27 hf
    rcases (Decidable.em ((V.1 1 a0) < 40)) with c36 | c36
    · replace hf := sv_if_t c36 hf
      obtain ⟨b42, hb42, hf⟩ := sv_bind_some hf
      have o_b42 : gh_is T b42 13 := gh_okr hT o_a0 rfl hb42
      obtain ⟨g49, hf⟩ := sv_g_some hf
      cases hb49 : T.2.2.2.2 b42 (V.1 1 a0).toNatClampNeg with
      | none =>
        rw [hb49] at hf
        obtain ⟨b54, hb54, hf⟩ := sv_bind_some hf
        have o_b54 : gh_is T b54 13 := gh_okr hT o_a0 rfl hb54
        have x61 := gh_X.new (c := 7) hT hz (by decide)
        have hT0 := hT
        have hz0 := hz
        replace hT := x61.ok
        replace hz := x61.fr
        replace o_a0 := x61.is o_a0
        replace o_b42 := x61.is o_b42
        replace o_b54 := x61.is o_b54
        replace hx := hx.trans x61
        have o_n61 : gh_is (gh_new T z 7) z 7 := gh_is.mk
        exact hx.trans (e_X2_vesselOf_64 _ _ _ _ _ _ _ hT hz o_a0 o_n61 o_b54 hf)
      | some b49 =>
        rw [hb49] at hf
        have o_b49 : gh_is T b49 7 := hT.2.2 _ _ _ o_b42 hb49
        exact hx.trans (e_X2_vesselOf_69 _ _ _ _ hT hz o_a0 hf)
    · replace hf := sv_if_f c36 hf
      exact hx.trans (e_X2_vesselOf_39 _ _ _ hT hz o_a0 hf)
set_option maxHeartbeats 4000000 in
set_option maxRecDepth 100000 in
theorem w_X2_vesselOf_23 {E : sv_E} {X : sv_X} {z0 : Nat} {q : Option Nat × gh_T × gh_V × Nat} {a0 : Nat} (C : sv_C E X cX2_vesselOf RX2 []) (hZ : sv_Z E X (some (.object "SeaReceiver$Vessel")) (some (va_rf q.1)) (gh_w E q.2.1 q.2.2.1) q.2.2.2 (q.2.2.2 - z0) (128 * (q.2.2.2 - z0))) (hR : sv_R X = { frames := 2, cells := q.2.2.2 - z0, slots := 128 * (q.2.2.2 - z0), locals := 44 }) (hN : sv_nL X = 3) (T : gh_T) (V : gh_V) (z : Nat) (x1 : Int32) (hT : gh_ok T) (hz : gh_fr T z) (h0 : z0 ≤ z) (o_a0 : gh_is T a0 2) (hf : f_X2_vesselOf_23 a0 T V z x1 = some q) : sv_J E X (gh_w E T V) z (z - z0) (128 * (z - z0)) 23 [(0, .ref a0), (1, .int x1)] [] := by
  have hle0 : z ≤ q.2.2.2 := (e_X2_vesselOf_23 _ _ _ _ hT hz o_a0 hf).le
  rw [f_X2_vesselOf_23] at hf
  refine sv_aload_n 0 C dX2_vesselOf_23 rfl rfl ?_
  refine gh_geti C fl_X2_17 o_a0 (by decide) (by decide) dX2_vesselOf_24 ?_
  refine sv_if_lt (tgt := 39) C dX2_vesselOf_27 (by decide) (fun c27 => ?_) (fun c27 => ?_)
  · replace hf := sv_if_t c27 hf
    refine sv_sub (lv' := []) [] rfl ?_
    exact w_X2_vesselOf_39 C hZ hR hN _ _ _ hT hz h0 o_a0 hf
  · replace hf := sv_if_f c27 hf
    refine sv_aload_n 0 C dX2_vesselOf_30 rfl rfl ?_
    refine gh_geti C fl_X2_17 o_a0 (by decide) (by decide) dX2_vesselOf_31 ?_
    refine sv_bipush (v := 40) C dX2_vesselOf_34 (by decide) ?_
    refine sv_icmp_lt (tgt := 41) C dX2_vesselOf_36 (by decide) (fun c36 => ?_) (fun c36 => ?_)
    · replace hf := sv_if_t c36 hf
      refine sv_aload_n 0 C dX2_vesselOf_41 rfl rfl ?_
      obtain ⟨b42, hb42, hf⟩ := sv_bind_some hf
      have o_b42 : gh_is T b42 13 := gh_okr hT o_a0 rfl hb42
      refine gh_getr (d := 13) C fl_X2_13 o_a0 (by decide) (by decide) hb42 dX2_vesselOf_42 ?_
      refine sv_aload_n 0 C dX2_vesselOf_45 rfl rfl ?_
      refine gh_geti C fl_X2_17 o_a0 (by decide) (by decide) dX2_vesselOf_46 ?_
      obtain ⟨g49, hf⟩ := sv_g_some hf
      refine gh_aald (t0 := 5) C o_b42 (by decide) rfl g49 dX2_vesselOf_49 ?_
      cases hb49 : T.2.2.2.2 b42 (V.1 1 a0).toNatClampNeg with
      | none =>
        rw [hb49] at hf
        refine sv_ifnonnullN C dX2_vesselOf_50 ?_
        refine sv_aload_n 0 C dX2_vesselOf_53 rfl rfl ?_
        obtain ⟨b54, hb54, hf⟩ := sv_bind_some hf
        have o_b54 : gh_is T b54 13 := gh_okr hT o_a0 rfl hb54
        refine gh_getr (d := 13) C fl_X2_13 o_a0 (by decide) (by decide) hb54 dX2_vesselOf_54 ?_
        refine sv_aload_n 0 C dX2_vesselOf_57 rfl rfl ?_
        refine gh_geti C fl_X2_17 o_a0 (by decide) (by decide) dX2_vesselOf_58 ?_
        have x61 := gh_X.new (c := 7) hT hz (by decide)
        have hT0 := hT
        have hz0 := hz
        replace hT := x61.ok
        replace hz := x61.fr
        replace o_a0 := x61.is o_a0
        replace o_b42 := x61.is o_b42
        replace o_b54 := x61.is o_b54
        have o_n61 : gh_is (gh_new T z 7) z 7 := gh_is.mk
        have hle : z + 1 ≤ q.2.2.2 := (e_X2_vesselOf_64 _ _ _ _ _ _ _ hT hz o_a0 o_n61 o_b54 hf).le
        refine gh_mk C hz0 cl_X2_11 (by decide) ⟨by rw [hR]; show z - z0 + 1 ≤ q.2.2.2 - z0; omega, by rw [hR]; show 128 * (z - z0) + 3 ≤ 128 * (q.2.2.2 - z0); omega⟩ dX2_vesselOf_61 ?_
        refine sv_widen (k := z + 1 - z0) (n := 128 * (z + 1 - z0)) (by omega) (by omega) ?_
        have h0 : z0 ≤ z + 1 := Nat.le_trans h0 x61.le
        show sv_J E X (gh_w E (gh_new T z 7) (gh_nv V z)) (z + 1) ((z + 1) - z0) (128 * ((z + 1) - z0)) 64 [(0, .ref a0), (1, .int x1)] [.ref z, .int (V.1 1 a0), .ref b54]
        refine sv_sub (lv' := [(0, .ref a0), (1, .int x1)]) [0, 1] rfl ?_
        exact w_X2_vesselOf_64 C hZ hR hN _ _ _ _ _ _ _ hT hz h0 o_a0 o_n61 o_b54 hf
      | some b49 =>
        rw [hb49] at hf
        have o_b49 : gh_is T b49 7 := hT.2.2 _ _ _ o_b42 hb49
        refine sv_ifnonnull (tgt := 69) C dX2_vesselOf_50 (by decide) ?_
        refine sv_sub (lv' := [(0, .ref a0), (1, .int x1)]) [0, 1] rfl ?_
        exact w_X2_vesselOf_69 C hZ hR hN _ _ _ _ hT hz h0 o_a0 hf
    · replace hf := sv_if_f c36 hf
      refine sv_sub (lv' := []) [] rfl ?_
      exact w_X2_vesselOf_39 C hZ hR hN _ _ _ hT hz h0 o_a0 hf
set_option maxHeartbeats 4000000 in
set_option maxRecDepth 100000 in
theorem e_X2_vesselOf (T : gh_T) (V : gh_V) (z : Nat) (a0 : Nat) (x1 : Int32) (q : Option Nat × gh_T × gh_V × Nat) (hf : f_X2_vesselOf T V z a0 x1 = some q) (hT : gh_ok T) (hz : gh_fr T z) (o_a0 : gh_is T a0 2) : gh_X T z q.2.1 q.2.2.2 := by
  have hx := gh_X.rf hT hz
  rw [f_X2_vesselOf] at hf
  obtain ⟨q2, hc2, hf⟩ := sv_bind_some hf
  rcases (Decidable.em (q2.1 < 0)) with c7 | c7
  · replace hf := sv_if_t c7 hf
    exact hx.trans (e_X2_vesselOf_23 _ _ _ _ hT hz o_a0 hf)
  · replace hf := sv_if_f c7 hf
    rcases (Decidable.em (40 ≤ q2.1)) with c13 | c13
    · replace hf := sv_if_t c13 hf
      exact hx.trans (e_X2_vesselOf_23 _ _ _ _ hT hz o_a0 hf)
    · replace hf := sv_if_f c13 hf
      obtain ⟨b17, hb17, hf⟩ := sv_bind_some hf
      have o_b17 : gh_is T b17 13 := gh_okr hT o_a0 rfl hb17
      obtain ⟨g21, hf⟩ := sv_g_some hf
      cases hb21 : T.2.2.2.2 b17 q2.1.toNatClampNeg with
      | none =>
        rw [hb21] at hf
        cases hf
        exact hx
      | some b21 =>
        rw [hb21] at hf
        have o_b21 : gh_is T b21 7 := hT.2.2 _ _ _ o_b17 hb21
        cases hf
        exact hx
set_option maxHeartbeats 4000000 in
set_option maxRecDepth 100000 in
theorem m_X2_vesselOf (l : Launch) (E : sv_E) (T : gh_T) (V : gh_V) (z : Nat) (a0 : Nat) (x1 : Int32) (q : Option Nat × gh_T × gh_V × Nat) (hf : f_X2_vesselOf T V z a0 x1 = some q) (hT : gh_ok T) (hz : gh_fr T z) (o_a0 : gh_is T a0 2) : sv_Met l E yX2_vesselOf cX2_vesselOf 3 (some (.object "SeaReceiver$Vessel")) 2 44 [] [.ref a0, .int x1] (gh_w E T V) z (some (va_rf q.1)) (gh_w E q.2.1 q.2.2.1) q.2.2.2 (q.2.2.2 - z) (128 * (q.2.2.2 - z)) := by
  refine sv_ofJ (by decide) (Nat.le_of_ble_eq_true rfl) ?_
  intro X hX hN hnm hR C hZ
  replace C : sv_C E X cX2_vesselOf RX2 [] := C
  obtain ⟨z0, hz0⟩ : ∃ z0 : Nat, z0 = z := ⟨z, rfl⟩
  have h0 : z0 ≤ z := Nat.le_of_eq hz0
  rw [← hz0] at hR hZ
  refine sv_widen (k := z - z0) (n := 128 * (z - z0)) (Nat.zero_le _) (Nat.zero_le _) ?_
  show sv_J E X (gh_w E T V) z (z - z0) (128 * (z - z0)) 0 [(0, .ref a0), (1, .int x1)] []
  have hle0 : z ≤ q.2.2.2 := (e_X2_vesselOf _ _ _ _ _ _ hf hT hz o_a0).le
  rw [f_X2_vesselOf] at hf
  refine sv_aload_n 0 C dX2_vesselOf_0 rfl rfl ?_
  refine sv_iload_n 1 C dX2_vesselOf_1 rfl rfl ?_
  obtain ⟨q2, hc2, hf⟩ := sv_bind_some hf
  refine gh_callV0 C mv_X2_26 (m_X2_numberOf (sv_l X) E T z _ _ _ _ hc2 hT o_a0) sv_sx0 o_a0 (by decide) rfl rfl rfl (Nat.le_of_ble_eq_true rfl) ⟨by rw [hR]; exact Nat.le_of_ble_eq_true rfl, by rw [hR]; exact Nat.le_of_ble_eq_true rfl⟩ ⟨by rw [hR]; exact Nat.sub_le_sub_right hle0 _, by rw [hR]; exact Nat.mul_le_mul_left 128 (Nat.sub_le_sub_right hle0 _)⟩ dX2_vesselOf_2 ?_
  refine sv_istore_n (lv' := [(2, .int q2.1), (0, .ref a0), (1, .int x1)]) C dX2_vesselOf_5 rfl (by rw [hN]; decide) rfl ?_
  refine sv_iload_n 0 C dX2_vesselOf_6 rfl rfl ?_
  refine sv_if_lt (tgt := 23) C dX2_vesselOf_7 (by decide) (fun c7 => ?_) (fun c7 => ?_)
  · replace hf := sv_if_t c7 hf
    refine sv_sub (lv' := [(0, .ref a0), (1, .int x1)]) [1, 2] rfl ?_
    exact w_X2_vesselOf_23 C hZ hR hN _ _ _ _ hT hz h0 o_a0 hf
  · replace hf := sv_if_f c7 hf
    refine sv_iload_n 0 C dX2_vesselOf_10 rfl rfl ?_
    refine sv_bipush (v := 40) C dX2_vesselOf_11 (by decide) ?_
    refine sv_icmp_ge (tgt := 23) C dX2_vesselOf_13 (by decide) (fun c13 => ?_) (fun c13 => ?_)
    · replace hf := sv_if_t c13 hf
      refine sv_sub (lv' := [(0, .ref a0), (1, .int x1)]) [1, 2] rfl ?_
      exact w_X2_vesselOf_23 C hZ hR hN _ _ _ _ hT hz h0 o_a0 hf
    · replace hf := sv_if_f c13 hf
      refine sv_aload_n 1 C dX2_vesselOf_16 rfl rfl ?_
      obtain ⟨b17, hb17, hf⟩ := sv_bind_some hf
      have o_b17 : gh_is T b17 13 := gh_okr hT o_a0 rfl hb17
      refine gh_getr (d := 13) C fl_X2_13 o_a0 (by decide) (by decide) hb17 dX2_vesselOf_17 ?_
      refine sv_iload_n 0 C dX2_vesselOf_20 rfl rfl ?_
      obtain ⟨g21, hf⟩ := sv_g_some hf
      refine gh_aald (t0 := 5) C o_b17 (by decide) rfl g21 dX2_vesselOf_21 ?_
      cases hb21 : T.2.2.2.2 b17 q2.1.toNatClampNeg with
      | none =>
        rw [hb21] at hf
        exact sv_aret C (Or.inl ⟨_, rfl⟩) (Or.inl rfl) (by cases hf; exact hZ) dX2_vesselOf_22
      | some b21 =>
        rw [hb21] at hf
        have o_b21 : gh_is T b21 7 := hT.2.2 _ _ _ o_b17 hb21
        exact sv_aret C (Or.inl ⟨_, rfl⟩) (Or.inr ⟨_, rfl⟩) (by cases hf; exact hZ) dX2_vesselOf_22
def f_X8_receive_48 (a0 : Nat) (T : gh_T) (V : gh_V) (z : Nat) : Option (gh_T × gh_V × Nat) :=
  (T.2.2.1 0 a0).bind (fun b49 =>
    sv_g (sv_inb (6 : Int32) (T.2.2.2.1 b49)) (
      sv_g (sv_inb (6 : Int32) (T.2.2.2.1 b49)) (
        some (T, gh_pa V b49 6 ((V.2 b49 (6 : Int32).toNatClampNeg) + 1), z))))
def f_X8_receive_88 (a0 : Nat) (T : gh_T) (V : gh_V) (z : Nat) (x1 : Int32) (rs0 : Option Nat) : Option (gh_T × gh_V × Nat) :=
  match rs0 with
  | none =>
      (T.2.2.1 0 a0).bind (fun b94 =>
        sv_g (sv_inb (8 : Int32) (T.2.2.2.1 b94)) (
          sv_g (sv_inb (8 : Int32) (T.2.2.2.1 b94)) (
            some (T, gh_pa V b94 8 ((V.2 b94 (8 : Int32).toNatClampNeg) + 1), z))))
  | some b88 =>
    sv_g (gh_isb T b88 7) (
      (T.2.2.1 7 a0).bind (fun b108 =>
        (f_X7_learn T V b88 x1 b108).bind (fun q111 =>
          some (T, q111, z))))
def f_X8_receive_27 (a0 : Nat) (T : gh_T) (V : gh_V) (z : Nat) (s0 : Int32) : Option (gh_T × gh_V × Nat) :=
  if s0 = (-2147483648) then
    f_X8_receive_48 a0 T V z
  else
    (f_X7_bitsOf T V s0).bind (fun q35 =>
      (T.2.2.1 7 a0).bind (fun b39 =>
        if q35.1 = (q35.2.1 2 b39) then
          (T.2.2.1 0 a0).bind (fun b61 =>
            sv_g (sv_inb (5 : Int32) (T.2.2.2.1 b61)) (
              sv_g (sv_inb (5 : Int32) (T.2.2.2.1 b61)) (
                (T.2.2.1 8 a0).bind (fun b71 =>
                  (T.2.2.1 7 a0).bind (fun b75 =>
                    (f_X0_read T (gh_pa q35.2 b61 5 ((q35.2.2 b61 (5 : Int32).toNatClampNeg) + 1)) b75 8 30).bind (fun q82 =>
                      (f_X2_vesselOf T q82.2 z b71 q82.1).bind (fun q85 =>
                        f_X8_receive_88 a0 q85.2.1 q85.2.2.1 q85.2.2.2 s0 q85.1)))))))
        else
          f_X8_receive_48 a0 T q35.2 z))
def f_X8_receive (T : gh_T) (V : gh_V) (z : Nat) (a0 : Nat) : Option (gh_T × gh_V × Nat) :=
  (T.2.2.1 7 a0).bind (fun b1 =>
    if 38 ≤ (V.1 2 b1) then
      (T.2.2.1 7 a0).bind (fun b18 =>
        (f_X0_read T V b18 0 6).bind (fun q24 =>
          f_X8_receive_27 a0 T q24.2 z q24.1))
    else
      f_X8_receive_27 a0 T V z (-2147483648))
set_option maxHeartbeats 4000000 in
set_option maxRecDepth 100000 in
theorem e_X8_receive_48 {q : gh_T × gh_V × Nat} {a0 : Nat} (T : gh_T) (V : gh_V) (z : Nat) (hT : gh_ok T) (hz : gh_fr T z) (o_a0 : gh_is T a0 8) (hf : f_X8_receive_48 a0 T V z = some q) : gh_X T z q.1 q.2.2 := by
  have hx := gh_X.rf hT hz
  rw [f_X8_receive_48] at hf
  obtain ⟨b49, hb49, hf⟩ := sv_bind_some hf
  have o_b49 : gh_is T b49 10 := gh_okr hT o_a0 rfl hb49
  obtain ⟨g55, hf⟩ := sv_g_some hf
  obtain ⟨g58, hf⟩ := sv_g_some hf
  cases hf
  exact hx
set_option maxHeartbeats 4000000 in
set_option maxRecDepth 100000 in
theorem w_X8_receive_48 {E : sv_E} {X : sv_X} {z0 : Nat} {q : gh_T × gh_V × Nat} {a0 : Nat} (C : sv_C E X cX8_receive RX8 []) (hZ : sv_Z E X none none (gh_w E q.1 q.2.1) q.2.2 (q.2.2 - z0) (128 * (q.2.2 - z0))) (hR : sv_R X = { frames := 3, cells := q.2.2 - z0, slots := 128 * (q.2.2 - z0), locals := 80 }) (hN : sv_nL X = 3) (T : gh_T) (V : gh_V) (z : Nat) (hT : gh_ok T) (hz : gh_fr T z) (h0 : z0 ≤ z) (o_a0 : gh_is T a0 8) (hf : f_X8_receive_48 a0 T V z = some q) : sv_J E X (gh_w E T V) z (z - z0) (128 * (z - z0)) 48 [(0, .ref a0)] [] := by
  have hle0 : z ≤ q.2.2 := (e_X8_receive_48 _ _ _ hT hz o_a0 hf).le
  rw [f_X8_receive_48] at hf
  refine sv_aload_n 0 C dX8_receive_48 rfl rfl ?_
  obtain ⟨b49, hb49, hf⟩ := sv_bind_some hf
  have o_b49 : gh_is T b49 10 := gh_okr hT o_a0 rfl hb49
  refine gh_getr (d := 10) C fl_X8_9 o_a0 (by decide) (by decide) hb49 dX8_receive_49 ?_
  refine sv_bipush (v := 6) C dX8_receive_52 (by decide) ?_
  refine sv_dup2 C dX8_receive_54 rfl rfl ?_
  obtain ⟨g55, hf⟩ := sv_g_some hf
  refine gh_iald C o_b49 g55 dX8_receive_55 ?_
  refine sv_iconst (v := 1) C dX8_receive_56 (by decide) ?_
  refine sv_iadd C dX8_receive_57 ?_
  obtain ⟨g58, hf⟩ := sv_g_some hf
  refine gh_iast C o_b49 g58 dX8_receive_58 ?_
  exact sv_vret C (by cases hf; exact hZ) dX8_receive_59
set_option maxHeartbeats 4000000 in
set_option maxRecDepth 100000 in
theorem e_X8_receive_88 {q : gh_T × gh_V × Nat} {a0 : Nat} (T : gh_T) (V : gh_V) (z : Nat) (x1 : Int32) (rs0 : Option Nat) (hT : gh_ok T) (hz : gh_fr T z) (o_a0 : gh_is T a0 8) (hf : f_X8_receive_88 a0 T V z x1 rs0 = some q) : gh_X T z q.1 q.2.2 := by
  have hx := gh_X.rf hT hz
  unfold f_X8_receive_88 at hf
  cases rs0 with
  | none =>
    obtain ⟨b94, hb94, hf⟩ := sv_bind_some hf
    have o_b94 : gh_is T b94 10 := gh_okr hT o_a0 rfl hb94
    obtain ⟨g100, hf⟩ := sv_g_some hf
    obtain ⟨g103, hf⟩ := sv_g_some hf
    cases hf
    exact hx
  | some b88 =>
    obtain ⟨g88, hf⟩ := sv_g_some hf
    have o_b88 : gh_is T b88 7 := gh_isb_is g88
    obtain ⟨b108, hb108, hf⟩ := sv_bind_some hf
    have o_b108 : gh_is T b108 0 := gh_okr hT o_a0 rfl hb108
    obtain ⟨q111, hc111, hf⟩ := sv_bind_some hf
    cases hf
    exact hx
set_option maxHeartbeats 4000000 in
set_option maxRecDepth 100000 in
theorem w_X8_receive_88 {E : sv_E} {X : sv_X} {z0 : Nat} {q : gh_T × gh_V × Nat} {a0 : Nat} (C : sv_C E X cX8_receive RX8 []) (hZ : sv_Z E X none none (gh_w E q.1 q.2.1) q.2.2 (q.2.2 - z0) (128 * (q.2.2 - z0))) (hR : sv_R X = { frames := 3, cells := q.2.2 - z0, slots := 128 * (q.2.2 - z0), locals := 80 }) (hN : sv_nL X = 3) (T : gh_T) (V : gh_V) (z : Nat) (x1 : Int32) (rs0 : Option Nat) (hT : gh_ok T) (hz : gh_fr T z) (h0 : z0 ≤ z) (o_a0 : gh_is T a0 8) (hf : f_X8_receive_88 a0 T V z x1 rs0 = some q) : sv_J E X (gh_w E T V) z (z - z0) (128 * (z - z0)) 88 [(0, .ref a0), (1, .int x1)] [va_rf rs0] := by
  have hle0 : z ≤ q.2.2 := (e_X8_receive_88 _ _ _ _ _ hT hz o_a0 hf).le
  unfold f_X8_receive_88 at hf
  cases rs0 with
  | none =>
    show sv_J E X (gh_w E T V) z (z - z0) (128 * (z - z0)) 88 [(0, .ref a0), (1, .int x1)] [.null]
    refine sv_astore_nN (lv' := [(2, .null), (0, .ref a0), (1, .int x1)]) C dX8_receive_88 rfl (by rw [hN]; decide) rfl ?_
    refine sv_aload_nN 0 C dX8_receive_89 rfl rfl ?_
    refine sv_ifnonnullN C dX8_receive_90 ?_
    refine sv_aload_n 1 C dX8_receive_93 rfl rfl ?_
    obtain ⟨b94, hb94, hf⟩ := sv_bind_some hf
    have o_b94 : gh_is T b94 10 := gh_okr hT o_a0 rfl hb94
    refine gh_getr (d := 10) C fl_X8_9 o_a0 (by decide) (by decide) hb94 dX8_receive_94 ?_
    refine sv_bipush (v := 8) C dX8_receive_97 (by decide) ?_
    refine sv_dup2 C dX8_receive_99 rfl rfl ?_
    obtain ⟨g100, hf⟩ := sv_g_some hf
    refine gh_iald C o_b94 g100 dX8_receive_100 ?_
    refine sv_iconst (v := 1) C dX8_receive_101 (by decide) ?_
    refine sv_iadd C dX8_receive_102 ?_
    obtain ⟨g103, hf⟩ := sv_g_some hf
    refine gh_iast C o_b94 g103 dX8_receive_103 ?_
    exact sv_vret C (by cases hf; exact hZ) dX8_receive_104
  | some b88 =>
    obtain ⟨g88, hf⟩ := sv_g_some hf
    have o_b88 : gh_is T b88 7 := gh_isb_is g88
    show sv_J E X (gh_w E T V) z (z - z0) (128 * (z - z0)) 88 [(0, .ref a0), (1, .int x1)] [.ref b88]
    refine sv_astore_n (lv' := [(2, .ref b88), (0, .ref a0), (1, .int x1)]) C dX8_receive_88 rfl (by rw [hN]; decide) rfl ?_
    refine sv_aload_n 0 C dX8_receive_89 rfl rfl ?_
    refine sv_ifnonnull (tgt := 105) C dX8_receive_90 (by decide) ?_
    refine sv_aload_n 0 C dX8_receive_105 rfl rfl ?_
    refine sv_iload_n 2 C dX8_receive_106 rfl rfl ?_
    refine sv_aload_n 1 C dX8_receive_107 rfl rfl ?_
    obtain ⟨b108, hb108, hf⟩ := sv_bind_some hf
    have o_b108 : gh_is T b108 0 := gh_okr hT o_a0 rfl hb108
    refine gh_getr (d := 0) C fl_X8_56 o_a0 (by decide) (by decide) hb108 dX8_receive_108 ?_
    obtain ⟨q111, hc111, hf⟩ := sv_bind_some hf
    refine gh_callV0 C mv_X8_262 (m_X7_learn (sv_l X) E T z _ _ _ _ _ hc111 hT o_b88 o_b108) sv_sx0 o_b88 (by decide) rfl rfl rfl (Nat.le_of_ble_eq_true rfl) ⟨by rw [hR]; exact Nat.le_of_ble_eq_true rfl, by rw [hR]; exact Nat.le_of_ble_eq_true rfl⟩ ⟨by rw [hR]; exact Nat.sub_le_sub_right hle0 _, by rw [hR]; exact Nat.mul_le_mul_left 128 (Nat.sub_le_sub_right hle0 _)⟩ dX8_receive_111 ?_
    exact sv_vret C (by cases hf; exact hZ) dX8_receive_114
set_option maxHeartbeats 4000000 in
set_option maxRecDepth 100000 in
theorem e_X8_receive_27 {q : gh_T × gh_V × Nat} {a0 : Nat} (T : gh_T) (V : gh_V) (z : Nat) (s0 : Int32) (hT : gh_ok T) (hz : gh_fr T z) (o_a0 : gh_is T a0 8) (hf : f_X8_receive_27 a0 T V z s0 = some q) : gh_X T z q.1 q.2.2 := by
  have hx := gh_X.rf hT hz
  rw [f_X8_receive_27] at hf
  rcases (Decidable.em (s0 = (-2147483648))) with c31 | c31
  · replace hf := sv_if_t c31 hf
    exact hx.trans (e_X8_receive_48 _ _ _ hT hz o_a0 hf)
  · replace hf := sv_if_f c31 hf
    obtain ⟨q35, hc35, hf⟩ := sv_bind_some hf
    obtain ⟨b39, hb39, hf⟩ := sv_bind_some hf
    have o_b39 : gh_is T b39 0 := gh_okr hT o_a0 rfl hb39
    rcases (Decidable.em (q35.1 = (q35.2.1 2 b39))) with c45 | c45
    · replace hf := sv_if_t c45 hf
      obtain ⟨b61, hb61, hf⟩ := sv_bind_some hf
      have o_b61 : gh_is T b61 10 := gh_okr hT o_a0 rfl hb61
      obtain ⟨g66, hf⟩ := sv_g_some hf
      obtain ⟨g69, hf⟩ := sv_g_some hf
      obtain ⟨b71, hb71, hf⟩ := sv_bind_some hf
      have o_b71 : gh_is T b71 2 := gh_okr hT o_a0 rfl hb71
      obtain ⟨b75, hb75, hf⟩ := sv_bind_some hf
      have o_b75 : gh_is T b75 0 := gh_okr hT o_a0 rfl hb75
      obtain ⟨q82, hc82, hf⟩ := sv_bind_some hf
      obtain ⟨q85, hc85, hf⟩ := sv_bind_some hf
      have x85 := e_X2_vesselOf _ _ _ _ _ _ hc85 hT hz o_b71
      have o0_85 := o_b71
      have hT0 := hT
      have hz0 := hz
      replace hT := x85.ok
      replace hz := x85.fr
      replace o_a0 := x85.is o_a0
      replace o_b39 := x85.is o_b39
      replace o_b61 := x85.is o_b61
      replace o_b71 := x85.is o_b71
      replace o_b75 := x85.is o_b75
      replace hx := hx.trans x85
      exact hx.trans (e_X8_receive_88 _ _ _ _ _ hT hz o_a0 hf)
    · replace hf := sv_if_f c45 hf
      exact hx.trans (e_X8_receive_48 _ _ _ hT hz o_a0 hf)
set_option maxHeartbeats 4000000 in
set_option maxRecDepth 100000 in
theorem w_X8_receive_27 {E : sv_E} {X : sv_X} {z0 : Nat} {q : gh_T × gh_V × Nat} {a0 : Nat} (C : sv_C E X cX8_receive RX8 []) (hZ : sv_Z E X none none (gh_w E q.1 q.2.1) q.2.2 (q.2.2 - z0) (128 * (q.2.2 - z0))) (hR : sv_R X = { frames := 3, cells := q.2.2 - z0, slots := 128 * (q.2.2 - z0), locals := 80 }) (hN : sv_nL X = 3) (T : gh_T) (V : gh_V) (z : Nat) (s0 : Int32) (hT : gh_ok T) (hz : gh_fr T z) (h0 : z0 ≤ z) (o_a0 : gh_is T a0 8) (hf : f_X8_receive_27 a0 T V z s0 = some q) : sv_J E X (gh_w E T V) z (z - z0) (128 * (z - z0)) 27 [(0, .ref a0)] [.int s0] := by
  have hle0 : z ≤ q.2.2 := (e_X8_receive_27 _ _ _ _ hT hz o_a0 hf).le
  rw [f_X8_receive_27] at hf
  refine sv_istore_n (lv' := [(1, .int s0), (0, .ref a0)]) C dX8_receive_27 rfl (by rw [hN]; decide) rfl ?_
  refine sv_iload_n 0 C dX8_receive_28 rfl rfl ?_
  refine sv_ldc C kw_397 dX8_receive_29 ?_
  refine sv_icmp_eq (tgt := 48) C dX8_receive_31 (by decide) (fun c31 => ?_) (fun c31 => ?_)
  · replace hf := sv_if_t c31 hf
    refine sv_sub (lv' := [(0, .ref a0)]) [1] rfl ?_
    exact w_X8_receive_48 C hZ hR hN _ _ _ hT hz h0 o_a0 hf
  · replace hf := sv_if_f c31 hf
    refine sv_iload_n 0 C dX8_receive_34 rfl rfl ?_
    obtain ⟨q35, hc35, hf⟩ := sv_bind_some hf
    refine sv_callS0 C ms_X8_256 (m_X7_bitsOf (sv_l X) E T z _ _ _ hc35 hT) sv_sx0 rfl rfl (Nat.le_of_ble_eq_true rfl) ⟨by rw [hR]; exact Nat.le_of_ble_eq_true rfl, by rw [hR]; exact Nat.le_of_ble_eq_true rfl⟩ ⟨by rw [hR]; exact Nat.sub_le_sub_right hle0 _, by rw [hR]; exact Nat.mul_le_mul_left 128 (Nat.sub_le_sub_right hle0 _)⟩ dX8_receive_35 ?_
    refine sv_aload_n 1 C dX8_receive_38 rfl rfl ?_
    obtain ⟨b39, hb39, hf⟩ := sv_bind_some hf
    have o_b39 : gh_is T b39 0 := gh_okr hT o_a0 rfl hb39
    refine gh_getr (d := 0) C fl_X8_56 o_a0 (by decide) (by decide) hb39 dX8_receive_39 ?_
    refine gh_geti C fl_X8_132 o_b39 (by decide) (by decide) dX8_receive_42 ?_
    refine sv_icmp_eq (tgt := 60) C dX8_receive_45 (by decide) (fun c45 => ?_) (fun c45 => ?_)
    · replace hf := sv_if_t c45 hf
      refine sv_aload_n 1 C dX8_receive_60 rfl rfl ?_
      obtain ⟨b61, hb61, hf⟩ := sv_bind_some hf
      have o_b61 : gh_is T b61 10 := gh_okr hT o_a0 rfl hb61
      refine gh_getr (d := 10) C fl_X8_9 o_a0 (by decide) (by decide) hb61 dX8_receive_61 ?_
      refine sv_iconst (v := 5) C dX8_receive_64 (by decide) ?_
      refine sv_dup2 C dX8_receive_65 rfl rfl ?_
      obtain ⟨g66, hf⟩ := sv_g_some hf
      refine gh_iald C o_b61 g66 dX8_receive_66 ?_
      refine sv_iconst (v := 1) C dX8_receive_67 (by decide) ?_
      refine sv_iadd C dX8_receive_68 ?_
      obtain ⟨g69, hf⟩ := sv_g_some hf
      refine gh_iast C o_b61 g69 dX8_receive_69 ?_
      refine sv_aload_n 1 C dX8_receive_70 rfl rfl ?_
      obtain ⟨b71, hb71, hf⟩ := sv_bind_some hf
      have o_b71 : gh_is T b71 2 := gh_okr hT o_a0 rfl hb71
      refine gh_getr (d := 2) C fl_X8_63 o_a0 (by decide) (by decide) hb71 dX8_receive_71 ?_
      refine sv_aload_n 1 C dX8_receive_74 rfl rfl ?_
      obtain ⟨b75, hb75, hf⟩ := sv_bind_some hf
      have o_b75 : gh_is T b75 0 := gh_okr hT o_a0 rfl hb75
      refine gh_getr (d := 0) C fl_X8_56 o_a0 (by decide) (by decide) hb75 dX8_receive_75 ?_
      refine sv_bipush (v := 8) C dX8_receive_78 (by decide) ?_
      refine sv_bipush (v := 30) C dX8_receive_80 (by decide) ?_
      obtain ⟨q82, hc82, hf⟩ := sv_bind_some hf
      refine gh_callV0 C mv_X8_137 (m_X0_read (sv_l X) E T z _ _ _ _ _ hc82 hT o_b75) sv_sx0 o_b75 (by decide) rfl rfl rfl (Nat.le_of_ble_eq_true rfl) ⟨by rw [hR]; exact Nat.le_of_ble_eq_true rfl, by rw [hR]; exact Nat.le_of_ble_eq_true rfl⟩ ⟨by rw [hR]; exact Nat.sub_le_sub_right hle0 _, by rw [hR]; exact Nat.mul_le_mul_left 128 (Nat.sub_le_sub_right hle0 _)⟩ dX8_receive_82 ?_
      obtain ⟨q85, hc85, hf⟩ := sv_bind_some hf
      have x85 := e_X2_vesselOf _ _ _ _ _ _ hc85 hT hz o_b71
      have o0_85 := o_b71
      have hT0 := hT
      have hz0 := hz
      replace hT := x85.ok
      replace hz := x85.fr
      replace o_a0 := x85.is o_a0
      replace o_b39 := x85.is o_b39
      replace o_b61 := x85.is o_b61
      replace o_b71 := x85.is o_b71
      replace o_b75 := x85.is o_b75
      have hle : q85.2.2.2 ≤ q.2.2 := (e_X8_receive_88 _ _ _ _ _ hT hz o_a0 hf).le
      have hxl := x85.le
      refine gh_callV C mv_X8_259 (m_X2_vesselOf (sv_l X) E _ _ _ _ _ _ hc85 hT0 hz0 o0_85) sv_sx0 o0_85 (by decide) rfl rfl rfl (Nat.le_of_ble_eq_true rfl) ⟨by rw [hR]; exact Nat.le_of_ble_eq_true rfl, by rw [hR]; exact Nat.le_of_ble_eq_true rfl⟩ ⟨by rw [hR]; show z - z0 + (q85.2.2.2 - z) ≤ q.2.2 - z0; omega, by rw [hR]; show 128 * (z - z0) + 128 * (q85.2.2.2 - z) ≤ 128 * (q.2.2 - z0); omega⟩ dX8_receive_85 ?_
      refine sv_widen (k := q85.2.2.2 - z0) (n := 128 * (q85.2.2.2 - z0)) (by omega) (by omega) ?_
      have h0 : z0 ≤ q85.2.2.2 := Nat.le_trans h0 x85.le
      show sv_J E X (gh_w E q85.2.1 q85.2.2.1) q85.2.2.2 (q85.2.2.2 - z0) (128 * (q85.2.2.2 - z0)) 88 [(1, .int s0), (0, .ref a0)] [va_rf q85.1]
      refine sv_sub (lv' := [(0, .ref a0), (1, .int s0)]) [1, 0] rfl ?_
      exact w_X8_receive_88 C hZ hR hN _ _ _ _ _ hT hz h0 o_a0 hf
    · replace hf := sv_if_f c45 hf
      refine sv_sub (lv' := [(0, .ref a0)]) [1] rfl ?_
      exact w_X8_receive_48 C hZ hR hN _ _ _ hT hz h0 o_a0 hf
set_option maxHeartbeats 4000000 in
set_option maxRecDepth 100000 in
theorem e_X8_receive (T : gh_T) (V : gh_V) (z : Nat) (a0 : Nat) (q : gh_T × gh_V × Nat) (hf : f_X8_receive T V z a0 = some q) (hT : gh_ok T) (hz : gh_fr T z) (o_a0 : gh_is T a0 8) : gh_X T z q.1 q.2.2 := by
  have hx := gh_X.rf hT hz
  rw [f_X8_receive] at hf
  obtain ⟨b1, hb1, hf⟩ := sv_bind_some hf
  have o_b1 : gh_is T b1 0 := gh_okr hT o_a0 rfl hb1
  rcases (Decidable.em (38 ≤ (V.1 2 b1))) with c9 | c9
  · replace hf := sv_if_t c9 hf
    obtain ⟨b18, hb18, hf⟩ := sv_bind_some hf
    have o_b18 : gh_is T b18 0 := gh_okr hT o_a0 rfl hb18
    obtain ⟨q24, hc24, hf⟩ := sv_bind_some hf
    exact hx.trans (e_X8_receive_27 _ _ _ _ hT hz o_a0 hf)
  · replace hf := sv_if_f c9 hf
    exact hx.trans (e_X8_receive_27 _ _ _ _ hT hz o_a0 hf)
set_option maxHeartbeats 4000000 in
set_option maxRecDepth 100000 in
theorem m_X8_receive (l : Launch) (E : sv_E) (T : gh_T) (V : gh_V) (z : Nat) (a0 : Nat) (q : gh_T × gh_V × Nat) (hf : f_X8_receive T V z a0 = some q) (hT : gh_ok T) (hz : gh_fr T z) (o_a0 : gh_is T a0 8) : sv_Met l E yX8_receive cX8_receive 3 none 3 80 [] [.ref a0] (gh_w E T V) z none (gh_w E q.1 q.2.1) q.2.2 (q.2.2 - z) (128 * (q.2.2 - z)) := by
  refine sv_ofJ (by decide) (Nat.le_of_ble_eq_true rfl) ?_
  intro X hX hN hnm hR C hZ
  replace C : sv_C E X cX8_receive RX8 [] := C
  obtain ⟨z0, hz0⟩ : ∃ z0 : Nat, z0 = z := ⟨z, rfl⟩
  have h0 : z0 ≤ z := Nat.le_of_eq hz0
  rw [← hz0] at hR hZ
  refine sv_widen (k := z - z0) (n := 128 * (z - z0)) (Nat.zero_le _) (Nat.zero_le _) ?_
  show sv_J E X (gh_w E T V) z (z - z0) (128 * (z - z0)) 0 [(0, .ref a0)] []
  have hle0 : z ≤ q.2.2 := (e_X8_receive _ _ _ _ _ hf hT hz o_a0).le
  rw [f_X8_receive] at hf
  refine sv_aload_n 0 C dX8_receive_0 rfl rfl ?_
  obtain ⟨b1, hb1, hf⟩ := sv_bind_some hf
  have o_b1 : gh_is T b1 0 := gh_okr hT o_a0 rfl hb1
  refine gh_getr (d := 0) C fl_X8_56 o_a0 (by decide) (by decide) hb1 dX8_receive_1 ?_
  refine gh_geti C fl_X8_132 o_b1 (by decide) (by decide) dX8_receive_4 ?_
  refine sv_bipush (v := 38) C dX8_receive_7 (by decide) ?_
  refine sv_icmp_ge (tgt := 17) C dX8_receive_9 (by decide) (fun c9 => ?_) (fun c9 => ?_)
  · replace hf := sv_if_t c9 hf
    refine sv_aload_n 0 C dX8_receive_17 rfl rfl ?_
    obtain ⟨b18, hb18, hf⟩ := sv_bind_some hf
    have o_b18 : gh_is T b18 0 := gh_okr hT o_a0 rfl hb18
    refine gh_getr (d := 0) C fl_X8_56 o_a0 (by decide) (by decide) hb18 dX8_receive_18 ?_
    refine sv_iconst (v := 0) C dX8_receive_21 (by decide) ?_
    refine sv_bipush (v := 6) C dX8_receive_22 (by decide) ?_
    obtain ⟨q24, hc24, hf⟩ := sv_bind_some hf
    refine gh_callV0 C mv_X8_137 (m_X0_read (sv_l X) E T z _ _ _ _ _ hc24 hT o_b18) sv_sx0 o_b18 (by decide) rfl rfl rfl (Nat.le_of_ble_eq_true rfl) ⟨by rw [hR]; exact Nat.le_of_ble_eq_true rfl, by rw [hR]; exact Nat.le_of_ble_eq_true rfl⟩ ⟨by rw [hR]; exact Nat.sub_le_sub_right hle0 _, by rw [hR]; exact Nat.mul_le_mul_left 128 (Nat.sub_le_sub_right hle0 _)⟩ dX8_receive_24 ?_
    refine sv_sub (lv' := [(0, .ref a0)]) [0] rfl ?_
    exact w_X8_receive_27 C hZ hR hN _ _ _ _ hT hz h0 o_a0 hf
  · replace hf := sv_if_f c9 hf
    refine sv_ldc C kw_397 dX8_receive_12 ?_
    refine sv_goto (tgt := 27) C dX8_receive_14 (by decide) ?_
    refine sv_sub (lv' := [(0, .ref a0)]) [0] rfl ?_
    exact w_X8_receive_27 C hZ hR hN _ _ _ _ hT hz h0 o_a0 hf
def f_X8_takePart_169 (a0 : Nat) (T : gh_T) (V : gh_V) (z : Nat) : Option (Int32 × gh_T × gh_V × Nat) :=
  some (1, T, V, z)
def f_X8_takePart_128 (a0 : Nat) (T : gh_T) (V : gh_V) (z : Nat) (x1 : Int32) (x2 : Int32) (x3 : Int32) (x4 : Int32) (rs0 : Option Nat) : Option (Int32 × gh_T × gh_V × Nat) :=
  match rs0 with
  | none =>
      (T.2.2.1 4 a0).bind (fun b131 =>
        none)
  | some b128 =>
    sv_g (gh_isb T b128 0) (
      (T.2.2.1 4 a0).bind (fun b131 =>
        (f_X1_unpack T V b131 5 x4 b128).bind (fun q139 =>
          if x2 = x1 then
            (T.2.2.1 7 a0).bind (fun b148 =>
              (f_X0_copy T q139 b148 b128).bind (fun q153 =>
                (T.2.2.1 6 a0).bind (fun b157 =>
                  (f_X3_drop T q153 b157 x3).bind (fun q161 =>
                    (f_X8_receive T q161.2 z a0).bind (fun q166 =>
                      f_X8_takePart_169 a0 q166.1 q166.2.1 q166.2.2)))))
          else
            f_X8_takePart_169 a0 T q139 z)))
def f_X8_takePart_64 (a0 : Nat) (T : gh_T) (V : gh_V) (z : Nat) (x1 : Int32) (x2 : Int32) (s0 : Int32) : Option (Int32 × gh_T × gh_V × Nat) :=
  (T.2.2.1 4 a0).bind (fun b66 =>
    (f_X1_oneOf T V b66 4 ([65, 66, 49, 50])).bind (fun q72 =>
      (T.2.2.1 4 a0).bind (fun b77 =>
        (f_X1_checkPack T q72.2 b77 5).bind (fun q81 =>
          (T.2.2.1 4 a0).bind (fun b85 =>
            (f_X1_digit T q81 b85 6 0 5).bind (fun q92 =>
              (T.2.2.1 4 a0).bind (fun b98 =>
                if (q92.2.1 3 b98) = 0 then
                  some (0, T, q92.2, z)
                else
                  (f_X8_isInOrder T q92.2 a0 s0 x1 x2).bind (fun q113 =>
                    if q113.1 = 0 then
                      f_X8_takePart_169 a0 T q113.2 z
                    else
                      (T.2.2.1 6 a0).bind (fun b120 =>
                        (f_X3_keep T q113.2 z b120 s0 x1).bind (fun q125 =>
                          f_X8_takePart_128 a0 q125.2.1 q125.2.2.1 q125.2.2.2 x1 x2 s0 q92.1 q125.1))))))))))
def f_X8_takePart (T : gh_T) (V : gh_V) (z : Nat) (a0 : Nat) : Option (Int32 × gh_T × gh_V × Nat) :=
  (T.2.2.1 4 a0).bind (fun b1 =>
    if (V.1 2 b1) = 7 then
      (T.2.2.1 4 a0).bind (fun b15 =>
        (f_X1_digit T V b15 1 1 9).bind (fun q22 =>
          (T.2.2.1 4 a0).bind (fun b27 =>
            (f_X1_digit T q22.2 b27 2 1 q22.1).bind (fun q33 =>
              (T.2.2.1 4 a0).bind (fun b38 =>
                (f_X1_isEmpty T q33.2 b38 3).bind (fun q42 =>
                  if q42.1 = 0 then
                    (T.2.2.1 4 a0).bind (fun b54 =>
                      (f_X1_digit T q42.2 b54 3 0 9).bind (fun q61 =>
                        f_X8_takePart_64 a0 T q61.2 z q22.1 q33.1 q61.1))
                  else
                    f_X8_takePart_64 a0 T q42.2 z q22.1 q33.1 10))))))
    else
      some (0, T, V, z))
set_option maxHeartbeats 4000000 in
set_option maxRecDepth 100000 in
theorem e_X8_takePart_169 {q : Int32 × gh_T × gh_V × Nat} {a0 : Nat} (T : gh_T) (V : gh_V) (z : Nat) (hT : gh_ok T) (hz : gh_fr T z) (o_a0 : gh_is T a0 8) (hf : f_X8_takePart_169 a0 T V z = some q) : gh_X T z q.2.1 q.2.2.2 := by
  have hx := gh_X.rf hT hz
  rw [f_X8_takePart_169] at hf
  cases hf
  exact hx
set_option maxHeartbeats 4000000 in
set_option maxRecDepth 100000 in
theorem w_X8_takePart_169 {E : sv_E} {X : sv_X} {z0 : Nat} {q : Int32 × gh_T × gh_V × Nat} {a0 : Nat} (C : sv_C E X cX8_takePart RX8 []) (hZ : sv_Z E X (some .boolean) (some (.int q.1)) (gh_w E q.2.1 q.2.2.1) q.2.2.2 (q.2.2.2 - z0) (128 * (q.2.2.2 - z0))) (hR : sv_R X = { frames := 5, cells := q.2.2.2 - z0, slots := 128 * (q.2.2.2 - z0), locals := 115 }) (hN : sv_nL X = 6) (T : gh_T) (V : gh_V) (z : Nat) (hT : gh_ok T) (hz : gh_fr T z) (h0 : z0 ≤ z) (o_a0 : gh_is T a0 8) (hf : f_X8_takePart_169 a0 T V z = some q) : sv_J E X (gh_w E T V) z (z - z0) (128 * (z - z0)) 169 [] [] := by
  have hle0 : z ≤ q.2.2.2 := (e_X8_takePart_169 _ _ _ hT hz o_a0 hf).le
  rw [f_X8_takePart_169] at hf
  refine sv_iconst (v := 1) C dX8_takePart_169 (by decide) ?_
  exact sv_zret (ty := .boolean) C (by decide) (by cases hf; exact hZ) dX8_takePart_170
set_option maxHeartbeats 4000000 in
set_option maxRecDepth 100000 in
theorem e_X8_takePart_128 {q : Int32 × gh_T × gh_V × Nat} {a0 : Nat} (T : gh_T) (V : gh_V) (z : Nat) (x1 : Int32) (x2 : Int32) (x3 : Int32) (x4 : Int32) (rs0 : Option Nat) (hT : gh_ok T) (hz : gh_fr T z) (o_a0 : gh_is T a0 8) (hf : f_X8_takePart_128 a0 T V z x1 x2 x3 x4 rs0 = some q) : gh_X T z q.2.1 q.2.2.2 := by
  have hx := gh_X.rf hT hz
  unfold f_X8_takePart_128 at hf
  cases rs0 with
  | none =>
    obtain ⟨b131, hb131, hf⟩ := sv_bind_some hf
    have o_b131 : gh_is T b131 1 := gh_okr hT o_a0 rfl hb131
    cases hf
  | some b128 =>
    obtain ⟨g128, hf⟩ := sv_g_some hf
    have o_b128 : gh_is T b128 0 := gh_isb_is g128
    obtain ⟨b131, hb131, hf⟩ := sv_bind_some hf
    have o_b131 : gh_is T b131 1 := gh_okr hT o_a0 rfl hb131
    obtain ⟨q139, hc139, hf⟩ := sv_bind_some hf
    rcases (Decidable.em (x2 = x1)).symm with c144 | c144
    · replace hf := sv_if_f c144 hf
      exact hx.trans (e_X8_takePart_169 _ _ _ hT hz o_a0 hf)
    · replace hf := sv_if_t c144 hf
      obtain ⟨b148, hb148, hf⟩ := sv_bind_some hf
      have o_b148 : gh_is T b148 0 := gh_okr hT o_a0 rfl hb148
      obtain ⟨q153, hc153, hf⟩ := sv_bind_some hf
      obtain ⟨b157, hb157, hf⟩ := sv_bind_some hf
      have o_b157 : gh_is T b157 3 := gh_okr hT o_a0 rfl hb157
      obtain ⟨q161, hc161, hf⟩ := sv_bind_some hf
      obtain ⟨q166, hc166, hf⟩ := sv_bind_some hf
      have x166 := e_X8_receive _ _ _ _ _ hc166 hT hz o_a0
      have o0_166 := o_a0
      have hT0 := hT
      have hz0 := hz
      replace hT := x166.ok
      replace hz := x166.fr
      replace o_a0 := x166.is o_a0
      replace o_b128 := x166.is o_b128
      replace o_b131 := x166.is o_b131
      replace o_b148 := x166.is o_b148
      replace o_b157 := x166.is o_b157
      replace hx := hx.trans x166
      exact hx.trans (e_X8_takePart_169 _ _ _ hT hz o_a0 hf)
set_option maxHeartbeats 4000000 in
set_option maxRecDepth 100000 in
theorem w_X8_takePart_128 {E : sv_E} {X : sv_X} {z0 : Nat} {q : Int32 × gh_T × gh_V × Nat} {a0 : Nat} (C : sv_C E X cX8_takePart RX8 []) (hZ : sv_Z E X (some .boolean) (some (.int q.1)) (gh_w E q.2.1 q.2.2.1) q.2.2.2 (q.2.2.2 - z0) (128 * (q.2.2.2 - z0))) (hR : sv_R X = { frames := 5, cells := q.2.2.2 - z0, slots := 128 * (q.2.2.2 - z0), locals := 115 }) (hN : sv_nL X = 6) (T : gh_T) (V : gh_V) (z : Nat) (x1 : Int32) (x2 : Int32) (x3 : Int32) (x4 : Int32) (rs0 : Option Nat) (hT : gh_ok T) (hz : gh_fr T z) (h0 : z0 ≤ z) (o_a0 : gh_is T a0 8) (hf : f_X8_takePart_128 a0 T V z x1 x2 x3 x4 rs0 = some q) : sv_J E X (gh_w E T V) z (z - z0) (128 * (z - z0)) 128 [(0, .ref a0), (1, .int x1), (2, .int x2), (3, .int x3), (4, .int x4)] [va_rf rs0] := by
  have hle0 : z ≤ q.2.2.2 := (e_X8_takePart_128 _ _ _ _ _ _ _ _ hT hz o_a0 hf).le
  unfold f_X8_takePart_128 at hf
  cases rs0 with
  | none =>
    show sv_J E X (gh_w E T V) z (z - z0) (128 * (z - z0)) 128 [(0, .ref a0), (1, .int x1), (2, .int x2), (3, .int x3), (4, .int x4)] [.null]
    refine sv_astoreN (lv' := [(5, .null), (0, .ref a0), (1, .int x1), (2, .int x2), (3, .int x3), (4, .int x4)]) C dX8_takePart_128 (by rw [hN]; decide) rfl ?_
    refine sv_aload_n 1 C dX8_takePart_130 rfl rfl ?_
    obtain ⟨b131, hb131, hf⟩ := sv_bind_some hf
    have o_b131 : gh_is T b131 1 := gh_okr hT o_a0 rfl hb131
    refine gh_getr (d := 1) C fl_X8_35 o_a0 (by decide) (by decide) hb131 dX8_takePart_131 ?_
    refine sv_iconst (v := 5) C dX8_takePart_134 (by decide) ?_
    refine sv_iload 5 C dX8_takePart_135 rfl ?_
    refine sv_aloadN 0 C dX8_takePart_137 rfl ?_
    cases hf
  | some b128 =>
    obtain ⟨g128, hf⟩ := sv_g_some hf
    have o_b128 : gh_is T b128 0 := gh_isb_is g128
    show sv_J E X (gh_w E T V) z (z - z0) (128 * (z - z0)) 128 [(0, .ref a0), (1, .int x1), (2, .int x2), (3, .int x3), (4, .int x4)] [.ref b128]
    refine sv_astore (lv' := [(5, .ref b128), (0, .ref a0), (1, .int x1), (2, .int x2), (3, .int x3), (4, .int x4)]) C dX8_takePart_128 (by rw [hN]; decide) rfl ?_
    refine sv_aload_n 1 C dX8_takePart_130 rfl rfl ?_
    obtain ⟨b131, hb131, hf⟩ := sv_bind_some hf
    have o_b131 : gh_is T b131 1 := gh_okr hT o_a0 rfl hb131
    refine gh_getr (d := 1) C fl_X8_35 o_a0 (by decide) (by decide) hb131 dX8_takePart_131 ?_
    refine sv_iconst (v := 5) C dX8_takePart_134 (by decide) ?_
    refine sv_iload 5 C dX8_takePart_135 rfl ?_
    refine sv_aload 0 C dX8_takePart_137 rfl ?_
    obtain ⟨q139, hc139, hf⟩ := sv_bind_some hf
    refine gh_callV0 C mv_X8_239 (m_X1_unpack (sv_l X) E T z _ _ _ _ _ _ hc139 hT o_b131 o_b128) sv_sx0 o_b131 (by decide) rfl rfl rfl (Nat.le_of_ble_eq_true rfl) ⟨by rw [hR]; exact Nat.le_of_ble_eq_true rfl, by rw [hR]; exact Nat.le_of_ble_eq_true rfl⟩ ⟨by rw [hR]; exact Nat.sub_le_sub_right hle0 _, by rw [hR]; exact Nat.mul_le_mul_left 128 (Nat.sub_le_sub_right hle0 _)⟩ dX8_takePart_139 ?_
    refine sv_iload_n 3 C dX8_takePart_142 rfl rfl ?_
    refine sv_iload_n 2 C dX8_takePart_143 rfl rfl ?_
    refine sv_icmp_ne (tgt := 169) C dX8_takePart_144 (by decide) (fun c144 => ?_) (fun c144 => ?_)
    · replace hf := sv_if_f c144 hf
      refine sv_sub (lv' := []) [] rfl ?_
      exact w_X8_takePart_169 C hZ hR hN _ _ _ hT hz h0 o_a0 hf
    · replace hf := sv_if_t c144 hf
      refine sv_aload_n 1 C dX8_takePart_147 rfl rfl ?_
      obtain ⟨b148, hb148, hf⟩ := sv_bind_some hf
      have o_b148 : gh_is T b148 0 := gh_okr hT o_a0 rfl hb148
      refine gh_getr (d := 0) C fl_X8_56 o_a0 (by decide) (by decide) hb148 dX8_takePart_148 ?_
      refine sv_aload 0 C dX8_takePart_151 rfl ?_
      obtain ⟨q153, hc153, hf⟩ := sv_bind_some hf
      refine gh_callV0 C mv_X8_243 (m_X0_copy (sv_l X) E T z _ _ _ _ hc153 hT o_b148 o_b128) sv_sx0 o_b148 (by decide) rfl rfl rfl (Nat.le_of_ble_eq_true rfl) ⟨by rw [hR]; exact Nat.le_of_ble_eq_true rfl, by rw [hR]; exact Nat.le_of_ble_eq_true rfl⟩ ⟨by rw [hR]; exact Nat.sub_le_sub_right hle0 _, by rw [hR]; exact Nat.mul_le_mul_left 128 (Nat.sub_le_sub_right hle0 _)⟩ dX8_takePart_153 ?_
      refine sv_aload_n 1 C dX8_takePart_156 rfl rfl ?_
      obtain ⟨b157, hb157, hf⟩ := sv_bind_some hf
      have o_b157 : gh_is T b157 3 := gh_okr hT o_a0 rfl hb157
      refine gh_getr (d := 3) C fl_X8_49 o_a0 (by decide) (by decide) hb157 dX8_takePart_157 ?_
      refine sv_iload_n 4 C dX8_takePart_160 rfl rfl ?_
      obtain ⟨q161, hc161, hf⟩ := sv_bind_some hf
      refine gh_callV0 C mv_X8_247 (m_X3_drop (sv_l X) E T z _ _ _ _ hc161 hT o_b157) sv_sx0 o_b157 (by decide) rfl rfl rfl (Nat.le_of_ble_eq_true rfl) ⟨by rw [hR]; exact Nat.le_of_ble_eq_true rfl, by rw [hR]; exact Nat.le_of_ble_eq_true rfl⟩ ⟨by rw [hR]; exact Nat.sub_le_sub_right hle0 _, by rw [hR]; exact Nat.mul_le_mul_left 128 (Nat.sub_le_sub_right hle0 _)⟩ dX8_takePart_161 ?_
      refine sv_pop C dX8_takePart_164 rfl ?_
      refine sv_aload_n 1 C dX8_takePart_165 rfl rfl ?_
      obtain ⟨q166, hc166, hf⟩ := sv_bind_some hf
      have x166 := e_X8_receive _ _ _ _ _ hc166 hT hz o_a0
      have o0_166 := o_a0
      have hT0 := hT
      have hz0 := hz
      replace hT := x166.ok
      replace hz := x166.fr
      replace o_a0 := x166.is o_a0
      replace o_b128 := x166.is o_b128
      replace o_b131 := x166.is o_b131
      replace o_b148 := x166.is o_b148
      replace o_b157 := x166.is o_b157
      have hle : q166.2.2 ≤ q.2.2.2 := (e_X8_takePart_169 _ _ _ hT hz o_a0 hf).le
      have hxl := x166.le
      refine gh_callV C mv_X8_250 (m_X8_receive (sv_l X) E _ _ _ _ _ hc166 hT0 hz0 o0_166) sv_sx0 o0_166 (by decide) rfl rfl rfl (Nat.le_of_ble_eq_true rfl) ⟨by rw [hR]; exact Nat.le_of_ble_eq_true rfl, by rw [hR]; exact Nat.le_of_ble_eq_true rfl⟩ ⟨by rw [hR]; show z - z0 + (q166.2.2 - z) ≤ q.2.2.2 - z0; omega, by rw [hR]; show 128 * (z - z0) + 128 * (q166.2.2 - z) ≤ 128 * (q.2.2.2 - z0); omega⟩ dX8_takePart_166 ?_
      refine sv_widen (k := q166.2.2 - z0) (n := 128 * (q166.2.2 - z0)) (by omega) (by omega) ?_
      have h0 : z0 ≤ q166.2.2 := Nat.le_trans h0 x166.le
      show sv_J E X (gh_w E q166.1 q166.2.1) q166.2.2 (q166.2.2 - z0) (128 * (q166.2.2 - z0)) 169 [(5, .ref b128), (0, .ref a0), (1, .int x1), (2, .int x2), (3, .int x3), (4, .int x4)] []
      refine sv_sub (lv' := []) [] rfl ?_
      exact w_X8_takePart_169 C hZ hR hN _ _ _ hT hz h0 o_a0 hf
set_option maxHeartbeats 4000000 in
set_option maxRecDepth 100000 in
theorem e_X8_takePart_64 {q : Int32 × gh_T × gh_V × Nat} {a0 : Nat} (T : gh_T) (V : gh_V) (z : Nat) (x1 : Int32) (x2 : Int32) (s0 : Int32) (hT : gh_ok T) (hz : gh_fr T z) (o_a0 : gh_is T a0 8) (hf : f_X8_takePart_64 a0 T V z x1 x2 s0 = some q) : gh_X T z q.2.1 q.2.2.2 := by
  have hx := gh_X.rf hT hz
  rw [f_X8_takePart_64] at hf
  obtain ⟨b66, hb66, hf⟩ := sv_bind_some hf
  have o_b66 : gh_is T b66 1 := gh_okr hT o_a0 rfl hb66
  obtain ⟨q72, hc72, hf⟩ := sv_bind_some hf
  obtain ⟨b77, hb77, hf⟩ := sv_bind_some hf
  have o_b77 : gh_is T b77 1 := gh_okr hT o_a0 rfl hb77
  obtain ⟨q81, hc81, hf⟩ := sv_bind_some hf
  obtain ⟨b85, hb85, hf⟩ := sv_bind_some hf
  have o_b85 : gh_is T b85 1 := gh_okr hT o_a0 rfl hb85
  obtain ⟨q92, hc92, hf⟩ := sv_bind_some hf
  obtain ⟨b98, hb98, hf⟩ := sv_bind_some hf
  have o_b98 : gh_is T b98 1 := gh_okr hT o_a0 rfl hb98
  rcases (Decidable.em ((q92.2.1 3 b98) = 0)).symm with c104 | c104
  · replace hf := sv_if_f c104 hf
    obtain ⟨q113, hc113, hf⟩ := sv_bind_some hf
    rcases (Decidable.em (q113.1 = 0)) with c116 | c116
    · replace hf := sv_if_t c116 hf
      exact hx.trans (e_X8_takePart_169 _ _ _ hT hz o_a0 hf)
    · replace hf := sv_if_f c116 hf
      obtain ⟨b120, hb120, hf⟩ := sv_bind_some hf
      have o_b120 : gh_is T b120 3 := gh_okr hT o_a0 rfl hb120
      obtain ⟨q125, hc125, hf⟩ := sv_bind_some hf
      have x125 := e_X3_keep _ _ _ _ _ _ _ hc125 hT hz o_b120
      have o0_125 := o_b120
      have hT0 := hT
      have hz0 := hz
      replace hT := x125.ok
      replace hz := x125.fr
      replace o_a0 := x125.is o_a0
      replace o_b66 := x125.is o_b66
      replace o_b77 := x125.is o_b77
      replace o_b85 := x125.is o_b85
      replace o_b98 := x125.is o_b98
      replace o_b120 := x125.is o_b120
      replace hx := hx.trans x125
      exact hx.trans (e_X8_takePart_128 _ _ _ _ _ _ _ _ hT hz o_a0 hf)
  · replace hf := sv_if_t c104 hf
    cases hf
    exact hx
set_option maxHeartbeats 4000000 in
set_option maxRecDepth 100000 in
theorem w_X8_takePart_64 {E : sv_E} {X : sv_X} {z0 : Nat} {q : Int32 × gh_T × gh_V × Nat} {a0 : Nat} (C : sv_C E X cX8_takePart RX8 []) (hZ : sv_Z E X (some .boolean) (some (.int q.1)) (gh_w E q.2.1 q.2.2.1) q.2.2.2 (q.2.2.2 - z0) (128 * (q.2.2.2 - z0))) (hR : sv_R X = { frames := 5, cells := q.2.2.2 - z0, slots := 128 * (q.2.2.2 - z0), locals := 115 }) (hN : sv_nL X = 6) (T : gh_T) (V : gh_V) (z : Nat) (x1 : Int32) (x2 : Int32) (s0 : Int32) (hT : gh_ok T) (hz : gh_fr T z) (h0 : z0 ≤ z) (o_a0 : gh_is T a0 8) (hf : f_X8_takePart_64 a0 T V z x1 x2 s0 = some q) : sv_J E X (gh_w E T V) z (z - z0) (128 * (z - z0)) 64 [(0, .ref a0), (1, .int x1), (2, .int x2)] [.int s0] := by
  have hle0 : z ≤ q.2.2.2 := (e_X8_takePart_64 _ _ _ _ _ _ hT hz o_a0 hf).le
  rw [f_X8_takePart_64] at hf
  refine sv_istore_n (lv' := [(3, .int s0), (0, .ref a0), (1, .int x1), (2, .int x2)]) C dX8_takePart_64 rfl (by rw [hN]; decide) rfl ?_
  refine sv_aload_n 1 C dX8_takePart_65 rfl rfl ?_
  obtain ⟨b66, hb66, hf⟩ := sv_bind_some hf
  have o_b66 : gh_is T b66 1 := gh_okr hT o_a0 rfl hb66
  refine gh_getr (d := 1) C fl_X8_35 o_a0 (by decide) (by decide) hb66 dX8_takePart_66 ?_
  refine sv_iconst (v := 4) C dX8_takePart_69 (by decide) ?_
  refine sv_ldcS (i := 9) C (by rfl) dX8_takePart_70 ?_
  obtain ⟨q72, hc72, hf⟩ := sv_bind_some hf
  refine gh_callV0 C mv_X8_220 (m_X1_oneOf (sv_l X) E T z (E.2.2.1 9) (E.2.2.2.1 9) _ _ _ _ _ hc72 hT o_b66) (sv_sxi (i := 9) (by rfl)) o_b66 (by decide) rfl rfl rfl (Nat.le_of_ble_eq_true rfl) ⟨by rw [hR]; exact Nat.le_of_ble_eq_true rfl, by rw [hR]; exact Nat.le_of_ble_eq_true rfl⟩ ⟨by rw [hR]; exact Nat.sub_le_sub_right hle0 _, by rw [hR]; exact Nat.mul_le_mul_left 128 (Nat.sub_le_sub_right hle0 _)⟩ dX8_takePart_72 ?_
  refine sv_pop C dX8_takePart_75 rfl ?_
  refine sv_aload_n 1 C dX8_takePart_76 rfl rfl ?_
  obtain ⟨b77, hb77, hf⟩ := sv_bind_some hf
  have o_b77 : gh_is T b77 1 := gh_okr hT o_a0 rfl hb77
  refine gh_getr (d := 1) C fl_X8_35 o_a0 (by decide) (by decide) hb77 dX8_takePart_77 ?_
  refine sv_iconst (v := 5) C dX8_takePart_80 (by decide) ?_
  obtain ⟨q81, hc81, hf⟩ := sv_bind_some hf
  refine gh_callV0 C mv_X8_224 (m_X1_checkPack (sv_l X) E T z _ _ _ _ hc81 hT o_b77) sv_sx0 o_b77 (by decide) rfl rfl rfl (Nat.le_of_ble_eq_true rfl) ⟨by rw [hR]; exact Nat.le_of_ble_eq_true rfl, by rw [hR]; exact Nat.le_of_ble_eq_true rfl⟩ ⟨by rw [hR]; exact Nat.sub_le_sub_right hle0 _, by rw [hR]; exact Nat.mul_le_mul_left 128 (Nat.sub_le_sub_right hle0 _)⟩ dX8_takePart_81 ?_
  refine sv_aload_n 1 C dX8_takePart_84 rfl rfl ?_
  obtain ⟨b85, hb85, hf⟩ := sv_bind_some hf
  have o_b85 : gh_is T b85 1 := gh_okr hT o_a0 rfl hb85
  refine gh_getr (d := 1) C fl_X8_35 o_a0 (by decide) (by decide) hb85 dX8_takePart_85 ?_
  refine sv_bipush (v := 6) C dX8_takePart_88 (by decide) ?_
  refine sv_iconst (v := 0) C dX8_takePart_90 (by decide) ?_
  refine sv_iconst (v := 5) C dX8_takePart_91 (by decide) ?_
  obtain ⟨q92, hc92, hf⟩ := sv_bind_some hf
  refine gh_callV0 C mv_X8_211 (m_X1_digit (sv_l X) E T z _ _ _ _ _ _ hc92 hT o_b85) sv_sx0 o_b85 (by decide) rfl rfl rfl (Nat.le_of_ble_eq_true rfl) ⟨by rw [hR]; exact Nat.le_of_ble_eq_true rfl, by rw [hR]; exact Nat.le_of_ble_eq_true rfl⟩ ⟨by rw [hR]; exact Nat.sub_le_sub_right hle0 _, by rw [hR]; exact Nat.mul_le_mul_left 128 (Nat.sub_le_sub_right hle0 _)⟩ dX8_takePart_92 ?_
  refine sv_istore (lv' := [(4, .int q92.1), (3, .int s0), (0, .ref a0), (1, .int x1), (2, .int x2)]) C dX8_takePart_95 (by rw [hN]; decide) rfl ?_
  refine sv_aload_n 2 C dX8_takePart_97 rfl rfl ?_
  obtain ⟨b98, hb98, hf⟩ := sv_bind_some hf
  have o_b98 : gh_is T b98 1 := gh_okr hT o_a0 rfl hb98
  refine gh_getr (d := 1) C fl_X8_35 o_a0 (by decide) (by decide) hb98 dX8_takePart_98 ?_
  refine gh_geti C fl_X8_227 o_b98 (by decide) (by decide) dX8_takePart_101 ?_
  refine sv_if_ne (tgt := 109) C dX8_takePart_104 (by decide) (fun c104 => ?_) (fun c104 => ?_)
  · replace hf := sv_if_f c104 hf
    refine sv_aload_n 2 C dX8_takePart_109 rfl rfl ?_
    refine sv_iload_n 1 C dX8_takePart_110 rfl rfl ?_
    refine sv_iload_n 3 C dX8_takePart_111 rfl rfl ?_
    refine sv_iload_n 4 C dX8_takePart_112 rfl rfl ?_
    obtain ⟨q113, hc113, hf⟩ := sv_bind_some hf
    refine gh_callV0 C mv_X8_231 (m_X8_isInOrder (sv_l X) E T z _ _ _ _ _ _ hc113 hT o_a0) sv_sx0 o_a0 (by decide) rfl rfl rfl (Nat.le_of_ble_eq_true rfl) ⟨by rw [hR]; exact Nat.le_of_ble_eq_true rfl, by rw [hR]; exact Nat.le_of_ble_eq_true rfl⟩ ⟨by rw [hR]; exact Nat.sub_le_sub_right hle0 _, by rw [hR]; exact Nat.mul_le_mul_left 128 (Nat.sub_le_sub_right hle0 _)⟩ dX8_takePart_113 ?_
    refine sv_if_eq (tgt := 169) C dX8_takePart_116 (by decide) (fun c116 => ?_) (fun c116 => ?_)
    · replace hf := sv_if_t c116 hf
      refine sv_sub (lv' := []) [] rfl ?_
      exact w_X8_takePart_169 C hZ hR hN _ _ _ hT hz h0 o_a0 hf
    · replace hf := sv_if_f c116 hf
      refine sv_aload_n 2 C dX8_takePart_119 rfl rfl ?_
      obtain ⟨b120, hb120, hf⟩ := sv_bind_some hf
      have o_b120 : gh_is T b120 3 := gh_okr hT o_a0 rfl hb120
      refine gh_getr (d := 3) C fl_X8_49 o_a0 (by decide) (by decide) hb120 dX8_takePart_120 ?_
      refine sv_iload_n 1 C dX8_takePart_123 rfl rfl ?_
      refine sv_iload_n 3 C dX8_takePart_124 rfl rfl ?_
      obtain ⟨q125, hc125, hf⟩ := sv_bind_some hf
      have x125 := e_X3_keep _ _ _ _ _ _ _ hc125 hT hz o_b120
      have o0_125 := o_b120
      have hT0 := hT
      have hz0 := hz
      replace hT := x125.ok
      replace hz := x125.fr
      replace o_a0 := x125.is o_a0
      replace o_b66 := x125.is o_b66
      replace o_b77 := x125.is o_b77
      replace o_b85 := x125.is o_b85
      replace o_b98 := x125.is o_b98
      replace o_b120 := x125.is o_b120
      have hle : q125.2.2.2 ≤ q.2.2.2 := (e_X8_takePart_128 _ _ _ _ _ _ _ _ hT hz o_a0 hf).le
      have hxl := x125.le
      refine gh_callV C mv_X8_235 (m_X3_keep (sv_l X) E _ _ _ _ _ _ _ hc125 hT0 hz0 o0_125) sv_sx0 o0_125 (by decide) rfl rfl rfl (Nat.le_of_ble_eq_true rfl) ⟨by rw [hR]; exact Nat.le_of_ble_eq_true rfl, by rw [hR]; exact Nat.le_of_ble_eq_true rfl⟩ ⟨by rw [hR]; show z - z0 + (q125.2.2.2 - z) ≤ q.2.2.2 - z0; omega, by rw [hR]; show 128 * (z - z0) + 128 * (q125.2.2.2 - z) ≤ 128 * (q.2.2.2 - z0); omega⟩ dX8_takePart_125 ?_
      refine sv_widen (k := q125.2.2.2 - z0) (n := 128 * (q125.2.2.2 - z0)) (by omega) (by omega) ?_
      have h0 : z0 ≤ q125.2.2.2 := Nat.le_trans h0 x125.le
      show sv_J E X (gh_w E q125.2.1 q125.2.2.1) q125.2.2.2 (q125.2.2.2 - z0) (128 * (q125.2.2.2 - z0)) 128 [(4, .int q92.1), (3, .int s0), (0, .ref a0), (1, .int x1), (2, .int x2)] [va_rf q125.1]
      refine sv_sub (lv' := [(0, .ref a0), (1, .int x1), (2, .int x2), (3, .int s0), (4, .int q92.1)]) [2, 3, 4, 1, 0] rfl ?_
      exact w_X8_takePart_128 C hZ hR hN _ _ _ _ _ _ _ _ hT hz h0 o_a0 hf
  · replace hf := sv_if_t c104 hf
    refine sv_iconst (v := 0) C dX8_takePart_107 (by decide) ?_
    exact sv_zret (ty := .boolean) C (by decide) (by cases hf; exact hZ) dX8_takePart_108
set_option maxHeartbeats 4000000 in
set_option maxRecDepth 100000 in
theorem e_X8_takePart (T : gh_T) (V : gh_V) (z : Nat) (a0 : Nat) (q : Int32 × gh_T × gh_V × Nat) (hf : f_X8_takePart T V z a0 = some q) (hT : gh_ok T) (hz : gh_fr T z) (o_a0 : gh_is T a0 8) : gh_X T z q.2.1 q.2.2.2 := by
  have hx := gh_X.rf hT hz
  rw [f_X8_takePart] at hf
  obtain ⟨b1, hb1, hf⟩ := sv_bind_some hf
  have o_b1 : gh_is T b1 1 := gh_okr hT o_a0 rfl hb1
  rcases (Decidable.em ((V.1 2 b1) = 7)) with c9 | c9
  · replace hf := sv_if_t c9 hf
    obtain ⟨b15, hb15, hf⟩ := sv_bind_some hf
    have o_b15 : gh_is T b15 1 := gh_okr hT o_a0 rfl hb15
    obtain ⟨q22, hc22, hf⟩ := sv_bind_some hf
    obtain ⟨b27, hb27, hf⟩ := sv_bind_some hf
    have o_b27 : gh_is T b27 1 := gh_okr hT o_a0 rfl hb27
    obtain ⟨q33, hc33, hf⟩ := sv_bind_some hf
    obtain ⟨b38, hb38, hf⟩ := sv_bind_some hf
    have o_b38 : gh_is T b38 1 := gh_okr hT o_a0 rfl hb38
    obtain ⟨q42, hc42, hf⟩ := sv_bind_some hf
    rcases (Decidable.em (q42.1 = 0)) with c45 | c45
    · replace hf := sv_if_t c45 hf
      obtain ⟨b54, hb54, hf⟩ := sv_bind_some hf
      have o_b54 : gh_is T b54 1 := gh_okr hT o_a0 rfl hb54
      obtain ⟨q61, hc61, hf⟩ := sv_bind_some hf
      exact hx.trans (e_X8_takePart_64 _ _ _ _ _ _ hT hz o_a0 hf)
    · replace hf := sv_if_f c45 hf
      exact hx.trans (e_X8_takePart_64 _ _ _ _ _ _ hT hz o_a0 hf)
  · replace hf := sv_if_f c9 hf
    cases hf
    exact hx
set_option maxHeartbeats 4000000 in
set_option maxRecDepth 100000 in
theorem m_X8_takePart (l : Launch) (E : sv_E) (T : gh_T) (V : gh_V) (z : Nat) (a0 : Nat) (q : Int32 × gh_T × gh_V × Nat) (hf : f_X8_takePart T V z a0 = some q) (hT : gh_ok T) (hz : gh_fr T z) (o_a0 : gh_is T a0 8) : sv_Met l E yX8_takePart cX8_takePart 6 (some .boolean) 5 115 [] [.ref a0] (gh_w E T V) z (some (.int q.1)) (gh_w E q.2.1 q.2.2.1) q.2.2.2 (q.2.2.2 - z) (128 * (q.2.2.2 - z)) := by
  refine sv_ofJ (by decide) (Nat.le_of_ble_eq_true rfl) ?_
  intro X hX hN hnm hR C hZ
  replace C : sv_C E X cX8_takePart RX8 [] := C
  obtain ⟨z0, hz0⟩ : ∃ z0 : Nat, z0 = z := ⟨z, rfl⟩
  have h0 : z0 ≤ z := Nat.le_of_eq hz0
  rw [← hz0] at hR hZ
  refine sv_widen (k := z - z0) (n := 128 * (z - z0)) (Nat.zero_le _) (Nat.zero_le _) ?_
  show sv_J E X (gh_w E T V) z (z - z0) (128 * (z - z0)) 0 [(0, .ref a0)] []
  have hle0 : z ≤ q.2.2.2 := (e_X8_takePart _ _ _ _ _ hf hT hz o_a0).le
  rw [f_X8_takePart] at hf
  refine sv_aload_n 0 C dX8_takePart_0 rfl rfl ?_
  obtain ⟨b1, hb1, hf⟩ := sv_bind_some hf
  have o_b1 : gh_is T b1 1 := gh_okr hT o_a0 rfl hb1
  refine gh_getr (d := 1) C fl_X8_35 o_a0 (by decide) (by decide) hb1 dX8_takePart_1 ?_
  refine gh_geti C fl_X8_208 o_b1 (by decide) (by decide) dX8_takePart_4 ?_
  refine sv_bipush (v := 7) C dX8_takePart_7 (by decide) ?_
  refine sv_icmp_eq (tgt := 14) C dX8_takePart_9 (by decide) (fun c9 => ?_) (fun c9 => ?_)
  · replace hf := sv_if_t c9 hf
    refine sv_aload_n 0 C dX8_takePart_14 rfl rfl ?_
    obtain ⟨b15, hb15, hf⟩ := sv_bind_some hf
    have o_b15 : gh_is T b15 1 := gh_okr hT o_a0 rfl hb15
    refine gh_getr (d := 1) C fl_X8_35 o_a0 (by decide) (by decide) hb15 dX8_takePart_15 ?_
    refine sv_iconst (v := 1) C dX8_takePart_18 (by decide) ?_
    refine sv_iconst (v := 1) C dX8_takePart_19 (by decide) ?_
    refine sv_bipush (v := 9) C dX8_takePart_20 (by decide) ?_
    obtain ⟨q22, hc22, hf⟩ := sv_bind_some hf
    refine gh_callV0 C mv_X8_211 (m_X1_digit (sv_l X) E T z _ _ _ _ _ _ hc22 hT o_b15) sv_sx0 o_b15 (by decide) rfl rfl rfl (Nat.le_of_ble_eq_true rfl) ⟨by rw [hR]; exact Nat.le_of_ble_eq_true rfl, by rw [hR]; exact Nat.le_of_ble_eq_true rfl⟩ ⟨by rw [hR]; exact Nat.sub_le_sub_right hle0 _, by rw [hR]; exact Nat.mul_le_mul_left 128 (Nat.sub_le_sub_right hle0 _)⟩ dX8_takePart_22 ?_
    refine sv_istore_n (lv' := [(1, .int q22.1), (0, .ref a0)]) C dX8_takePart_25 rfl (by rw [hN]; decide) rfl ?_
    refine sv_aload_n 1 C dX8_takePart_26 rfl rfl ?_
    obtain ⟨b27, hb27, hf⟩ := sv_bind_some hf
    have o_b27 : gh_is T b27 1 := gh_okr hT o_a0 rfl hb27
    refine gh_getr (d := 1) C fl_X8_35 o_a0 (by decide) (by decide) hb27 dX8_takePart_27 ?_
    refine sv_iconst (v := 2) C dX8_takePart_30 (by decide) ?_
    refine sv_iconst (v := 1) C dX8_takePart_31 (by decide) ?_
    refine sv_iload_n 0 C dX8_takePart_32 rfl rfl ?_
    obtain ⟨q33, hc33, hf⟩ := sv_bind_some hf
    refine gh_callV0 C mv_X8_211 (m_X1_digit (sv_l X) E T z _ _ _ _ _ _ hc33 hT o_b27) sv_sx0 o_b27 (by decide) rfl rfl rfl (Nat.le_of_ble_eq_true rfl) ⟨by rw [hR]; exact Nat.le_of_ble_eq_true rfl, by rw [hR]; exact Nat.le_of_ble_eq_true rfl⟩ ⟨by rw [hR]; exact Nat.sub_le_sub_right hle0 _, by rw [hR]; exact Nat.mul_le_mul_left 128 (Nat.sub_le_sub_right hle0 _)⟩ dX8_takePart_33 ?_
    refine sv_istore_n (lv' := [(2, .int q33.1), (1, .int q22.1), (0, .ref a0)]) C dX8_takePart_36 rfl (by rw [hN]; decide) rfl ?_
    refine sv_aload_n 2 C dX8_takePart_37 rfl rfl ?_
    obtain ⟨b38, hb38, hf⟩ := sv_bind_some hf
    have o_b38 : gh_is T b38 1 := gh_okr hT o_a0 rfl hb38
    refine gh_getr (d := 1) C fl_X8_35 o_a0 (by decide) (by decide) hb38 dX8_takePart_38 ?_
    refine sv_iconst (v := 3) C dX8_takePart_41 (by decide) ?_
    obtain ⟨q42, hc42, hf⟩ := sv_bind_some hf
    refine gh_callV0 C mv_X8_215 (m_X1_isEmpty (sv_l X) E T z _ _ _ _ hc42 hT o_b38) sv_sx0 o_b38 (by decide) rfl rfl rfl (Nat.le_of_ble_eq_true rfl) ⟨by rw [hR]; exact Nat.le_of_ble_eq_true rfl, by rw [hR]; exact Nat.le_of_ble_eq_true rfl⟩ ⟨by rw [hR]; exact Nat.sub_le_sub_right hle0 _, by rw [hR]; exact Nat.mul_le_mul_left 128 (Nat.sub_le_sub_right hle0 _)⟩ dX8_takePart_42 ?_
    refine sv_if_eq (tgt := 53) C dX8_takePart_45 (by decide) (fun c45 => ?_) (fun c45 => ?_)
    · replace hf := sv_if_t c45 hf
      refine sv_aload_n 2 C dX8_takePart_53 rfl rfl ?_
      obtain ⟨b54, hb54, hf⟩ := sv_bind_some hf
      have o_b54 : gh_is T b54 1 := gh_okr hT o_a0 rfl hb54
      refine gh_getr (d := 1) C fl_X8_35 o_a0 (by decide) (by decide) hb54 dX8_takePart_54 ?_
      refine sv_iconst (v := 3) C dX8_takePart_57 (by decide) ?_
      refine sv_iconst (v := 0) C dX8_takePart_58 (by decide) ?_
      refine sv_bipush (v := 9) C dX8_takePart_59 (by decide) ?_
      obtain ⟨q61, hc61, hf⟩ := sv_bind_some hf
      refine gh_callV0 C mv_X8_211 (m_X1_digit (sv_l X) E T z _ _ _ _ _ _ hc61 hT o_b54) sv_sx0 o_b54 (by decide) rfl rfl rfl (Nat.le_of_ble_eq_true rfl) ⟨by rw [hR]; exact Nat.le_of_ble_eq_true rfl, by rw [hR]; exact Nat.le_of_ble_eq_true rfl⟩ ⟨by rw [hR]; exact Nat.sub_le_sub_right hle0 _, by rw [hR]; exact Nat.mul_le_mul_left 128 (Nat.sub_le_sub_right hle0 _)⟩ dX8_takePart_61 ?_
      refine sv_sub (lv' := [(0, .ref a0), (1, .int q22.1), (2, .int q33.1)]) [2, 1, 0] rfl ?_
      exact w_X8_takePart_64 C hZ hR hN _ _ _ _ _ _ hT hz h0 o_a0 hf
    · replace hf := sv_if_f c45 hf
      refine sv_bipush (v := 10) C dX8_takePart_48 (by decide) ?_
      refine sv_goto (tgt := 64) C dX8_takePart_50 (by decide) ?_
      refine sv_sub (lv' := [(0, .ref a0), (1, .int q22.1), (2, .int q33.1)]) [2, 1, 0] rfl ?_
      exact w_X8_takePart_64 C hZ hR hN _ _ _ _ _ _ hT hz h0 o_a0 hf
  · replace hf := sv_if_f c9 hf
    refine sv_iconst (v := 0) C dX8_takePart_12 (by decide) ?_
    exact sv_zret (ty := .boolean) C (by decide) (by cases hf; exact hZ) dX8_takePart_13
def f_X8_judge_131 (a0 : Nat) (T : gh_T) (V : gh_V) (z : Nat) (x1 : Int32) : Option (Int32 × gh_T × gh_V × Nat) :=
  if x1 = 0 then
    some (4, T, V, z)
  else
    some (0, T, V, z)
def f_X8_judge_125 (a0 : Nat) (T : gh_T) (V : gh_V) (z : Nat) (s0 : Int32) : Option (Int32 × gh_T × gh_V × Nat) :=
  f_X8_judge_131 a0 T V z s0
def f_X8_judge (T : gh_T) (V : gh_V) (z : Nat) (a0 : Nat) : Option (Int32 × gh_T × gh_V × Nat) :=
  (T.2.2.1 3 a0).bind (fun b1 =>
    (T.2.2.1 3 a0).bind (fun b8 =>
      if (V.1 4 b1) = (V.1 5 b8) then
        (T.2.2.1 4 a0).bind (fun b20 =>
          (T.2.2.1 3 a0).bind (fun b24 =>
            (f_X1_split T V b20 b24).bind (fun q27 =>
              (T.2.2.1 4 a0).bind (fun b31 =>
                (T.2.2.1 3 a0).bind (fun b35 =>
                  (f_X1_form T q27 b31 (q27.1 2 b35)).bind (fun q41 =>
                    if q41.1 = 1 then
                      (T.2.2.1 5 a0).bind (fun b77 =>
                        (T.2.2.1 4 a0).bind (fun b81 =>
                          (f_X4_takeGga T q41.2 b77 b81).bind (fun q84 =>
                            f_X8_judge_131 a0 T q84.2 z q84.1)))
                    else if q41.1 = 2 then
                      (T.2.2.1 5 a0).bind (fun b92 =>
                        (T.2.2.1 4 a0).bind (fun b96 =>
                          (f_X4_takeRmc T q41.2 b92 b96).bind (fun q99 =>
                            f_X8_judge_131 a0 T q99.2 z q99.1)))
                    else if q41.1 = 3 then
                      (T.2.2.1 5 a0).bind (fun b107 =>
                        (T.2.2.1 4 a0).bind (fun b111 =>
                          (f_X4_takeVtg T q41.2 b107 b111).bind (fun q114 =>
                            f_X8_judge_131 a0 T q114.2 z q114.1)))
                    else if q41.1 = 4 then
                      (f_X8_takePart T q41.2 z a0).bind (fun q122 =>
                        f_X8_judge_125 a0 q122.2.1 q122.2.2.1 q122.2.2.2 q122.1)
                    else 
                      some (3, T, q41.2, z)))))))
      else
        some (2, T, V, z)))
set_option maxHeartbeats 4000000 in
set_option maxRecDepth 100000 in
theorem e_X8_judge_131 {q : Int32 × gh_T × gh_V × Nat} {a0 : Nat} (T : gh_T) (V : gh_V) (z : Nat) (x1 : Int32) (hT : gh_ok T) (hz : gh_fr T z) (o_a0 : gh_is T a0 8) (hf : f_X8_judge_131 a0 T V z x1 = some q) : gh_X T z q.2.1 q.2.2.2 := by
  have hx := gh_X.rf hT hz
  rw [f_X8_judge_131] at hf
  rcases (Decidable.em (x1 = 0)) with c132 | c132
  · replace hf := sv_if_t c132 hf
    cases hf
    exact hx
  · replace hf := sv_if_f c132 hf
    cases hf
    exact hx
set_option maxHeartbeats 4000000 in
set_option maxRecDepth 100000 in
theorem w_X8_judge_131 {E : sv_E} {X : sv_X} {z0 : Nat} {q : Int32 × gh_T × gh_V × Nat} {a0 : Nat} (C : sv_C E X cX8_judge RX8 []) (hZ : sv_Z E X (some .int) (some (.int q.1)) (gh_w E q.2.1 q.2.2.1) q.2.2.2 (q.2.2.2 - z0) (128 * (q.2.2.2 - z0))) (hR : sv_R X = { frames := 6, cells := q.2.2.2 - z0, slots := 128 * (q.2.2.2 - z0), locals := 140 }) (hN : sv_nL X = 2) (T : gh_T) (V : gh_V) (z : Nat) (x1 : Int32) (hT : gh_ok T) (hz : gh_fr T z) (h0 : z0 ≤ z) (o_a0 : gh_is T a0 8) (hf : f_X8_judge_131 a0 T V z x1 = some q) : sv_J E X (gh_w E T V) z (z - z0) (128 * (z - z0)) 131 [(1, .int x1)] [] := by
  have hle0 : z ≤ q.2.2.2 := (e_X8_judge_131 _ _ _ _ hT hz o_a0 hf).le
  rw [f_X8_judge_131] at hf
  refine sv_iload_n 0 C dX8_judge_131 rfl rfl ?_
  refine sv_if_eq (tgt := 139) C dX8_judge_132 (by decide) (fun c132 => ?_) (fun c132 => ?_)
  · replace hf := sv_if_t c132 hf
    refine sv_iconst (v := 4) C dX8_judge_139 (by decide) ?_
    exact sv_iret C (by cases hf; exact hZ) dX8_judge_140
  · replace hf := sv_if_f c132 hf
    refine sv_iconst (v := 0) C dX8_judge_135 (by decide) ?_
    refine sv_goto (tgt := 140) C dX8_judge_136 (by decide) ?_
    exact sv_iret C (by cases hf; exact hZ) dX8_judge_140
set_option maxHeartbeats 4000000 in
set_option maxRecDepth 100000 in
theorem e_X8_judge_125 {q : Int32 × gh_T × gh_V × Nat} {a0 : Nat} (T : gh_T) (V : gh_V) (z : Nat) (s0 : Int32) (hT : gh_ok T) (hz : gh_fr T z) (o_a0 : gh_is T a0 8) (hf : f_X8_judge_125 a0 T V z s0 = some q) : gh_X T z q.2.1 q.2.2.2 := by
  have hx := gh_X.rf hT hz
  rw [f_X8_judge_125] at hf
  exact hx.trans (e_X8_judge_131 _ _ _ _ hT hz o_a0 hf)
set_option maxHeartbeats 4000000 in
set_option maxRecDepth 100000 in
theorem w_X8_judge_125 {E : sv_E} {X : sv_X} {z0 : Nat} {q : Int32 × gh_T × gh_V × Nat} {a0 : Nat} (C : sv_C E X cX8_judge RX8 []) (hZ : sv_Z E X (some .int) (some (.int q.1)) (gh_w E q.2.1 q.2.2.1) q.2.2.2 (q.2.2.2 - z0) (128 * (q.2.2.2 - z0))) (hR : sv_R X = { frames := 6, cells := q.2.2.2 - z0, slots := 128 * (q.2.2.2 - z0), locals := 140 }) (hN : sv_nL X = 2) (T : gh_T) (V : gh_V) (z : Nat) (s0 : Int32) (hT : gh_ok T) (hz : gh_fr T z) (h0 : z0 ≤ z) (o_a0 : gh_is T a0 8) (hf : f_X8_judge_125 a0 T V z s0 = some q) : sv_J E X (gh_w E T V) z (z - z0) (128 * (z - z0)) 125 [] [.int s0] := by
  have hle0 : z ≤ q.2.2.2 := (e_X8_judge_125 _ _ _ _ hT hz o_a0 hf).le
  rw [f_X8_judge_125] at hf
  refine sv_istore_n (lv' := [(1, .int s0)]) C dX8_judge_125 rfl (by rw [hN]; decide) rfl ?_
  refine sv_goto (tgt := 131) C dX8_judge_126 (by decide) ?_
  refine sv_sub (lv' := [(1, .int s0)]) [0] rfl ?_
  exact w_X8_judge_131 C hZ hR hN _ _ _ _ hT hz h0 o_a0 hf
set_option maxHeartbeats 4000000 in
set_option maxRecDepth 100000 in
theorem e_X8_judge (T : gh_T) (V : gh_V) (z : Nat) (a0 : Nat) (q : Int32 × gh_T × gh_V × Nat) (hf : f_X8_judge T V z a0 = some q) (hT : gh_ok T) (hz : gh_fr T z) (o_a0 : gh_is T a0 8) : gh_X T z q.2.1 q.2.2.2 := by
  have hx := gh_X.rf hT hz
  rw [f_X8_judge] at hf
  obtain ⟨b1, hb1, hf⟩ := sv_bind_some hf
  have o_b1 : gh_is T b1 5 := gh_okr hT o_a0 rfl hb1
  obtain ⟨b8, hb8, hf⟩ := sv_bind_some hf
  have o_b8 : gh_is T b8 5 := gh_okr hT o_a0 rfl hb8
  rcases (Decidable.em ((V.1 4 b1) = (V.1 5 b8))) with c14 | c14
  · replace hf := sv_if_t c14 hf
    obtain ⟨b20, hb20, hf⟩ := sv_bind_some hf
    have o_b20 : gh_is T b20 1 := gh_okr hT o_a0 rfl hb20
    obtain ⟨b24, hb24, hf⟩ := sv_bind_some hf
    have o_b24 : gh_is T b24 5 := gh_okr hT o_a0 rfl hb24
    obtain ⟨q27, hc27, hf⟩ := sv_bind_some hf
    obtain ⟨b31, hb31, hf⟩ := sv_bind_some hf
    have o_b31 : gh_is T b31 1 := gh_okr hT o_a0 rfl hb31
    obtain ⟨b35, hb35, hf⟩ := sv_bind_some hf
    have o_b35 : gh_is T b35 5 := gh_okr hT o_a0 rfl hb35
    obtain ⟨q41, hc41, hf⟩ := sv_bind_some hf
    by_cases c44_0 : q41.1 = 1
    · replace hf := sv_if_t c44_0 hf
      obtain ⟨b77, hb77, hf⟩ := sv_bind_some hf
      have o_b77 : gh_is T b77 4 := gh_okr hT o_a0 rfl hb77
      obtain ⟨b81, hb81, hf⟩ := sv_bind_some hf
      have o_b81 : gh_is T b81 1 := gh_okr hT o_a0 rfl hb81
      obtain ⟨q84, hc84, hf⟩ := sv_bind_some hf
      exact hx.trans (e_X8_judge_131 _ _ _ _ hT hz o_a0 hf)
    · replace hf := sv_if_f c44_0 hf
      by_cases c44_1 : q41.1 = 2
      · replace hf := sv_if_t c44_1 hf
        obtain ⟨b92, hb92, hf⟩ := sv_bind_some hf
        have o_b92 : gh_is T b92 4 := gh_okr hT o_a0 rfl hb92
        obtain ⟨b96, hb96, hf⟩ := sv_bind_some hf
        have o_b96 : gh_is T b96 1 := gh_okr hT o_a0 rfl hb96
        obtain ⟨q99, hc99, hf⟩ := sv_bind_some hf
        exact hx.trans (e_X8_judge_131 _ _ _ _ hT hz o_a0 hf)
      · replace hf := sv_if_f c44_1 hf
        by_cases c44_2 : q41.1 = 3
        · replace hf := sv_if_t c44_2 hf
          obtain ⟨b107, hb107, hf⟩ := sv_bind_some hf
          have o_b107 : gh_is T b107 4 := gh_okr hT o_a0 rfl hb107
          obtain ⟨b111, hb111, hf⟩ := sv_bind_some hf
          have o_b111 : gh_is T b111 1 := gh_okr hT o_a0 rfl hb111
          obtain ⟨q114, hc114, hf⟩ := sv_bind_some hf
          exact hx.trans (e_X8_judge_131 _ _ _ _ hT hz o_a0 hf)
        · replace hf := sv_if_f c44_2 hf
          by_cases c44_3 : q41.1 = 4
          · replace hf := sv_if_t c44_3 hf
            obtain ⟨q122, hc122, hf⟩ := sv_bind_some hf
            have x122 := e_X8_takePart _ _ _ _ _ hc122 hT hz o_a0
            have o0_122 := o_a0
            have hT0 := hT
            have hz0 := hz
            replace hT := x122.ok
            replace hz := x122.fr
            replace o_a0 := x122.is o_a0
            replace o_b1 := x122.is o_b1
            replace o_b8 := x122.is o_b8
            replace o_b20 := x122.is o_b20
            replace o_b24 := x122.is o_b24
            replace o_b31 := x122.is o_b31
            replace o_b35 := x122.is o_b35
            replace hx := hx.trans x122
            exact hx.trans (e_X8_judge_125 _ _ _ _ hT hz o_a0 hf)
          · replace hf := sv_if_f c44_3 hf
            have n44_0 : q41.1.toInt ≠ 1 := fun e => c44_0 (Int32.toInt_inj.mp (e.trans (by decide)))
            have n44_1 : q41.1.toInt ≠ 2 := fun e => c44_1 (Int32.toInt_inj.mp (e.trans (by decide)))
            have n44_2 : q41.1.toInt ≠ 3 := fun e => c44_2 (Int32.toInt_inj.mp (e.trans (by decide)))
            have n44_3 : q41.1.toInt ≠ 4 := fun e => c44_3 (Int32.toInt_inj.mp (e.trans (by decide)))
            cases hf
            exact hx
  · replace hf := sv_if_f c14 hf
    cases hf
    exact hx
set_option maxHeartbeats 4000000 in
set_option maxRecDepth 100000 in
theorem m_X8_judge (l : Launch) (E : sv_E) (T : gh_T) (V : gh_V) (z : Nat) (a0 : Nat) (q : Int32 × gh_T × gh_V × Nat) (hf : f_X8_judge T V z a0 = some q) (hT : gh_ok T) (hz : gh_fr T z) (o_a0 : gh_is T a0 8) : sv_Met l E yX8_judge cX8_judge 2 (some .int) 6 140 [] [.ref a0] (gh_w E T V) z (some (.int q.1)) (gh_w E q.2.1 q.2.2.1) q.2.2.2 (q.2.2.2 - z) (128 * (q.2.2.2 - z)) := by
  refine sv_ofJ (by decide) (Nat.le_of_ble_eq_true rfl) ?_
  intro X hX hN hnm hR C hZ
  replace C : sv_C E X cX8_judge RX8 [] := C
  obtain ⟨z0, hz0⟩ : ∃ z0 : Nat, z0 = z := ⟨z, rfl⟩
  have h0 : z0 ≤ z := Nat.le_of_eq hz0
  rw [← hz0] at hR hZ
  refine sv_widen (k := z - z0) (n := 128 * (z - z0)) (Nat.zero_le _) (Nat.zero_le _) ?_
  show sv_J E X (gh_w E T V) z (z - z0) (128 * (z - z0)) 0 [(0, .ref a0)] []
  have hle0 : z ≤ q.2.2.2 := (e_X8_judge _ _ _ _ _ hf hT hz o_a0).le
  rw [f_X8_judge] at hf
  refine sv_aload_n 0 C dX8_judge_0 rfl rfl ?_
  obtain ⟨b1, hb1, hf⟩ := sv_bind_some hf
  have o_b1 : gh_is T b1 5 := gh_okr hT o_a0 rfl hb1
  refine gh_getr (d := 5) C fl_X8_28 o_a0 (by decide) (by decide) hb1 dX8_judge_1 ?_
  refine gh_geti C fl_X8_178 o_b1 (by decide) (by decide) dX8_judge_4 ?_
  refine sv_aload_n 0 C dX8_judge_7 rfl rfl ?_
  obtain ⟨b8, hb8, hf⟩ := sv_bind_some hf
  have o_b8 : gh_is T b8 5 := gh_okr hT o_a0 rfl hb8
  refine gh_getr (d := 5) C fl_X8_28 o_a0 (by decide) (by decide) hb8 dX8_judge_8 ?_
  refine gh_geti C fl_X8_181 o_b8 (by decide) (by decide) dX8_judge_11 ?_
  refine sv_icmp_eq (tgt := 19) C dX8_judge_14 (by decide) (fun c14 => ?_) (fun c14 => ?_)
  · replace hf := sv_if_t c14 hf
    refine sv_aload_n 0 C dX8_judge_19 rfl rfl ?_
    obtain ⟨b20, hb20, hf⟩ := sv_bind_some hf
    have o_b20 : gh_is T b20 1 := gh_okr hT o_a0 rfl hb20
    refine gh_getr (d := 1) C fl_X8_35 o_a0 (by decide) (by decide) hb20 dX8_judge_20 ?_
    refine sv_aload_n 0 C dX8_judge_23 rfl rfl ?_
    obtain ⟨b24, hb24, hf⟩ := sv_bind_some hf
    have o_b24 : gh_is T b24 5 := gh_okr hT o_a0 rfl hb24
    refine gh_getr (d := 5) C fl_X8_28 o_a0 (by decide) (by decide) hb24 dX8_judge_24 ?_
    obtain ⟨q27, hc27, hf⟩ := sv_bind_some hf
    refine gh_callV0 C mv_X8_184 (m_X1_split (sv_l X) E T z _ _ _ _ hc27 hT o_b20 o_b24) sv_sx0 o_b20 (by decide) rfl rfl rfl (Nat.le_of_ble_eq_true rfl) ⟨by rw [hR]; exact Nat.le_of_ble_eq_true rfl, by rw [hR]; exact Nat.le_of_ble_eq_true rfl⟩ ⟨by rw [hR]; exact Nat.sub_le_sub_right hle0 _, by rw [hR]; exact Nat.mul_le_mul_left 128 (Nat.sub_le_sub_right hle0 _)⟩ dX8_judge_27 ?_
    refine sv_aload_n 0 C dX8_judge_30 rfl rfl ?_
    obtain ⟨b31, hb31, hf⟩ := sv_bind_some hf
    have o_b31 : gh_is T b31 1 := gh_okr hT o_a0 rfl hb31
    refine gh_getr (d := 1) C fl_X8_35 o_a0 (by decide) (by decide) hb31 dX8_judge_31 ?_
    refine sv_aload_n 0 C dX8_judge_34 rfl rfl ?_
    obtain ⟨b35, hb35, hf⟩ := sv_bind_some hf
    have o_b35 : gh_is T b35 5 := gh_okr hT o_a0 rfl hb35
    refine gh_getr (d := 5) C fl_X8_28 o_a0 (by decide) (by decide) hb35 dX8_judge_35 ?_
    refine gh_geti C fl_X8_188 o_b35 (by decide) (by decide) dX8_judge_38 ?_
    obtain ⟨q41, hc41, hf⟩ := sv_bind_some hf
    refine gh_callV0 C mv_X8_191 (m_X1_form (sv_l X) E T z _ _ _ _ hc41 hT o_b31) sv_sx0 o_b31 (by decide) rfl rfl rfl (Nat.le_of_ble_eq_true rfl) ⟨by rw [hR]; exact Nat.le_of_ble_eq_true rfl, by rw [hR]; exact Nat.le_of_ble_eq_true rfl⟩ ⟨by rw [hR]; exact Nat.sub_le_sub_right hle0 _, by rw [hR]; exact Nat.mul_le_mul_left 128 (Nat.sub_le_sub_right hle0 _)⟩ dX8_judge_41 ?_
    by_cases c44_0 : q41.1 = 1
    · replace hf := sv_if_t c44_0 hf
      refine sv_tswI (v := 1) (tgt := 76) C dX8_judge_44 c44_0 (by decide) (by decide) rfl (by decide) ?_
      refine sv_aload_n 0 C dX8_judge_76 rfl rfl ?_
      obtain ⟨b77, hb77, hf⟩ := sv_bind_some hf
      have o_b77 : gh_is T b77 4 := gh_okr hT o_a0 rfl hb77
      refine gh_getr (d := 4) C fl_X8_42 o_a0 (by decide) (by decide) hb77 dX8_judge_77 ?_
      refine sv_aload_n 0 C dX8_judge_80 rfl rfl ?_
      obtain ⟨b81, hb81, hf⟩ := sv_bind_some hf
      have o_b81 : gh_is T b81 1 := gh_okr hT o_a0 rfl hb81
      refine gh_getr (d := 1) C fl_X8_35 o_a0 (by decide) (by decide) hb81 dX8_judge_81 ?_
      obtain ⟨q84, hc84, hf⟩ := sv_bind_some hf
      refine gh_callV0 C mv_X8_194 (m_X4_takeGga (sv_l X) E T z _ _ _ _ hc84 hT o_b77 o_b81) sv_sx0 o_b77 (by decide) rfl rfl rfl (Nat.le_of_ble_eq_true rfl) ⟨by rw [hR]; exact Nat.le_of_ble_eq_true rfl, by rw [hR]; exact Nat.le_of_ble_eq_true rfl⟩ ⟨by rw [hR]; exact Nat.sub_le_sub_right hle0 _, by rw [hR]; exact Nat.mul_le_mul_left 128 (Nat.sub_le_sub_right hle0 _)⟩ dX8_judge_84 ?_
      refine sv_istore_n (lv' := [(1, .int q84.1), (0, .ref a0)]) C dX8_judge_87 rfl (by rw [hN]; decide) rfl ?_
      refine sv_goto (tgt := 131) C dX8_judge_88 (by decide) ?_
      refine sv_sub (lv' := [(1, .int q84.1)]) [0] rfl ?_
      exact w_X8_judge_131 C hZ hR hN _ _ _ _ hT hz h0 o_a0 hf
    · replace hf := sv_if_f c44_0 hf
      by_cases c44_1 : q41.1 = 2
      · replace hf := sv_if_t c44_1 hf
        refine sv_tswI (v := 2) (tgt := 91) C dX8_judge_44 c44_1 (by decide) (by decide) rfl (by decide) ?_
        refine sv_aload_n 0 C dX8_judge_91 rfl rfl ?_
        obtain ⟨b92, hb92, hf⟩ := sv_bind_some hf
        have o_b92 : gh_is T b92 4 := gh_okr hT o_a0 rfl hb92
        refine gh_getr (d := 4) C fl_X8_42 o_a0 (by decide) (by decide) hb92 dX8_judge_92 ?_
        refine sv_aload_n 0 C dX8_judge_95 rfl rfl ?_
        obtain ⟨b96, hb96, hf⟩ := sv_bind_some hf
        have o_b96 : gh_is T b96 1 := gh_okr hT o_a0 rfl hb96
        refine gh_getr (d := 1) C fl_X8_35 o_a0 (by decide) (by decide) hb96 dX8_judge_96 ?_
        obtain ⟨q99, hc99, hf⟩ := sv_bind_some hf
        refine gh_callV0 C mv_X8_198 (m_X4_takeRmc (sv_l X) E T z _ _ _ _ hc99 hT o_b92 o_b96) sv_sx0 o_b92 (by decide) rfl rfl rfl (Nat.le_of_ble_eq_true rfl) ⟨by rw [hR]; exact Nat.le_of_ble_eq_true rfl, by rw [hR]; exact Nat.le_of_ble_eq_true rfl⟩ ⟨by rw [hR]; exact Nat.sub_le_sub_right hle0 _, by rw [hR]; exact Nat.mul_le_mul_left 128 (Nat.sub_le_sub_right hle0 _)⟩ dX8_judge_99 ?_
        refine sv_istore_n (lv' := [(1, .int q99.1), (0, .ref a0)]) C dX8_judge_102 rfl (by rw [hN]; decide) rfl ?_
        refine sv_goto (tgt := 131) C dX8_judge_103 (by decide) ?_
        refine sv_sub (lv' := [(1, .int q99.1)]) [0] rfl ?_
        exact w_X8_judge_131 C hZ hR hN _ _ _ _ hT hz h0 o_a0 hf
      · replace hf := sv_if_f c44_1 hf
        by_cases c44_2 : q41.1 = 3
        · replace hf := sv_if_t c44_2 hf
          refine sv_tswI (v := 3) (tgt := 106) C dX8_judge_44 c44_2 (by decide) (by decide) rfl (by decide) ?_
          refine sv_aload_n 0 C dX8_judge_106 rfl rfl ?_
          obtain ⟨b107, hb107, hf⟩ := sv_bind_some hf
          have o_b107 : gh_is T b107 4 := gh_okr hT o_a0 rfl hb107
          refine gh_getr (d := 4) C fl_X8_42 o_a0 (by decide) (by decide) hb107 dX8_judge_107 ?_
          refine sv_aload_n 0 C dX8_judge_110 rfl rfl ?_
          obtain ⟨b111, hb111, hf⟩ := sv_bind_some hf
          have o_b111 : gh_is T b111 1 := gh_okr hT o_a0 rfl hb111
          refine gh_getr (d := 1) C fl_X8_35 o_a0 (by decide) (by decide) hb111 dX8_judge_111 ?_
          obtain ⟨q114, hc114, hf⟩ := sv_bind_some hf
          refine gh_callV0 C mv_X8_201 (m_X4_takeVtg (sv_l X) E T z _ _ _ _ hc114 hT o_b107 o_b111) sv_sx0 o_b107 (by decide) rfl rfl rfl (Nat.le_of_ble_eq_true rfl) ⟨by rw [hR]; exact Nat.le_of_ble_eq_true rfl, by rw [hR]; exact Nat.le_of_ble_eq_true rfl⟩ ⟨by rw [hR]; exact Nat.sub_le_sub_right hle0 _, by rw [hR]; exact Nat.mul_le_mul_left 128 (Nat.sub_le_sub_right hle0 _)⟩ dX8_judge_114 ?_
          refine sv_istore_n (lv' := [(1, .int q114.1), (0, .ref a0)]) C dX8_judge_117 rfl (by rw [hN]; decide) rfl ?_
          refine sv_goto (tgt := 131) C dX8_judge_118 (by decide) ?_
          refine sv_sub (lv' := [(1, .int q114.1)]) [0] rfl ?_
          exact w_X8_judge_131 C hZ hR hN _ _ _ _ hT hz h0 o_a0 hf
        · replace hf := sv_if_f c44_2 hf
          by_cases c44_3 : q41.1 = 4
          · replace hf := sv_if_t c44_3 hf
            refine sv_tswI (v := 4) (tgt := 121) C dX8_judge_44 c44_3 (by decide) (by decide) rfl (by decide) ?_
            refine sv_aload_n 0 C dX8_judge_121 rfl rfl ?_
            obtain ⟨q122, hc122, hf⟩ := sv_bind_some hf
            have x122 := e_X8_takePart _ _ _ _ _ hc122 hT hz o_a0
            have o0_122 := o_a0
            have hT0 := hT
            have hz0 := hz
            replace hT := x122.ok
            replace hz := x122.fr
            replace o_a0 := x122.is o_a0
            replace o_b1 := x122.is o_b1
            replace o_b8 := x122.is o_b8
            replace o_b20 := x122.is o_b20
            replace o_b24 := x122.is o_b24
            replace o_b31 := x122.is o_b31
            replace o_b35 := x122.is o_b35
            have hle : q122.2.2.2 ≤ q.2.2.2 := (e_X8_judge_125 _ _ _ _ hT hz o_a0 hf).le
            have hxl := x122.le
            refine gh_callV C mv_X8_204 (m_X8_takePart (sv_l X) E _ _ _ _ _ hc122 hT0 hz0 o0_122) sv_sx0 o0_122 (by decide) rfl rfl rfl (Nat.le_of_ble_eq_true rfl) ⟨by rw [hR]; exact Nat.le_of_ble_eq_true rfl, by rw [hR]; exact Nat.le_of_ble_eq_true rfl⟩ ⟨by rw [hR]; show z - z0 + (q122.2.2.2 - z) ≤ q.2.2.2 - z0; omega, by rw [hR]; show 128 * (z - z0) + 128 * (q122.2.2.2 - z) ≤ 128 * (q.2.2.2 - z0); omega⟩ dX8_judge_122 ?_
            refine sv_widen (k := q122.2.2.2 - z0) (n := 128 * (q122.2.2.2 - z0)) (by omega) (by omega) ?_
            have h0 : z0 ≤ q122.2.2.2 := Nat.le_trans h0 x122.le
            show sv_J E X (gh_w E q122.2.1 q122.2.2.1) q122.2.2.2 (q122.2.2.2 - z0) (128 * (q122.2.2.2 - z0)) 125 [(0, .ref a0)] [.int q122.1]
            refine sv_sub (lv' := []) [] rfl ?_
            exact w_X8_judge_125 C hZ hR hN _ _ _ _ hT hz h0 o_a0 hf
          · replace hf := sv_if_f c44_3 hf
            have n44_0 : q41.1.toInt ≠ 1 := fun e => c44_0 (Int32.toInt_inj.mp (e.trans (by decide)))
            have n44_1 : q41.1.toInt ≠ 2 := fun e => c44_1 (Int32.toInt_inj.mp (e.trans (by decide)))
            have n44_2 : q41.1.toInt ≠ 3 := fun e => c44_2 (Int32.toInt_inj.mp (e.trans (by decide)))
            have n44_3 : q41.1.toInt ≠ 4 := fun e => c44_3 (Int32.toInt_inj.mp (e.trans (by decide)))
            refine sv_tswO (tgt := 129) C dX8_judge_44 (by omega) (by decide) ?_
            refine sv_iconst (v := 3) C dX8_judge_129 (by decide) ?_
            exact sv_iret C (by cases hf; exact hZ) dX8_judge_130
  · replace hf := sv_if_f c14 hf
    refine sv_iconst (v := 2) C dX8_judge_17 (by decide) ?_
    exact sv_iret C (by cases hf; exact hZ) dX8_judge_18
def f_X8_stream_76 (a0 : Nat) (k9 : gh_T → gh_V → Nat → Int32 → Int32 → Option (Int32 × gh_T × gh_V × Nat)) (T : gh_T) (V : gh_V) (z : Nat) (x1 : Int32) (x2 : Int32) : Option (Int32 × gh_T × gh_V × Nat) :=
  k9 T V z x1 (x2 + 1)
def f_X8_stream_63 (a0 : Nat) (k9 : gh_T → gh_V → Nat → Int32 → Int32 → Option (Int32 × gh_T × gh_V × Nat)) (T : gh_T) (V : gh_V) (z : Nat) (x1 : Int32) (x2 : Int32) (s0 : Int32) : Option (Int32 × gh_T × gh_V × Nat) :=
  (T.2.2.1 0 a0).bind (fun b66 =>
    sv_g (sv_inb s0 (T.2.2.2.1 b66)) (
      sv_g (sv_inb s0 (T.2.2.2.1 b66)) (
        f_X8_stream_76 a0 k9 T (gh_pa V b66 s0 ((V.2 b66 s0.toNatClampNeg) + 1)) z x1 x2)))
def f_X8_stream_9 (a0 : Nat) : Nat → gh_T → gh_V → Nat → Int32 → Int32 → Option (Int32 × gh_T × gh_V × Nat)
  | 0, _, _, _, _, _ => none
  | n + 1, T, V, z, x1, x2 =>
    (T.2.2.1 1 a0).bind (fun b11 =>
      if (V.1 1 b11) ≤ x2 then
        (T.2.2.1 1 a0).bind (fun b83 =>
          (T.2.2.1 0 a0).bind (fun b91 =>
            sv_g (sv_inb (0 : Int32) (T.2.2.2.1 b91)) (
              some (((gh_pf V 1 b83 0).2 b91 (0 : Int32).toNatClampNeg) - x1, T, gh_pf V 1 b83 0, z))))
      else
        (T.2.2.1 3 a0).bind (fun b21 =>
          (T.2.2.1 1 a0).bind (fun b25 =>
            (f_X6_at T V b25 x2).bind (fun q29 =>
              (f_X5_hear T q29.2 b21 q29.1).bind (fun q32 =>
                if q32.1 = 1 then
                  (T.2.2.1 0 a0).bind (fun b42 =>
                    sv_g (sv_inb (1 : Int32) (T.2.2.2.1 b42)) (
                      sv_g (sv_inb (1 : Int32) (T.2.2.2.1 b42)) (
                        f_X8_stream_76 a0 (f_X8_stream_9 a0 n) T (gh_pa q32.2 b42 1 ((q32.2.2 b42 (1 : Int32).toNatClampNeg) + 1)) z x1 x2)))
                else
                  if q32.1 = 2 then
                    (f_X8_judge T q32.2 z a0).bind (fun q60 =>
                      f_X8_stream_63 a0 (f_X8_stream_9 a0 n) q60.2.1 q60.2.2.1 q60.2.2.2 x1 x2 q60.1)
                  else
                    f_X8_stream_76 a0 (f_X8_stream_9 a0 n) T q32.2 z x1 x2)))))
def f_X8_stream (T : gh_T) (V : gh_V) (z : Nat) (a0 : Nat) : Option (Int32 × gh_T × gh_V × Nat) :=
  (T.2.2.1 0 a0).bind (fun b1 =>
    sv_g (sv_inb (0 : Int32) (T.2.2.2.1 b1)) (
      f_X8_stream_9 a0 sv_fu T V z (V.2 b1 (0 : Int32).toNatClampNeg) 0))
set_option maxHeartbeats 4000000 in
set_option maxRecDepth 100000 in
theorem e_X8_stream_76 {q : Int32 × gh_T × gh_V × Nat} {a0 : Nat} {k9 : gh_T → gh_V → Nat → Int32 → Int32 → Option (Int32 × gh_T × gh_V × Nat)} (he9 : ∀ (T : gh_T) (V : gh_V) (z : Nat) (x1 : Int32) (x2 : Int32) (hT : gh_ok T) (hz : gh_fr T z) (o_a0 : gh_is T a0 8), k9 T V z x1 x2 = some q → gh_X T z q.2.1 q.2.2.2) (T : gh_T) (V : gh_V) (z : Nat) (x1 : Int32) (x2 : Int32) (hT : gh_ok T) (hz : gh_fr T z) (o_a0 : gh_is T a0 8) (hf : f_X8_stream_76 a0 k9 T V z x1 x2 = some q) : gh_X T z q.2.1 q.2.2.2 := by
  have hx := gh_X.rf hT hz
  rw [f_X8_stream_76] at hf
  exact hx.trans (he9 _ _ _ _ _ hT hz o_a0 hf)
set_option maxHeartbeats 4000000 in
set_option maxRecDepth 100000 in
theorem w_X8_stream_76 {E : sv_E} {X : sv_X} {z0 : Nat} {q : Int32 × gh_T × gh_V × Nat} {a0 : Nat} (C : sv_C E X cX8_stream RX8 []) (hZ : sv_Z E X (some .int) (some (.int q.1)) (gh_w E q.2.1 q.2.2.1) q.2.2.2 (q.2.2.2 - z0) (128 * (q.2.2.2 - z0))) (hR : sv_R X = { frames := 7, cells := q.2.2.2 - z0, slots := 128 * (q.2.2.2 - z0), locals := 161 }) (hN : sv_nL X = 5) {k9 : gh_T → gh_V → Nat → Int32 → Int32 → Option (Int32 × gh_T × gh_V × Nat)} (he9 : ∀ (T : gh_T) (V : gh_V) (z : Nat) (x1 : Int32) (x2 : Int32) (hT : gh_ok T) (hz : gh_fr T z) (o_a0 : gh_is T a0 8), k9 T V z x1 x2 = some q → gh_X T z q.2.1 q.2.2.2) (hk9 : ∀ (T : gh_T) (V : gh_V) (z : Nat) (x1 : Int32) (x2 : Int32) (hT : gh_ok T) (hz : gh_fr T z) (h0 : z0 ≤ z) (o_a0 : gh_is T a0 8), k9 T V z x1 x2 = some q → sv_J E X (gh_w E T V) z (z - z0) (128 * (z - z0)) 9 [(0, .ref a0), (1, .int x1), (2, .int x2)] []) (T : gh_T) (V : gh_V) (z : Nat) (x1 : Int32) (x2 : Int32) (hT : gh_ok T) (hz : gh_fr T z) (h0 : z0 ≤ z) (o_a0 : gh_is T a0 8) (hf : f_X8_stream_76 a0 k9 T V z x1 x2 = some q) : sv_J E X (gh_w E T V) z (z - z0) (128 * (z - z0)) 76 [(0, .ref a0), (1, .int x1), (2, .int x2)] [] := by
  have hle0 : z ≤ q.2.2.2 := (e_X8_stream_76 he9 _ _ _ _ _ hT hz o_a0 hf).le
  rw [f_X8_stream_76] at hf
  refine sv_iinc (v := x2 + 1) (lv' := [(2, .int (x2 + 1)), (0, .ref a0), (1, .int x1)]) 2 C dX8_stream_76 rfl rfl (by rw [hN]; decide) rfl ?_
  refine sv_goto (tgt := 9) C dX8_stream_79 (by decide) ?_
  refine sv_sub (lv' := [(0, .ref a0), (1, .int x1), (2, .int (x2 + 1))]) [1, 2, 0] rfl ?_
  exact hk9 _ _ _ _ _ hT hz h0 o_a0 hf
set_option maxHeartbeats 4000000 in
set_option maxRecDepth 100000 in
theorem e_X8_stream_63 {q : Int32 × gh_T × gh_V × Nat} {a0 : Nat} {k9 : gh_T → gh_V → Nat → Int32 → Int32 → Option (Int32 × gh_T × gh_V × Nat)} (he9 : ∀ (T : gh_T) (V : gh_V) (z : Nat) (x1 : Int32) (x2 : Int32) (hT : gh_ok T) (hz : gh_fr T z) (o_a0 : gh_is T a0 8), k9 T V z x1 x2 = some q → gh_X T z q.2.1 q.2.2.2) (T : gh_T) (V : gh_V) (z : Nat) (x1 : Int32) (x2 : Int32) (s0 : Int32) (hT : gh_ok T) (hz : gh_fr T z) (o_a0 : gh_is T a0 8) (hf : f_X8_stream_63 a0 k9 T V z x1 x2 s0 = some q) : gh_X T z q.2.1 q.2.2.2 := by
  have hx := gh_X.rf hT hz
  rw [f_X8_stream_63] at hf
  obtain ⟨b66, hb66, hf⟩ := sv_bind_some hf
  have o_b66 : gh_is T b66 10 := gh_okr hT o_a0 rfl hb66
  obtain ⟨g72, hf⟩ := sv_g_some hf
  obtain ⟨g75, hf⟩ := sv_g_some hf
  exact hx.trans (e_X8_stream_76 he9 _ _ _ _ _ hT hz o_a0 hf)
set_option maxHeartbeats 4000000 in
set_option maxRecDepth 100000 in
theorem w_X8_stream_63 {E : sv_E} {X : sv_X} {z0 : Nat} {q : Int32 × gh_T × gh_V × Nat} {a0 : Nat} (C : sv_C E X cX8_stream RX8 []) (hZ : sv_Z E X (some .int) (some (.int q.1)) (gh_w E q.2.1 q.2.2.1) q.2.2.2 (q.2.2.2 - z0) (128 * (q.2.2.2 - z0))) (hR : sv_R X = { frames := 7, cells := q.2.2.2 - z0, slots := 128 * (q.2.2.2 - z0), locals := 161 }) (hN : sv_nL X = 5) {k9 : gh_T → gh_V → Nat → Int32 → Int32 → Option (Int32 × gh_T × gh_V × Nat)} (he9 : ∀ (T : gh_T) (V : gh_V) (z : Nat) (x1 : Int32) (x2 : Int32) (hT : gh_ok T) (hz : gh_fr T z) (o_a0 : gh_is T a0 8), k9 T V z x1 x2 = some q → gh_X T z q.2.1 q.2.2.2) (hk9 : ∀ (T : gh_T) (V : gh_V) (z : Nat) (x1 : Int32) (x2 : Int32) (hT : gh_ok T) (hz : gh_fr T z) (h0 : z0 ≤ z) (o_a0 : gh_is T a0 8), k9 T V z x1 x2 = some q → sv_J E X (gh_w E T V) z (z - z0) (128 * (z - z0)) 9 [(0, .ref a0), (1, .int x1), (2, .int x2)] []) (T : gh_T) (V : gh_V) (z : Nat) (x1 : Int32) (x2 : Int32) (s0 : Int32) (hT : gh_ok T) (hz : gh_fr T z) (h0 : z0 ≤ z) (o_a0 : gh_is T a0 8) (hf : f_X8_stream_63 a0 k9 T V z x1 x2 s0 = some q) : sv_J E X (gh_w E T V) z (z - z0) (128 * (z - z0)) 63 [(0, .ref a0), (1, .int x1), (2, .int x2)] [.int s0] := by
  have hle0 : z ≤ q.2.2.2 := (e_X8_stream_63 he9 _ _ _ _ _ _ hT hz o_a0 hf).le
  rw [f_X8_stream_63] at hf
  refine sv_istore (lv' := [(4, .int s0), (0, .ref a0), (1, .int x1), (2, .int x2)]) C dX8_stream_63 (by rw [hN]; decide) rfl ?_
  refine sv_aload_n 1 C dX8_stream_65 rfl rfl ?_
  obtain ⟨b66, hb66, hf⟩ := sv_bind_some hf
  have o_b66 : gh_is T b66 10 := gh_okr hT o_a0 rfl hb66
  refine gh_getr (d := 10) C fl_X8_9 o_a0 (by decide) (by decide) hb66 dX8_stream_66 ?_
  refine sv_iload 0 C dX8_stream_69 rfl ?_
  refine sv_dup2 C dX8_stream_71 rfl rfl ?_
  obtain ⟨g72, hf⟩ := sv_g_some hf
  refine gh_iald C o_b66 g72 dX8_stream_72 ?_
  refine sv_iconst (v := 1) C dX8_stream_73 (by decide) ?_
  refine sv_iadd C dX8_stream_74 ?_
  obtain ⟨g75, hf⟩ := sv_g_some hf
  refine gh_iast C o_b66 g75 dX8_stream_75 ?_
  refine sv_sub (lv' := [(0, .ref a0), (1, .int x1), (2, .int x2)]) [1, 2, 3] rfl ?_
  exact w_X8_stream_76 C hZ hR hN he9 hk9 _ _ _ _ _ hT hz h0 o_a0 hf
set_option maxHeartbeats 4000000 in
set_option maxRecDepth 100000 in
theorem e_X8_stream_9 {q : Int32 × gh_T × gh_V × Nat} {a0 : Nat} : ∀ (n : Nat) (T : gh_T) (V : gh_V) (z : Nat) (x1 : Int32) (x2 : Int32) (hT : gh_ok T) (hz : gh_fr T z) (o_a0 : gh_is T a0 8), f_X8_stream_9 a0 n T V z x1 x2 = some q → gh_X T z q.2.1 q.2.2.2 := by
  intro n
  induction n with
  | zero =>
    intro T V z x1 x2 hT hz o_a0 hf
    rw [f_X8_stream_9] at hf
    cases hf
  | succ n ih =>
    intro T V z x1 x2 hT hz o_a0 hf
    have hx := gh_X.rf hT hz
    rw [f_X8_stream_9] at hf
    obtain ⟨b11, hb11, hf⟩ := sv_bind_some hf
    have o_b11 : gh_is T b11 6 := gh_okr hT o_a0 rfl hb11
    rcases (Decidable.em ((V.1 1 b11) ≤ x2)) with c17 | c17
    · replace hf := sv_if_t c17 hf
      obtain ⟨b83, hb83, hf⟩ := sv_bind_some hf
      have o_b83 : gh_is T b83 6 := gh_okr hT o_a0 rfl hb83
      obtain ⟨b91, hb91, hf⟩ := sv_bind_some hf
      have o_b91 : gh_is T b91 10 := gh_okr hT o_a0 rfl hb91
      obtain ⟨g95, hf⟩ := sv_g_some hf
      cases hf
      exact hx
    · replace hf := sv_if_f c17 hf
      obtain ⟨b21, hb21, hf⟩ := sv_bind_some hf
      have o_b21 : gh_is T b21 5 := gh_okr hT o_a0 rfl hb21
      obtain ⟨b25, hb25, hf⟩ := sv_bind_some hf
      have o_b25 : gh_is T b25 6 := gh_okr hT o_a0 rfl hb25
      obtain ⟨q29, hc29, hf⟩ := sv_bind_some hf
      obtain ⟨q32, hc32, hf⟩ := sv_bind_some hf
      rcases (Decidable.em (q32.1 = 1)).symm with c38 | c38
      · replace hf := sv_if_f c38 hf
        rcases (Decidable.em (q32.1 = 2)).symm with c56 | c56
        · replace hf := sv_if_f c56 hf
          exact hx.trans (e_X8_stream_76 ih _ _ _ _ _ hT hz o_a0 hf)
        · replace hf := sv_if_t c56 hf
          obtain ⟨q60, hc60, hf⟩ := sv_bind_some hf
          have x60 := e_X8_judge _ _ _ _ _ hc60 hT hz o_a0
          have o0_60 := o_a0
          have hT0 := hT
          have hz0 := hz
          replace hT := x60.ok
          replace hz := x60.fr
          replace o_a0 := x60.is o_a0
          replace o_b11 := x60.is o_b11
          replace o_b21 := x60.is o_b21
          replace o_b25 := x60.is o_b25
          replace hx := hx.trans x60
          exact hx.trans (e_X8_stream_63 ih _ _ _ _ _ _ hT hz o_a0 hf)
      · replace hf := sv_if_t c38 hf
        obtain ⟨b42, hb42, hf⟩ := sv_bind_some hf
        have o_b42 : gh_is T b42 10 := gh_okr hT o_a0 rfl hb42
        obtain ⟨g47, hf⟩ := sv_g_some hf
        obtain ⟨g50, hf⟩ := sv_g_some hf
        exact hx.trans (e_X8_stream_76 ih _ _ _ _ _ hT hz o_a0 hf)
set_option maxHeartbeats 4000000 in
set_option maxRecDepth 100000 in
theorem w_X8_stream_9 {E : sv_E} {X : sv_X} {z0 : Nat} {q : Int32 × gh_T × gh_V × Nat} {a0 : Nat} (C : sv_C E X cX8_stream RX8 []) (hZ : sv_Z E X (some .int) (some (.int q.1)) (gh_w E q.2.1 q.2.2.1) q.2.2.2 (q.2.2.2 - z0) (128 * (q.2.2.2 - z0))) (hR : sv_R X = { frames := 7, cells := q.2.2.2 - z0, slots := 128 * (q.2.2.2 - z0), locals := 161 }) (hN : sv_nL X = 5) : ∀ (n : Nat) (T : gh_T) (V : gh_V) (z : Nat) (x1 : Int32) (x2 : Int32) (hT : gh_ok T) (hz : gh_fr T z) (h0 : z0 ≤ z) (o_a0 : gh_is T a0 8), f_X8_stream_9 a0 n T V z x1 x2 = some q → sv_J E X (gh_w E T V) z (z - z0) (128 * (z - z0)) 9 [(0, .ref a0), (1, .int x1), (2, .int x2)] [] := by
  intro n
  induction n with
  | zero =>
    intro T V z x1 x2 hT hz h0 o_a0 hf
    rw [f_X8_stream_9] at hf
    cases hf
  | succ n ih =>
    intro T V z x1 x2 hT hz h0 o_a0 hf
    have hle0 : z ≤ q.2.2.2 := (e_X8_stream_9 (n + 1) _ _ _ _ _ hT hz o_a0 hf).le
    rw [f_X8_stream_9] at hf
    refine sv_iload_n 2 C dX8_stream_9 rfl rfl ?_
    refine sv_aload_n 0 C dX8_stream_10 rfl rfl ?_
    obtain ⟨b11, hb11, hf⟩ := sv_bind_some hf
    have o_b11 : gh_is T b11 6 := gh_okr hT o_a0 rfl hb11
    refine gh_getr (d := 6) C fl_X8_18 o_a0 (by decide) (by decide) hb11 dX8_stream_11 ?_
    refine gh_geti C fl_X8_78 o_b11 (by decide) (by decide) dX8_stream_14 ?_
    refine sv_icmp_ge (tgt := 82) C dX8_stream_17 (by decide) (fun c17 => ?_) (fun c17 => ?_)
    · replace hf := sv_if_t c17 hf
      refine sv_aload_n 0 C dX8_stream_82 rfl rfl ?_
      obtain ⟨b83, hb83, hf⟩ := sv_bind_some hf
      have o_b83 : gh_is T b83 6 := gh_okr hT o_a0 rfl hb83
      refine gh_getr (d := 6) C fl_X8_18 o_a0 (by decide) (by decide) hb83 dX8_stream_83 ?_
      refine sv_iconst (v := 0) C dX8_stream_86 (by decide) ?_
      refine gh_puti C fl_X8_78 o_b83 (by decide) (by decide) rfl rfl dX8_stream_87 ?_
      refine sv_aload_n 0 C dX8_stream_90 rfl rfl ?_
      obtain ⟨b91, hb91, hf⟩ := sv_bind_some hf
      have o_b91 : gh_is T b91 10 := gh_okr hT o_a0 rfl hb91
      refine gh_getr (d := 10) C fl_X8_9 o_a0 (by decide) (by decide) hb91 dX8_stream_91 ?_
      refine sv_iconst (v := 0) C dX8_stream_94 (by decide) ?_
      obtain ⟨g95, hf⟩ := sv_g_some hf
      refine gh_iald C o_b91 g95 dX8_stream_95 ?_
      refine sv_iload_n 1 C dX8_stream_96 rfl rfl ?_
      refine sv_isub C dX8_stream_97 ?_
      exact sv_iret C (by cases hf; exact hZ) dX8_stream_98
    · replace hf := sv_if_f c17 hf
      refine sv_aload_n 0 C dX8_stream_20 rfl rfl ?_
      obtain ⟨b21, hb21, hf⟩ := sv_bind_some hf
      have o_b21 : gh_is T b21 5 := gh_okr hT o_a0 rfl hb21
      refine gh_getr (d := 5) C fl_X8_28 o_a0 (by decide) (by decide) hb21 dX8_stream_21 ?_
      refine sv_aload_n 0 C dX8_stream_24 rfl rfl ?_
      obtain ⟨b25, hb25, hf⟩ := sv_bind_some hf
      have o_b25 : gh_is T b25 6 := gh_okr hT o_a0 rfl hb25
      refine gh_getr (d := 6) C fl_X8_18 o_a0 (by decide) (by decide) hb25 dX8_stream_25 ?_
      refine sv_iload_n 2 C dX8_stream_28 rfl rfl ?_
      obtain ⟨q29, hc29, hf⟩ := sv_bind_some hf
      refine gh_callV0 C mv_X8_82 (m_X6_at (sv_l X) E T z _ _ _ _ hc29 hT o_b25) sv_sx0 o_b25 (by decide) rfl rfl rfl (Nat.le_of_ble_eq_true rfl) ⟨by rw [hR]; exact Nat.le_of_ble_eq_true rfl, by rw [hR]; exact Nat.le_of_ble_eq_true rfl⟩ ⟨by rw [hR]; exact Nat.sub_le_sub_right hle0 _, by rw [hR]; exact Nat.mul_le_mul_left 128 (Nat.sub_le_sub_right hle0 _)⟩ dX8_stream_29 ?_
      obtain ⟨q32, hc32, hf⟩ := sv_bind_some hf
      refine gh_callV0 C mv_X8_86 (m_X5_hear (sv_l X) E T z _ _ _ _ hc32 hT o_b21) sv_sx0 o_b21 (by decide) rfl rfl rfl (Nat.le_of_ble_eq_true rfl) ⟨by rw [hR]; exact Nat.le_of_ble_eq_true rfl, by rw [hR]; exact Nat.le_of_ble_eq_true rfl⟩ ⟨by rw [hR]; exact Nat.sub_le_sub_right hle0 _, by rw [hR]; exact Nat.mul_le_mul_left 128 (Nat.sub_le_sub_right hle0 _)⟩ dX8_stream_32 ?_
      refine sv_istore_n (lv' := [(3, .int q32.1), (0, .ref a0), (1, .int x1), (2, .int x2)]) C dX8_stream_35 rfl (by rw [hN]; decide) rfl ?_
      refine sv_iload_n 0 C dX8_stream_36 rfl rfl ?_
      refine sv_iconst (v := 1) C dX8_stream_37 (by decide) ?_
      refine sv_icmp_ne (tgt := 54) C dX8_stream_38 (by decide) (fun c38 => ?_) (fun c38 => ?_)
      · replace hf := sv_if_f c38 hf
        refine sv_iload_n 0 C dX8_stream_54 rfl rfl ?_
        refine sv_iconst (v := 2) C dX8_stream_55 (by decide) ?_
        refine sv_icmp_ne (tgt := 76) C dX8_stream_56 (by decide) (fun c56 => ?_) (fun c56 => ?_)
        · replace hf := sv_if_f c56 hf
          refine sv_sub (lv' := [(0, .ref a0), (1, .int x1), (2, .int x2)]) [1, 2, 3] rfl ?_
          exact w_X8_stream_76 C hZ hR hN (e_X8_stream_9 n) ih _ _ _ _ _ hT hz h0 o_a0 hf
        · replace hf := sv_if_t c56 hf
          refine sv_aload_n 1 C dX8_stream_59 rfl rfl ?_
          obtain ⟨q60, hc60, hf⟩ := sv_bind_some hf
          have x60 := e_X8_judge _ _ _ _ _ hc60 hT hz o_a0
          have o0_60 := o_a0
          have hT0 := hT
          have hz0 := hz
          replace hT := x60.ok
          replace hz := x60.fr
          replace o_a0 := x60.is o_a0
          replace o_b11 := x60.is o_b11
          replace o_b21 := x60.is o_b21
          replace o_b25 := x60.is o_b25
          have hle : q60.2.2.2 ≤ q.2.2.2 := (e_X8_stream_63 (e_X8_stream_9 n) _ _ _ _ _ _ hT hz o_a0 hf).le
          have hxl := x60.le
          refine gh_callV C mv_X8_89 (m_X8_judge (sv_l X) E _ _ _ _ _ hc60 hT0 hz0 o0_60) sv_sx0 o0_60 (by decide) rfl rfl rfl (Nat.le_of_ble_eq_true rfl) ⟨by rw [hR]; exact Nat.le_of_ble_eq_true rfl, by rw [hR]; exact Nat.le_of_ble_eq_true rfl⟩ ⟨by rw [hR]; show z - z0 + (q60.2.2.2 - z) ≤ q.2.2.2 - z0; omega, by rw [hR]; show 128 * (z - z0) + 128 * (q60.2.2.2 - z) ≤ 128 * (q.2.2.2 - z0); omega⟩ dX8_stream_60 ?_
          refine sv_widen (k := q60.2.2.2 - z0) (n := 128 * (q60.2.2.2 - z0)) (by omega) (by omega) ?_
          have h0 : z0 ≤ q60.2.2.2 := Nat.le_trans h0 x60.le
          show sv_J E X (gh_w E q60.2.1 q60.2.2.1) q60.2.2.2 (q60.2.2.2 - z0) (128 * (q60.2.2.2 - z0)) 63 [(3, .int q32.1), (0, .ref a0), (1, .int x1), (2, .int x2)] [.int q60.1]
          refine sv_sub (lv' := [(0, .ref a0), (1, .int x1), (2, .int x2)]) [1, 2, 3] rfl ?_
          exact w_X8_stream_63 C hZ hR hN (e_X8_stream_9 n) ih _ _ _ _ _ _ hT hz h0 o_a0 hf
      · replace hf := sv_if_t c38 hf
        refine sv_aload_n 1 C dX8_stream_41 rfl rfl ?_
        obtain ⟨b42, hb42, hf⟩ := sv_bind_some hf
        have o_b42 : gh_is T b42 10 := gh_okr hT o_a0 rfl hb42
        refine gh_getr (d := 10) C fl_X8_9 o_a0 (by decide) (by decide) hb42 dX8_stream_42 ?_
        refine sv_iconst (v := 1) C dX8_stream_45 (by decide) ?_
        refine sv_dup2 C dX8_stream_46 rfl rfl ?_
        obtain ⟨g47, hf⟩ := sv_g_some hf
        refine gh_iald C o_b42 g47 dX8_stream_47 ?_
        refine sv_iconst (v := 1) C dX8_stream_48 (by decide) ?_
        refine sv_iadd C dX8_stream_49 ?_
        obtain ⟨g50, hf⟩ := sv_g_some hf
        refine gh_iast C o_b42 g50 dX8_stream_50 ?_
        refine sv_goto (tgt := 76) C dX8_stream_51 (by decide) ?_
        refine sv_sub (lv' := [(0, .ref a0), (1, .int x1), (2, .int x2)]) [1, 2, 3] rfl ?_
        exact w_X8_stream_76 C hZ hR hN (e_X8_stream_9 n) ih _ _ _ _ _ hT hz h0 o_a0 hf
set_option maxHeartbeats 4000000 in
set_option maxRecDepth 100000 in
theorem e_X8_stream (T : gh_T) (V : gh_V) (z : Nat) (a0 : Nat) (q : Int32 × gh_T × gh_V × Nat) (hf : f_X8_stream T V z a0 = some q) (hT : gh_ok T) (hz : gh_fr T z) (o_a0 : gh_is T a0 8) : gh_X T z q.2.1 q.2.2.2 := by
  have hx := gh_X.rf hT hz
  rw [f_X8_stream] at hf
  obtain ⟨b1, hb1, hf⟩ := sv_bind_some hf
  have o_b1 : gh_is T b1 10 := gh_okr hT o_a0 rfl hb1
  obtain ⟨g5, hf⟩ := sv_g_some hf
  exact hx.trans (e_X8_stream_9 sv_fu _ _ _ _ _ hT hz o_a0 hf)
set_option maxHeartbeats 4000000 in
set_option maxRecDepth 100000 in
theorem m_X8_stream (l : Launch) (E : sv_E) (T : gh_T) (V : gh_V) (z : Nat) (a0 : Nat) (q : Int32 × gh_T × gh_V × Nat) (hf : f_X8_stream T V z a0 = some q) (hT : gh_ok T) (hz : gh_fr T z) (o_a0 : gh_is T a0 8) : sv_Met l E yX8_stream cX8_stream 5 (some .int) 7 161 [] [.ref a0] (gh_w E T V) z (some (.int q.1)) (gh_w E q.2.1 q.2.2.1) q.2.2.2 (q.2.2.2 - z) (128 * (q.2.2.2 - z)) := by
  refine sv_ofJ (by decide) (Nat.le_of_ble_eq_true rfl) ?_
  intro X hX hN hnm hR C hZ
  replace C : sv_C E X cX8_stream RX8 [] := C
  obtain ⟨z0, hz0⟩ : ∃ z0 : Nat, z0 = z := ⟨z, rfl⟩
  have h0 : z0 ≤ z := Nat.le_of_eq hz0
  rw [← hz0] at hR hZ
  refine sv_widen (k := z - z0) (n := 128 * (z - z0)) (Nat.zero_le _) (Nat.zero_le _) ?_
  show sv_J E X (gh_w E T V) z (z - z0) (128 * (z - z0)) 0 [(0, .ref a0)] []
  have hle0 : z ≤ q.2.2.2 := (e_X8_stream _ _ _ _ _ hf hT hz o_a0).le
  rw [f_X8_stream] at hf
  refine sv_aload_n 0 C dX8_stream_0 rfl rfl ?_
  obtain ⟨b1, hb1, hf⟩ := sv_bind_some hf
  have o_b1 : gh_is T b1 10 := gh_okr hT o_a0 rfl hb1
  refine gh_getr (d := 10) C fl_X8_9 o_a0 (by decide) (by decide) hb1 dX8_stream_1 ?_
  refine sv_iconst (v := 0) C dX8_stream_4 (by decide) ?_
  obtain ⟨g5, hf⟩ := sv_g_some hf
  refine gh_iald C o_b1 g5 dX8_stream_5 ?_
  refine sv_istore_n (lv' := [(1, .int (V.2 b1 (0 : Int32).toNatClampNeg)), (0, .ref a0)]) C dX8_stream_6 rfl (by rw [hN]; decide) rfl ?_
  refine sv_iconst (v := 0) C dX8_stream_7 (by decide) ?_
  refine sv_istore_n (lv' := [(2, .int 0), (1, .int (V.2 b1 (0 : Int32).toNatClampNeg)), (0, .ref a0)]) C dX8_stream_8 rfl (by rw [hN]; decide) rfl ?_
  refine sv_sub (lv' := [(0, .ref a0), (1, .int (V.2 b1 (0 : Int32).toNatClampNeg)), (2, .int 0)]) [2, 1, 0] rfl ?_
  exact w_X8_stream_9 C hZ hR hN sv_fu _ _ _ _ _ hT hz h0 o_a0 hf
