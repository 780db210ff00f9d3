theorem zz_X0_init (T : gh_T) (V : gh_V) (z : Nat) (a0 : Nat) (x1 : Int32) (q : gh_T × gh_V × Nat) (hf : f_X0_init T V z a0 x1 = some q) : q.2.2 = z + 1 := by
  unfold f_X0_init at hf
  split at hf
  · unfold f_X0_init_14 at hf
    obtain ⟨-, hf⟩ := sv_g_some hf
    cases hf
    rfl
  · unfold f_X0_init_14 at hf
    obtain ⟨-, hf⟩ := sv_g_some hf
    cases hf
    rfl
theorem zz_X7_init (T : gh_T) (V : gh_V) (z : Nat) (a0 : Nat) (q : gh_T × gh_V × Nat) (hf : f_X7_init T V z a0 = some q) : q.2.2 = z + 3 := by
  unfold f_X7_init at hf
  cases hf
  rfl
