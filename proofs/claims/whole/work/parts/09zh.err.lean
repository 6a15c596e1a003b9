/-! ===== PURE: the reference's sum of errors ===== -/
theorem err_loop {e : EnvB} (ok : e.Ok) {p : Nat} {G : GF} {mags marks known below latest early again : Nat → Int32} (hf : Fld e.W e.H (czOf e.sty) p G mags marks known below latest early again) : ∀ (k i fuel : Nat), i + k = e.W * e.H → k < fuel → (PL_X11_error_j_1 (nI e.W) (nI e.H) 4096 e.mag 4096 known 4096 latest fuel (sumL (errI e G) i) (nI i)) ∧ ((L_X11_error_j_1 (nI e.W) (nI e.H) e.mag known latest fuel (sumL (errI e G) i) (nI i))).1 = errS e G := by
  have hwh := wh_le ok.W64 ok.H64
  have hW := ok.W1
  intro k
  induction k with
  | zero =>
    intro i fuel h1 h2
    obtain ⟨n, rfl⟩ : ∃ n, fuel = n + 1 := ⟨fuel - 1, by omega⟩
    have q : nI (e.W * e.H) ≤ nI i := nI_le (by omega) (by omega)
    rw [PL_X11_error_j_1, L_X11_error_j_1, pk_mul, if_pos q]
    refine ⟨fun z => absurd q z, ?_⟩
    show sumL (errI e G) i = errS e G
    rw [show i = e.W * e.H by omega]; rfl
  | succ k ih =>
    intro i fuel h1 h2
    obtain ⟨n, rfl⟩ : ∃ n, fuel = n + 1 := ⟨fuel - 1, by omega⟩
    have q : ¬ nI (e.W * e.H) ≤ nI i := nI_ge (by omega) (by omega)
    have hx : i % e.W < e.W := Nat.mod_lt _ (by omega)
    have hy : i / e.W < e.H := Nat.div_lt_of_lt_mul (by omega)
    have hi : i / e.W * e.W + i % e.W = i := by rw [Nat.mul_comm]; exact Nat.div_add_mod i e.W
    have hw := m_worth (i := i) hf hx hy hi (by omega)
    have hm := ok.mg _ _ hx hy
    rw [hi] at hm
    have hv : vp_in (nI i) 4096 := vp_in_nI (by omega) (by omega)
    have ht : sumL (errI e G) i + ((((e.mag (nI i).toNatClampNeg).toInt64) - (nI (vN G (i % e.W) (i / e.W))).toInt64) * (((e.mag (nI i).toNatClampNeg).toInt64) - (nI (vN G (i % e.W) (i / e.W))).toInt64)) = sumL (errI e G) (i + 1) := by
      rw [nI_clamp (by omega), hm]; rfl
    obtain ⟨t1, t2⟩ := ih (i + 1) n (by omega) (by omega)
    rw [nI_succ] at t1 t2
    rw [PL_X11_error_j_1, L_X11_error_j_1, pk_mul, if_neg q]
    refine ⟨fun _ => ⟨hv, ⟨hv, fun _ => hv⟩, fun r4 e4 => ?_⟩, ?_⟩
    · rw [hw] at e4
      subst e4
      rw [ht]; exact t1
    · simp only [hw]
      rw [ht]; exact t2
theorem err_ok {e : EnvB} (ok : e.Ok) {p : Nat} {G : GF} {mags marks known below latest early again : Nat → Int32} (hf : Fld e.W e.H (czOf e.sty) p G mags marks known below latest early again) : (P_X11_error (nI e.W) (nI e.H) 4096 e.mag 4096 known 4096 latest) ∧ (F_X11_error (nI e.W) (nI e.H) e.mag known latest) = errS e G := by
  have hfu := fu_ge
  have hwh := wh_le ok.W64 ok.H64
  obtain ⟨t1, t2⟩ := err_loop ok hf (e.W * e.H) 0 fu (by omega) (by omega)
  rw [nI_0] at t1 t2
  exact ⟨t1, t2⟩
