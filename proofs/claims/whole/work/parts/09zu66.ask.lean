/-! ===== PURE: the questions ===== -/
theorem bI_ne {b : Bool} (h : ¬ bI b = 0) : b = true := by cases b; exact absurd rfl h; rfl
theorem bI_eq {b : Bool} (h : bI b = 0) : b = false := by cases b; rfl; exact absurd h (by decide)
theorem sw4 {p : Int32} (h0 : ¬ p = 0) (h1 : ¬ p = 1) (h2 : ¬ p = 2) (h3 : ¬ p = 3) : F_X11_out p 0 3 = 1 := by
  by_cases c : p < 0
  · exact out_lo c
  · obtain ⟨j, hj, rfl⟩ := nI_of c
    apply out_hi c
    intro z
    have z2 : j ≤ 3 := (nI_leI (b := 3) hj (by omega)).mp z
    rcases (show j = 0 ∨ j = 1 ∨ j = 2 ∨ j = 3 by omega) with rfl | rfl | rfl | rfl
    · exact h0 rfl
    · exact h1 rfl
    · exact h2 rfl
    · exact h3 rfl
theorem sw5 {p : Int32} (h0 : ¬ p = 0) (h1 : ¬ p = 1) (h2 : ¬ p = 2) (h3 : ¬ p = 3) (h4 : ¬ p = 4) : F_X11_out p 0 4 = 1 := by
  by_cases c : p < 0
  · exact out_lo c
  · obtain ⟨j, hj, rfl⟩ := nI_of c
    apply out_hi c
    intro z
    have z2 : j ≤ 4 := (nI_leI (b := 4) hj (by omega)).mp z
    rcases (show j = 0 ∨ j = 1 ∨ j = 2 ∨ j = 3 ∨ j = 4 by omega) with rfl | rfl | rfl | rfl | rfl
    · exact h0 rfl
    · exact h1 rfl
    · exact h2 rfl
    · exact h3 rfl
    · exact h4 rfl
theorem k_written {x : XS} {y : YS} (p1 : Int32) (h : OR x y) : True ∧ ((T_written p1 x.wr = 0 ∧ (P_X10_written p1 x.wr) ∧ (F_X11_written p1 y.wr y.planes y.passes y.segs y.m.size) = ((F_X10_written p1 x.c.count x.planes x.passes x.segs), 0)) ∨ (T_written p1 x.wr = 1 ∧ ∃ a : Int32, (F_X11_written p1 y.wr y.planes y.passes y.segs y.m.size) = (a, 1)) ∨ (T_written p1 x.wr = 3 ∧ ∃ a : Int32, (F_X11_written p1 y.wr y.planes y.passes y.segs y.m.size) = (a, 2))) := by
  refine ⟨trivial, ?_⟩
  obtain ⟨e, w, r, ok, L, ⟨hb1, hb2, hbk, hrw, hmr⟩, ⟨w1, w2, w3, w4⟩, hw, hr⟩ := h
  unfold T_written F_X11_written J_X11_written_j_2 P_X10_written P_X10_needWritten F_X10_written
  rw [w2, w1]
  by_cases c : bI w = 0
  · right; left
    rw [if_pos c, if_pos c]
    simp only [thr1]
    exact ⟨trivial, 0, rfl⟩
  · obtain ⟨P, T, N, rc, sb, bb, a1, a2, ⟨b1, b2, b3, b4, b5⟩, ⟨d1, d2, d3, d4, d5, d6⟩, a5, a6, a7, a8⟩ := hw (bI_ne c)
    rw [if_neg c, if_neg c, b1, b2, b4, b5, d1, d3, a7]
    by_cases c0 : p1 = 0
    · left
      subst c0
      exact ⟨rfl, ⟨fun z => c z, fun _ => trivial, fun z => absurd rfl z⟩, rfl⟩
    · by_cases c1 : p1 = 1
      · left
        subst c1
        exact ⟨rfl, ⟨fun z => c z, fun _ => trivial, fun _ => ⟨fun _ => trivial, fun z => absurd rfl z⟩⟩, rfl⟩
      · by_cases c2 : p1 = 2
        · left
          subst c2
          exact ⟨rfl, ⟨fun z => c z, fun _ => trivial, fun _ => ⟨fun _ => trivial, fun _ => ⟨fun _ => trivial, fun z => absurd rfl z⟩⟩⟩, rfl⟩
        · by_cases c3 : p1 = 3
          · left
            subst c3
            exact ⟨rfl, ⟨fun z => c z, fun _ => trivial, fun _ => ⟨fun _ => trivial, fun _ => ⟨fun _ => trivial, fun _ => ⟨fun _ => trivial, fun z => absurd rfl z⟩⟩⟩⟩, rfl⟩
          · right; right
            rw [if_neg c0, if_neg c1, if_neg c2, if_neg c3]
            simp only [sw4 c0 c1 c2 c3, thr2]
            exact ⟨trivial, 0, rfl⟩
