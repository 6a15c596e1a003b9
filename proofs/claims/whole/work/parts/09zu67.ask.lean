/-! ===== PURE: the questions of passes and bytes ===== -/
theorem need_pass {p : Int32} {T : Nat} (hT : T ≤ 91) : (p < 0 ∧ F_X11_out p 0 (nI T - 1) = 1) ∨ (¬ p < 0 ∧ ¬ p < nI T ∧ F_X11_out p 0 (nI T - 1) = 1) ∨ (¬ p < 0 ∧ p < nI T ∧ F_X11_out p 0 (nI T - 1) = 0 ∧ ∃ k, k < T ∧ p = nI k) := by
  by_cases c1 : p < 0
  · exact Or.inl ⟨c1, out_lo c1⟩
  · obtain ⟨j, hj, rfl⟩ := nI_of c1
    by_cases c2 : nI j < nI T
    · exact Or.inr (Or.inr ⟨c1, c2, out_in c1 ((le_pred c1 (by omega)).mpr c2), j, (nI_ltI hj (by omega)).mp c2, rfl⟩)
    · exact Or.inr (Or.inl ⟨c1, c2, out_hi c1 (fun z => c2 ((le_pred c1 (by omega)).mp z))⟩)
theorem need_byte {p : Int32} {T : Nat} (hT : T ≤ 65536) : (p < 0 ∧ F_X11_out p 0 (nI T - 1) = 1) ∨ (¬ p < 0 ∧ ¬ p < nI T ∧ F_X11_out p 0 (nI T - 1) = 1) ∨ (¬ p < 0 ∧ p < nI T ∧ F_X11_out p 0 (nI T - 1) = 0 ∧ ∃ k, k < T ∧ p = nI k) := by
  by_cases c1 : p < 0
  · exact Or.inl ⟨c1, out_lo c1⟩
  · obtain ⟨j, hj, rfl⟩ := nI_of c1
    by_cases c2 : nI j < nI T
    · exact Or.inr (Or.inr ⟨c1, c2, out_in c1 ((le_pred c1 (by omega)).mpr c2), j, (nI_ltI hj (by omega)).mp c2, rfl⟩)
    · exact Or.inr (Or.inl ⟨c1, c2, out_hi c1 (fun z => c2 ((le_pred c1 (by omega)).mp z))⟩)
theorem k_gain {x : XS} {y : YS} (p1 : Int32) (h : OR x y) : (P_X11_gain p1 y.wr y.passes 96) ∧ ((T_needPass p1 x.passes x.wr = 0 ∧ (P_X10_gain p1 x.passes 91 x.wr) ∧ (F_X11_gain p1 y.wr y.passes y.gns) = ((F_X10_gain p1 x.gns), 0)) ∨ (T_needPass p1 x.passes x.wr = 1 ∧ ∃ a : Int64, (F_X11_gain p1 y.wr y.passes y.gns) = (a, 1)) ∨ (T_needPass p1 x.passes x.wr = 2 ∧ ∃ a : Int64, (F_X11_gain p1 y.wr y.passes y.gns) = (a, 2))) := by
  obtain ⟨e, w, r, ok, L, ⟨hb1, hb2, hbk, hrw, hmr⟩, ⟨w1, w2, w3, w4⟩, hw, hr⟩ := h
  unfold T_needPass F_X11_gain J_X11_gain_j_2 P_X11_gain J_X11_gain_j_2 P_X10_gain P_X10_needPass P_X10_needWritten F_X10_gain
  rw [w2, w1]
  by_cases c : bI w = 0
  · rw [if_pos c, if_pos c]
    simp only [thr1, forall_eq']
    exact ⟨fun z => absurd z (by decide), Or.inr (Or.inl ⟨trivial, 0, rfl⟩)⟩
  · obtain ⟨P, T, N, rc, sb, bb, a1, a2, ⟨b1, b2, b3, b4, b5⟩, ⟨d1, d2, d3, d4, d5, d6⟩, a5, a6, a7, a8⟩ := hw (bI_ne c)
    rw [if_neg c, if_neg c, b2, b5]
    rcases need_pass (p := p1) (T := T) (by omega) with ⟨q1, q2⟩ | ⟨q1, q2, q3⟩ | ⟨q1, q2, q3, k, hk, rfl⟩
    · rw [if_pos q1]
      simp only [q2, thr2, forall_eq']
      exact ⟨fun z => absurd z (by decide), Or.inr (Or.inr ⟨trivial, 0, rfl⟩)⟩
    · rw [if_neg q1, if_neg q2]
      simp only [q3, thr2, forall_eq']
      exact ⟨fun z => absurd z (by decide), Or.inr (Or.inr ⟨trivial, 0, rfl⟩)⟩
    · rw [if_neg q1, if_pos q2]
      simp only [q3, thr0, forall_eq']
      refine ⟨fun _ => vp_in_nI (by omega) (by omega), Or.inl ⟨trivial, ⟨⟨fun z => c z, fun z => q1 z, fun _ z => z q2⟩, vp_in_nI (by omega) (by omega)⟩, ?_⟩⟩
      rw [nI_clamp (by omega), a8 k hk]; rfl
theorem k_at {x : XS} {y : YS} (p1 : Int32) (h : OR x y) : (P_X11_at p1 y.wr y.m.size 65536) ∧ ((T_needPass p1 x.c.count x.wr = 0 ∧ (P_X10_at p1 x.c.count x.c.bn x.wr) ∧ (F_X11_at p1 y.wr y.m.size y.m.bf) = ((F_X10_at p1 x.c.bf), 0)) ∨ (T_needPass p1 x.c.count x.wr = 1 ∧ ∃ a : Int32, (F_X11_at p1 y.wr y.m.size y.m.bf) = (a, 1)) ∨ (T_needPass p1 x.c.count x.wr = 2 ∧ ∃ a : Int32, (F_X11_at p1 y.wr y.m.size y.m.bf) = (a, 2))) := by
  obtain ⟨e, w, r, ok, L, ⟨hb1, hb2, hbk, hrw, hmr⟩, ⟨w1, w2, w3, w4⟩, hw, hr⟩ := h
  unfold T_needPass F_X11_at J_X11_at_j_2 P_X11_at J_X11_at_j_2 P_X10_at P_X10_needByte P_X10_needWritten F_X10_at
  rw [w2, w1]
  by_cases c : bI w = 0
  · rw [if_pos c, if_pos c]
    simp only [thr1, forall_eq']
    exact ⟨fun z => absurd z (by decide), Or.inr (Or.inl ⟨trivial, 0, rfl⟩)⟩
  · obtain ⟨P, T, N, rc, sb, bb, a1, a2, ⟨b1, b2, b3, b4, b5⟩, ⟨d1, d2, d3, d4, d5, d6⟩, a5, a6, a7, a8⟩ := hw (bI_ne c)
    rw [if_neg c, if_neg c, d1, d3]
    rcases need_byte (p := p1) (T := N) (d6) with ⟨q1, q2⟩ | ⟨q1, q2, q3⟩ | ⟨q1, q2, q3, k, hk, rfl⟩
    · rw [if_pos q1]
      simp only [q2, thr2, forall_eq']
      exact ⟨fun z => absurd z (by decide), Or.inr (Or.inr ⟨trivial, 0, rfl⟩)⟩
    · rw [if_neg q1, if_neg q2]
      simp only [q3, thr2, forall_eq']
      exact ⟨fun z => absurd z (by decide), Or.inr (Or.inr ⟨trivial, 0, rfl⟩)⟩
    · rw [if_neg q1, if_pos q2]
      simp only [q3, thr0, forall_eq']
      have hbn := d2.1
      refine ⟨fun _ => vp_in_nI (by omega) (by omega), Or.inl ⟨trivial, ⟨⟨fun z => c z, fun z => q1 z, fun _ z => z q2⟩, vp_in_nI (by omega) (by omega)⟩, ?_⟩⟩
      rw [nI_clamp (by omega), d2.2.2.2 k hk, d4 k hk]; rfl
theorem k_pass {x : XS} {y : YS} (p1 : Int32) (p2 : Int32) (h : OR x y) : (P_X11_pass p1 p2 y.wr y.passes 96) ∧ ((T_pass p1 p2 x.passes x.wr = 0 ∧ (P_X10_pass p1 p2 x.passes 91 x.wr) ∧ (F_X11_pass p1 p2 y.sty y.wr y.planes y.passes y.rch) = ((F_X10_pass p1 p2 x.planes x.passes x.psty x.rch), 0)) ∨ (T_pass p1 p2 x.passes x.wr = 1 ∧ ∃ a : Int32, (F_X11_pass p1 p2 y.sty y.wr y.planes y.passes y.rch) = (a, 1)) ∨ (T_pass p1 p2 x.passes x.wr = 2 ∧ ∃ a : Int32, (F_X11_pass p1 p2 y.sty y.wr y.planes y.passes y.rch) = (a, 2)) ∨ (T_pass p1 p2 x.passes x.wr = 3 ∧ ∃ a : Int32, (F_X11_pass p1 p2 y.sty y.wr y.planes y.passes y.rch) = (a, 3))) := by
  obtain ⟨e, w, r, ok, L, ⟨hb1, hb2, hbk, hrw, hmr⟩, ⟨w1, w2, w3, w4⟩, hw, hr⟩ := h
  unfold T_pass F_X11_pass J_X11_pass_j_2 P_X11_pass J_X11_pass_j_2 P_X10_pass P_X10_needPass P_X10_needWritten F_X10_pass
  rw [w2, w1]
  by_cases c : bI w = 0
  · rw [if_pos c, if_pos c]
    simp only [thr1, forall_eq']
    exact ⟨fun z => absurd z (by decide), Or.inr (Or.inl ⟨trivial, 0, rfl⟩)⟩
  · obtain ⟨P, T, N, rc, sb, bb, a1, a2, ⟨b1, b2, b3, b4, b5⟩, ⟨d1, d2, d3, d4, d5, d6⟩, a5, a6, a7, a8⟩ := hw (bI_ne c)
    obtain ⟨-, -, -, -, -, -, -, -, l9, -, -, -, l13, -⟩ := L
    rw [if_neg c, if_neg c, b1, b2, b3, b4, b5, l13]
    rcases need_pass (p := p1) (T := T) (by omega) with ⟨q1, q2⟩ | ⟨q1, q2, q3⟩ | ⟨q1, q2, q3, k, hk, rfl⟩
    · rw [if_pos q1]
      simp only [q2, thr2, forall_eq']
      exact ⟨fun z => absurd z (by decide), Or.inr (Or.inr (Or.inl ⟨trivial, 0, rfl⟩))⟩
    · rw [if_neg q1, if_neg q2]
      simp only [q3, thr2, forall_eq']
      exact ⟨fun z => absurd z (by decide), Or.inr (Or.inr (Or.inl ⟨trivial, 0, rfl⟩))⟩
    · rw [if_neg q1, if_pos q2]
      simp only [q3, forall_eq']
      have hT91 : T ≤ 91 := by omega
      obtain ⟨kd1, kd2⟩ := kd_all k (by omega)
      obtain ⟨pl1, pl2⟩ := pl_ok a1 (k := k) (by omega)
      obtain ⟨rw1, rw2⟩ := raw_ok e.sty (k := k) (by omega)
      obtain ⟨en1, en2⟩ := end_ok e.sty hk hT91
      have hi : vp_in (nI k) 96 := vp_in_nI (by omega) (by omega)
      have hi9 : vp_in (nI k) 91 := vp_in_nI (by omega) (by omega)
      have hN : (P_X10_needWritten (bI w)) ∧ (((nI k < (0 : Int32)) → False) ∧ (¬ (nI k < (0 : Int32)) → (¬ (nI k < nI T) → False))) := ⟨fun z => c z, fun z => q1 z, fun _ z => z q2⟩
      by_cases c0 : p2 = 0
      · subst c0
        rw [show F_X11_out 0 0 4 = 0 by decide, thr0]
        refine ⟨fun _ => ⟨fun _ => trivial, fun z => absurd rfl z⟩, Or.inl ⟨rfl, ⟨hN, fun _ => trivial, fun z => absurd rfl z⟩, ?_⟩⟩
        simp only [if_true, kd1, kd2]
      · by_cases c1 : p2 = 1
        · subst c1
          rw [show F_X11_out 1 0 4 = 0 by decide, thr0]
          refine ⟨fun _ => ⟨fun _ => trivial, fun _ => ⟨fun _ => trivial, fun z => absurd rfl z⟩⟩, Or.inl ⟨rfl, ⟨hN, fun _ => trivial, fun _ => ⟨fun _ => trivial, fun z => absurd rfl z⟩⟩, ?_⟩⟩
          simp only [if_true, c0, if_false, pl1, pl2]
        · by_cases c2 : p2 = 2
          · subst c2
            rw [show F_X11_out 2 0 4 = 0 by decide, thr0]
            refine ⟨fun _ => ⟨fun _ => trivial, fun _ => ⟨fun _ => trivial, fun _ => ⟨fun _ => trivial, fun z => absurd rfl z⟩⟩⟩, Or.inl ⟨rfl, ⟨hN, fun _ => trivial, fun _ => ⟨fun _ => trivial, fun _ => ⟨fun _ => trivial, fun z => absurd rfl z⟩⟩⟩, ?_⟩⟩
            simp only [if_true, c0, c1, if_false, rw1, rw2]
            cases rawB e.sty k <;> rfl
          · by_cases c3 : p2 = 3
            · subst c3
              rw [show F_X11_out 3 0 4 = 0 by decide, thr0]
              refine ⟨fun _ => ⟨fun _ => trivial, fun _ => ⟨fun _ => trivial, fun _ => ⟨fun _ => trivial, fun _ => ⟨fun _ => trivial, fun z => absurd rfl z⟩⟩⟩⟩, Or.inl ⟨rfl, ⟨hN, fun _ => trivial, fun _ => ⟨fun _ => trivial, fun _ => ⟨fun _ => trivial, fun _ => ⟨fun _ => trivial, fun z => absurd rfl z⟩⟩⟩⟩, ?_⟩⟩
              simp only [if_true, c0, c1, c2, if_false, en1, en2]
              cases endB e.sty T k <;> rfl
            · by_cases c4 : p2 = 4
              · subst c4
                rw [show F_X11_out 4 0 4 = 0 by decide, thr0]
                refine ⟨fun _ => ⟨fun _ => trivial, fun _ => ⟨fun _ => trivial, fun _ => ⟨fun _ => trivial, fun _ => ⟨fun _ => trivial, fun _ => hi⟩⟩⟩⟩, Or.inl ⟨rfl, ⟨hN, fun _ => trivial, fun _ => ⟨fun _ => trivial, fun _ => ⟨fun _ => trivial, fun _ => ⟨fun _ => trivial, fun _ => ⟨fun _ => hi9, fun z => absurd rfl z⟩⟩⟩⟩⟩, ?_⟩⟩
                simp only [if_true, c0, c1, c2, c3, if_false, nI_clamp (show k < 2 ^ 31 by omega), a5.1 k hk, a5.2.1 k hk]
              · rw [sw5 c0 c1 c2 c3 c4, thr3, if_neg c0, if_neg c1, if_neg c2, if_neg c3, if_neg c4]
                exact ⟨fun z => absurd z (by decide), Or.inr (Or.inr (Or.inr ⟨rfl, 0, rfl⟩))⟩
