/-! ===== PURE: the questions of values ===== -/
theorem val_ok {e : EnvB} (ok : e.Ok) {p : Nat} {G : GF} {mags marks known below latest early again : Nat → Int32} (hf : Fld e.W e.H (czOf e.sty) p G mags marks known below latest early again) {x y i : Nat} (hx : x < e.W) (hy : y < e.H) (hi : y * e.W + x = i) :
    P_X5_valueOf (nI i) e.gn e.kn marks ∧ P_X11_worthAt (nI i) 4096 known 4096 below 4096 ∧ F_X11_worthAt (nI i) known below latest = F_X5_valueOf (nI i) mags marks := by
  have h1 := plc hx hy
  have h2 := ok.gnl
  have h3 := ok.gnu
  have h4 := ok.knl
  have h5 := ok.knu
  have hwh := wh_le ok.W64 ok.H64
  have hw := m_worth hf hx hy hi (by omega)
  have hv := c_val hf hx hy hi (by omega)
  have hin : vp_in (nI i) 4096 := vp_in_nI (by omega) (by omega)
  refine ⟨⟨vp_in_nI (by omega) (by omega), fun _ => vp_in_nI (by omega) (by omega)⟩, ⟨hin, fun _ => ⟨hin, fun _ => hin⟩, fun _ => ⟨hin, fun _ => hin⟩⟩, ?_⟩
  unfold F_X11_worthAt
  simp only [hw]
  rw [hv, nI_clamp (by omega), ← hi, hf.bl x y hx hy]
  cases G.ng x y with
  | false => rw [if_pos (show bI false = 0 from rfl), if_neg (by decide)]
  | true => rw [if_neg (show ¬ bI true = 0 by decide), if_pos rfl]
theorem sum_loop {e : EnvB} (ok : e.Ok) {p : Nat} {G : GF} {mags marks known below latest early again : Nat → Int32} (hf : Fld e.W e.H (czOf e.sty) p G mags marks known below latest early again) : ∀ (d i fuel : Nat) (a : Int32), i + d = e.W * e.H → d < fuel → PL_X10_sum_j_2 (nI e.W) (nI e.H) e.gn mags e.kn marks fuel a (nI i) ∧ PL_X11_sum__j_5 (nI e.W) (nI e.H) 4096 known 4096 below 4096 latest fuel a (nI i) ∧ L_X11_sum__j_5 (nI e.W) (nI e.H) known below latest fuel a (nI i) = L_X10_sum_j_2 (nI e.W) (nI e.H) mags marks fuel a (nI i) := by
  have hwh := wh_le ok.W64 ok.H64
  intro d
  induction d with
  | zero =>
    intro i fuel a h1 h2
    obtain ⟨n, rfl⟩ : ∃ n, fuel = n + 1 := ⟨fuel - 1, by omega⟩
    have q : nI (e.W * e.H) ≤ nI i := nI_le (by omega) (by omega)
    rw [PL_X10_sum_j_2, PL_X11_sum__j_5, L_X11_sum__j_5, L_X10_sum_j_2, pk_mul, if_pos q, if_pos q]
    exact ⟨fun z => absurd q z, fun z => absurd q z, rfl⟩
  | succ d ih =>
    intro i fuel a h1 h2
    obtain ⟨n, rfl⟩ : ∃ n, fuel = n + 1 := ⟨fuel - 1, by omega⟩
    have q : ¬ nI (e.W * e.H) ≤ nI i := nI_ge (by omega) (by omega)
    obtain ⟨a1, a2, a3⟩ := al_xy ok (show i < e.W * e.H by omega)
    obtain ⟨v1, v2, v3⟩ := val_ok ok hf a1 a2 a3
    obtain ⟨t1, t2, t3⟩ := ih (i + 1) n (31 * a + F_X5_valueOf (nI i) mags marks) (by omega) (by omega)
    rw [nI_succ] at t1 t2 t3
    rw [PL_X10_sum_j_2, PL_X11_sum__j_5, L_X11_sum__j_5, L_X10_sum_j_2, pk_mul, if_neg q, if_neg q]
    simp only [v3, forall_eq']
    exact ⟨fun _ => ⟨v1, t1⟩, fun _ => ⟨v2, t2⟩, t3⟩
theorem k_value {x : XS} {y : YS} (p1 : Int32) (p2 : Int32) (h : OR x y) : (P_X11_value p1 p2 y.wide y.high y.rd 4096 y.known 4096 y.below 4096) ∧ ((T_needReadAt p1 p2 x.wide x.high x.rd = 0 ∧ (P_X10_value p1 p2 x.wide x.high x.gn x.kn x.marks x.rd) ∧ (F_X11_value p1 p2 y.wide y.high y.rd y.known y.below y.latest) = ((F_X10_value p1 p2 x.wide x.mags x.marks), 0)) ∨ (T_needReadAt p1 p2 x.wide x.high x.rd = 3 ∧ ∃ a : Int32, (F_X11_value p1 p2 y.wide y.high y.rd y.known y.below y.latest) = (a, 1)) ∨ (T_needReadAt p1 p2 x.wide x.high x.rd = 1 ∧ ∃ a : Int32, (F_X11_value p1 p2 y.wide y.high y.rd y.known y.below y.latest) = (a, 2))) := by
  obtain ⟨e, w, r, ok, L, ⟨hb1, hb2, hbk, hrw, hmr⟩, ⟨w1, w2, w3, w4⟩, hw, hr⟩ := h
  obtain ⟨l1, l2, l3, l4, l5, l6, l7, l8, l9, l10, l11, l12, l13, l14, l15, l16, l17, l18, l19⟩ := L
  unfold T_needReadAt F_X11_value P_X11_value J_X11_value_j_3 J_X11_value_j_5 P_X10_value P_X10_needReadAt P_X10_needRead F_X10_value F_X5_place
  rw [w4, w3, l1, l2, l10, l11]
  rcases holds_there (p1 := p1) (p2 := p2) ok.W1 ok.W64 ok.H1 ok.H64 with ⟨q1, q2⟩ | ⟨q1, q2, a, b, ha, hb, rfl, rfl⟩
  · rw [if_pos q1]
    simp only [q2, if_true, thr1, forall_eq']
    exact ⟨fun z => absurd z (by decide), Or.inr (Or.inl ⟨trivial, 0, rfl⟩)⟩
  · have n10 : ¬ (1 : Int32) = 0 := by decide
    have epl : nI b * nI e.W + nI a = nI (b * e.W + a) := by rw [pk_mul, nI_add]
    have hp := plc ha hb
    have hwh := wh_le ok.W64 ok.H64
    have hgl := ok.gnl
    have hgu := ok.gnu
    by_cases c : bI r = 0
    · simp only [q1, q2, n10, if_false, if_pos c, thr2, forall_eq']
      exact ⟨fun z => absurd z (by decide), Or.inr (Or.inr ⟨trivial, 0, rfl⟩)⟩
    · obtain ⟨p, G, hf⟩ := hr (bI_ne c)
      simp only [q1, q2, n10, if_false, if_neg c, thr0, forall_eq', epl, l7, l8]
      obtain ⟨v1, v2, v3⟩ := val_ok ok hf ha hb rfl
      exact ⟨fun _ => v2, Or.inl ⟨trivial, ⟨⟨fun z => z.elim, fun _ z => absurd z c⟩, v1⟩, by rw [v3]; rfl⟩⟩
theorem k_known {x : XS} {y : YS} (p1 : Int32) (p2 : Int32) (h : OR x y) : (P_X11_known p1 p2 y.wide y.high y.rd 4096) ∧ ((T_needReadAt p1 p2 x.wide x.high x.rd = 0 ∧ (P_X10_known p1 p2 x.wide x.high x.gn x.rd) ∧ (F_X11_known p1 p2 y.wide y.high y.rd y.known) = ((F_X10_known p1 p2 x.wide x.mags), 0)) ∨ (T_needReadAt p1 p2 x.wide x.high x.rd = 3 ∧ ∃ a : Int32, (F_X11_known p1 p2 y.wide y.high y.rd y.known) = (a, 1)) ∨ (T_needReadAt p1 p2 x.wide x.high x.rd = 1 ∧ ∃ a : Int32, (F_X11_known p1 p2 y.wide y.high y.rd y.known) = (a, 2))) := by
  obtain ⟨e, w, r, ok, L, ⟨hb1, hb2, hbk, hrw, hmr⟩, ⟨w1, w2, w3, w4⟩, hw, hr⟩ := h
  obtain ⟨l1, l2, l3, l4, l5, l6, l7, l8, l9, l10, l11, l12, l13, l14, l15, l16, l17, l18, l19⟩ := L
  unfold T_needReadAt F_X11_known P_X11_known J_X11_known_j_3 J_X11_known_j_5 P_X10_known P_X10_needReadAt P_X10_needRead F_X10_known F_X5_place
  rw [w4, w3, l1, l2, l10, l11]
  rcases holds_there (p1 := p1) (p2 := p2) ok.W1 ok.W64 ok.H1 ok.H64 with ⟨q1, q2⟩ | ⟨q1, q2, a, b, ha, hb, rfl, rfl⟩
  · rw [if_pos q1]
    simp only [q2, if_true, thr1, forall_eq']
    exact ⟨fun z => absurd z (by decide), Or.inr (Or.inl ⟨trivial, 0, rfl⟩)⟩
  · have n10 : ¬ (1 : Int32) = 0 := by decide
    have epl : nI b * nI e.W + nI a = nI (b * e.W + a) := by rw [pk_mul, nI_add]
    have hp := plc ha hb
    have hwh := wh_le ok.W64 ok.H64
    have hgl := ok.gnl
    have hgu := ok.gnu
    by_cases c : bI r = 0
    · simp only [q1, q2, n10, if_false, if_pos c, thr2, forall_eq']
      exact ⟨fun z => absurd z (by decide), Or.inr (Or.inr ⟨trivial, 0, rfl⟩)⟩
    · obtain ⟨p, G, hf⟩ := hr (bI_ne c)
      simp only [q1, q2, n10, if_false, if_neg c, thr0, forall_eq', epl, l7]
      refine ⟨fun _ => vp_in_nI (by omega) (by omega), Or.inl ⟨trivial, ⟨⟨fun z => z.elim, fun _ z => absurd z c⟩, vp_in_nI (by omega) (by omega)⟩, ?_⟩⟩
      rw [nI_clamp (by omega), hf.kn a b ha hb, hf.mg a b ha hb]; rfl
theorem k_sum {x : XS} {y : YS} (h : OR x y) : (P_X11_sum_ y.wide y.high y.rd 4096 y.known 4096 y.below 4096 y.latest) ∧ ((T_needRead x.rd = 0 ∧ (P_X10_sum x.wide x.high x.gn x.mags x.kn x.marks x.rd) ∧ (F_X11_sum_ y.wide y.high y.rd y.known y.below y.latest) = ((F_X10_sum x.wide x.high x.mags x.marks), 0)) ∨ (T_needRead x.rd = 1 ∧ ∃ a : Int32, (F_X11_sum_ y.wide y.high y.rd y.known y.below y.latest) = (a, 1))) := by
  obtain ⟨e, w, r, ok, L, ⟨hb1, hb2, hbk, hrw, hmr⟩, ⟨w1, w2, w3, w4⟩, hw, hr⟩ := h
  obtain ⟨l1, l2, l3, l4, l5, l6, l7, l8, l9, l10, l11, l12, l13, l14, l15, l16, l17, l18, l19⟩ := L
  have hfu := fu_ge
  have hwh := wh_le ok.W64 ok.H64
  unfold T_needRead F_X11_sum_ P_X11_sum_ J_X11_sum__j_2 P_X10_sum P_X10_needRead F_X10_sum
  rw [w4, w3, l1, l2, l10, l11]
  by_cases c : bI r = 0
  · simp only [if_pos c, thr1, forall_eq']
    exact ⟨fun z => absurd z (by decide), Or.inr ⟨trivial, 0, rfl⟩⟩
  · obtain ⟨p, G, hf⟩ := hr (bI_ne c)
    obtain ⟨t1, t2, t3⟩ := sum_loop ok hf (e.W * e.H) 0 fu 0 (by omega) (by omega)
    rw [nI_0] at t1 t2 t3
    simp only [if_neg c, thr0, forall_eq', l7, l8]
    exact ⟨fun _ => t2, Or.inl ⟨trivial, ⟨fun z => c z, t1⟩, by rw [t3]; rfl⟩⟩
