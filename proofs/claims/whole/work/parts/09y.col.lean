/-! ===== PURE: a column of a stripe, in each pass ===== -/
theorem Chg.cols {e : EnvB} {kind pos : Nat} {G : GF} {g gc gc' : Nat → Nat} (h : Chg e kind pos G g gc) (h2 : ∀ j, j < 1024 → gc' j ≤ 2 * bN (colS G j)) : Chg e kind pos G g gc' := ⟨h.sm, h.un, h2⟩
theorem key_row {W x t r : Nat} (hr : r < 4) : key W x (4 * t + r) = t * (4 * W) + x * 4 + r := by
  unfold key
  rw [show (4 * t + r) / 4 = t by omega, show (4 * t + r) % 4 = r by omega]
/-- the quiet case of the third pass, up to where its loop begins -/
theorem quiet_sim {e : EnvB} (ok : e.Ok) {G : GF} {g gc : Nat → Nat} {c : CS} {m : MS} {mags marks known below latest early again : Nat → Int32} {less : Int64} {x t : Nat} (h : Rel e 2 (t * (4 * e.W) + x * 4) G g gc c m mags marks known below latest early again less) (hx : x < e.W) (ht : 4 * t < e.H) (hq : quiet (czOf e.sty) G e.H x (4 * t) = true) :
    ∃ (r : Nat) (G' : GF) (g' gc' : Nat → Nat) (c' : CS) (m' : MS) (mags' marks' known' below' latest' : Nat → Int32) (less' : Int64), r ≤ 4 ∧ 4 * t + 4 ≤ e.H ∧ (J_X9_clean_j_8 (nI x) (nI (4 * t)) (nI (4 * t + 4)) c.count c.start c.bn c.bf 19 c.sf 19 c.lf c.low c.size c.room c.free c.place c.cend c.window c.csize c.croom c.rplace c.rend c.cur c.left (nI e.W) (nI e.H) (bI (czOf e.sty)) e.coef mags marks less e.bk (rawI e.bk) (nI e.p) 1) = (nI (4 * t + r), c'.U mags' marks' less') ∧ (PJ_X9_clean_j_8 (nI x) (nI (4 * t)) (nI (4 * t + 4)) c.count c.start c.bn c.bf 19 c.sf 19 c.lf c.low c.size c.room c.free c.place c.cend c.window c.csize c.croom c.rplace c.rend c.cur c.left (nI e.W) (nI e.H) (bI (czOf e.sty)) e.cn e.coef e.gn mags e.kn marks e.bk (rawI e.bk) (nI e.p) 1) ∧ (DJ_X9_clean_j_8 (nI x) (nI (4 * t)) (nI (4 * t + 4)) c.count c.start c.bn c.bf 19 c.sf 19 c.lf c.low c.size c.room c.free c.place c.cend c.window c.csize c.croom c.rplace c.rend c.cur c.left (nI e.W) (nI e.H) (bI (czOf e.sty)) e.coef mags marks less e.bk (rawI e.bk) (nI e.p) 1) + 3 * c.bn ≤ 3 * c'.bn ∧
    (F_X11_codeRun (nI x) (nI (4 * t)) (nI e.W) (nI e.H) e.sty (wrI e.bk) (nI e.p) (rawI e.bk) m.size m.begin m.low m.carried m.span m.room m.place m.limit m.next m.last m.upper e.mp e.mo e.mag e.min known below latest m.sf m.lf m.bf) = (nI (min (r + 1) 4), m'.U known' below' latest') ∧ (P_X11_codeRun (nI x) (nI (4 * t)) (nI e.W) (nI e.H) e.sty (wrI e.bk) (nI e.p) (rawI e.bk) m.size m.begin m.low m.carried m.span m.room m.place m.limit m.next m.last m.upper 47 e.mp 47 e.mo 4096 e.mag 4096 e.min 4096 known 4096 below 4096 19 m.sf 19 m.lf 65536 m.bf) ∧ Kept e.bk c c' m m' ∧ (r < 4 → G'.sg x (4 * t + r) = true) ∧ Rel e 2 (t * (4 * e.W) + x * 4 + min (r + 1) 4) G' g' gc' c' m' mags' marks' known' below' latest' early again less' := by
  unfold quiet at hq
  simp only [Bool.and_eq_true, decide_eq_true_eq] at hq
  obtain ⟨h4, ⟨⟨⟨q0, q1⟩, q2⟩, q3⟩⟩ := hq
  have hqt : ∀ r, r < 4 → G.sg x (4 * t + r) = false ∧ G.sn x (4 * t + r) = false := by
    intro r hr
    have : qt (czOf e.sty) G x (4 * t + r) = true := by
      rcases (show r = 0 ∨ r = 1 ∨ r = 2 ∨ r = 3 by omega) with h | h | h | h <;> subst h
      · exact q0
      · exact q1
      · exact q2
      · exact q3
    unfold qt at this
    simp only [Bool.and_eq_true, Bool.not_eq_true'] at this
    exact ⟨this.1.1, this.1.2⟩
  obtain ⟨hcod, hf, hE, hch⟩ := h
  have hlim := hch.lim ok
  have n10 : ¬ (1 : Int32) = 0 := by decide
  have hW := ok.W64
  have hH := ok.H64
  have hj : t * 64 + x < 1024 := by omega
  have hj1 : (t * 64 + x) % 64 = x := by omega
  have hj2 : (t * 64 + x) / 64 = t := by omega
  have hg0 : ∀ r, r < 4 → g ((4 * t + r) * e.W + x) ≤ e.q := by
    intro r hr
    have h3 := hch.sm x (4 * t + r) hx (by omega)
    have e8 : exC 2 (t * (4 * e.W) + x * 4) e.W G x (4 * t + r) = false := by
      show (G.sn x (4 * t + r) || G.sg x (4 * t + r) || decide (key e.W x (4 * t + r) < _)) = false
      rw [(hqt r hr).1, (hqt r hr).2, key_row hr, decide_eq_false (by omega)]; rfl
    rw [e8, (hqt r hr).1] at h3
    exact h3
  rcases run_sim ok (less := less) hcod hf hx h4 (fun r hr => (hqt r hr).1) hE (by omega) with ⟨c1, m1, f1, f2, f3, f4, f5, f6, f7⟩ | ⟨r, c3, c', m', mi, mags', marks', known', below', latest', less', hr, f1, f2, f3, f4, f5, f6, f7, f8, f9, f10, f11, f12⟩
  · have hp0 := plc hx (show 4 * t < e.H by omega)
    have hk0 : key e.W x (4 * t) = t * (4 * e.W) + x * 4 := by have := key_row (W := e.W) (x := x) (t := t) (r := 0) (by omega); simpa using this
    refine ⟨4, G, nup g (4 * t * e.W + x) (g (4 * t * e.W + x) + 1), gc, c1, m1, mags, marks, known, below, latest, less, Nat.le_refl _, h4, ?_, ?_, ?_, ?_, f5, f6, fun z => absurd z (by omega), ⟨?_, hf, hE, ?_⟩⟩
    · unfold J_X9_clean_j_8
      rw [if_neg n10]
      simp only [f1]
      show (if nI (4 * t + 4) ≤ nI (4 * t) + nI 4 then _ else _) = _
      rw [nI_add, if_pos (nI_le (Nat.le_refl _) (by omega))]
      show (nI (4 * t) + nI 4, _) = _
      rw [nI_add]
      rfl
    · intro _
      refine ⟨f2, fun r3 e3 z => ?_⟩
      rw [f1] at e3
      subst e3
      have z2 : ¬ nI (4 * t + 4) ≤ nI (4 * t) + nI 4 := z
      rw [nI_add] at z2
      exact absurd (nI_le (Nat.le_refl _) (by omega)) z2
    · unfold DJ_X9_clean_j_8
      rw [if_neg n10]
      simp only [f1]
      show _ + (if nI (4 * t + 4) ≤ nI (4 * t) + nI 4 then 0 else _) + _ ≤ _
      rw [nI_add, if_pos (nI_le (Nat.le_refl _) (by omega))]
      exact f3
    · exact f4
    · rw [totN_g hp0]; exact f7
    · have h5 := hch.step (G' := G) (y := 4 * t) (d := 1) hx (fun _ _ _ => rfl) (fun _ _ _ => rfl) (fun z => z) (by
        have e1 : exC 2 (key e.W x (4 * t) + 1) e.W G x (4 * t) = true := by
          show (G.sn x (4 * t) || G.sg x (4 * t) || decide (key e.W x (4 * t) < key e.W x (4 * t) + 1)) = true
          rw [decide_eq_true (by omega)]; simp
        rw [e1, show bN true = 1 by rfl]
        have := hg0 0 (by omega)
        rw [Nat.add_zero] at this
        omega) (by omega)
      exact h5.mono (by rw [hk0]; omega)
  · have hp0 := plc hx (show 4 * t + r < e.H by omega)
    have hk0 := key_row (W := e.W) (x := x) (t := t) hr
    have hcol : colS G (t * 64 + x) = false := by
      unfold colS
      rw [hj1, hj2, show t * 4 = 4 * t by omega]
      have := (hqt 0 (by omega)).1
      rw [Nat.add_zero] at this
      rw [this, (hqt 1 (by omega)).1, (hqt 2 (by omega)).1, (hqt 3 (by omega)).1]; rfl
    have hcol' : colS (gNew G x (4 * t + r) mi e.p) (t * 64 + x) = true := by
      unfold colS
      rw [hj1, hj2, show t * 4 = 4 * t by omega]
      have hs1 : (gNew G x (4 * t + r) mi e.p).sg x (4 * t + r) = true := by rw [gNew_sg, if_pos ⟨rfl, rfl⟩]
      rcases (show r = 0 ∨ r = 1 ∨ r = 2 ∨ r = 3 by omega) with h | h | h | h <;> subst h
      · rw [Nat.add_zero] at hs1 ⊢; rw [hs1]; rfl
      · rw [hs1]; simp
      · rw [hs1]; simp
      · rw [hs1]; simp
    have hh : nI (4 * t) + (c3.T (nI r)).1 = nI (4 * t + r) := nI_add _ _
    refine ⟨r, gNew G x (4 * t + r) mi e.p, nup g ((4 * t + r) * e.W + x) (g ((4 * t + r) * e.W + x) + 2), nup gc (t * 64 + x) (gc (t * 64 + x) + 2), c', m', mags', marks', known', below', latest', less', by omega, h4, ?_, ?_, ?_, ?_, f8, f9, fun _ => by rw [gNew_sg, if_pos ⟨rfl, rfl⟩], ⟨?_, f11, f12, ?_⟩⟩
    · unfold J_X9_clean_j_8
      rw [if_neg n10]
      simp only [f1, hh]
      rw [if_neg (nI_ge (by omega) (by omega))]
      exact Prod.ext rfl f4
    · intro _
      refine ⟨f2, fun r3 e3 z => ?_⟩
      rw [f1] at e3
      subst e3
      show P_X9_becomeSignificant (nI x) (nI (4 * t) + nI r) _ _ _ _ _ _ _ _ _ _ _ _ _ _ _ _ _ _ _ _ _ _ _ _ _ _ _ _ _ _ _ _ _
      rw [nI_add]
      exact f5
    · unfold DJ_X9_clean_j_8
      rw [if_neg n10]
      simp only [f1, hh]
      rw [if_neg (nI_ge (by omega) (by omega))]
      exact addC f3 f6
    · rw [show min (r + 1) 4 = r + 1 by omega]; exact f7
    · rw [totN_g hp0, totN_c hj]; exact f10
    · have h5 := hch.step (G' := gNew G x (4 * t + r) mi e.p) (y := 4 * t + r) (d := 2) hx (fun a b q => by rw [gNew_sg, if_neg q]) (fun _ _ _ => rfl) (fun z => by rw [(hqt r hr).1] at z; cases z) (by
        have e1 : exC 2 (key e.W x (4 * t + r) + 1) e.W (gNew G x (4 * t + r) mi e.p) x (4 * t + r) = true := by
          show (_ || _ || decide (key e.W x (4 * t + r) < key e.W x (4 * t + r) + 1)) = true
          rw [decide_eq_true (by omega)]; simp
        rw [e1, gNew_sg, if_pos ⟨rfl, rfl⟩, show bN true = 1 by rfl]
        have := hg0 r hr
        omega) (by omega)
      rw [hk0] at h5
      rw [show min (r + 1) 4 = r + 1 by omega, ← Nat.add_assoc]
      refine h5.cols (fun j hjj => ?_)
      unfold nup
      by_cases cj : j = t * 64 + x
      · rw [if_pos cj, cj, hcol']
        have := hch.co (t * 64 + x) hj
        rw [hcol] at this
        have b0 : bN false = 0 := rfl
        have b1 : bN true = 1 := rfl
        omega
      · rw [if_neg cj]; exact h5.co j hjj
