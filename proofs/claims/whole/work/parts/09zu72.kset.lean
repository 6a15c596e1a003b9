/-! ===== PURE: change and set ===== -/
theorem and255 (b : Int32) : ∃ j, j < 256 ∧ b &&& (255 : Int32) = nI j := pk_andE b 8 (by decide)
theorem k_change {x : XS} {y : YS} (p1 p2 : Int32) (h : OR x y) : (P_X11_change p1 y.wr y.m.size 65536) ∧ ((T_needPass p1 x.c.count x.wr = 0 ∧ (P_X10_change p1 x.c.count x.c.bn x.wr) ∧ (F_X11_change p1 p2 y.wr y.rd y.m.size y.m.bf).2.1 = 0 ∧ (F_X10_change p1 p2 x.c.bf).1 = (F_X11_change p1 p2 y.wr y.rd y.m.size y.m.bf).1 ∧ OR (x.of_change (F_X10_change p1 p2 x.c.bf)) (y.of_change (F_X11_change p1 p2 y.wr y.rd y.m.size y.m.bf))) ∨ (T_needPass p1 x.c.count x.wr = 1 ∧ (F_X11_change p1 p2 y.wr y.rd y.m.size y.m.bf).2.1 = 1 ∧ OR x (y.of_change (F_X11_change p1 p2 y.wr y.rd y.m.size y.m.bf))) ∨ (T_needPass p1 x.c.count x.wr = 2 ∧ (F_X11_change p1 p2 y.wr y.rd y.m.size y.m.bf).2.1 = 2 ∧ OR x (y.of_change (F_X11_change p1 p2 y.wr y.rd y.m.size y.m.bf)))) := by
  have hOR := h
  obtain ⟨e, w, r, ok, L, ⟨hb1, hb2, hbk, hrw, hmr⟩, ⟨w1, w2, w3, w4⟩, hw, hr⟩ := h
  unfold T_needPass F_X11_change J_X11_change_j_2 P_X11_change J_X11_change_j_2 P_X10_change P_X10_needByte P_X10_needWritten F_X10_change
  rw [w2, w1]
  by_cases c : bI w = 0
  · rw [if_pos c, if_pos c]
    simp only [thr1, forall_eq']
    exact ⟨fun z => absurd z (by decide), Or.inr (Or.inl ⟨trivial, rfl, hOR⟩)⟩
  · obtain ⟨P, T, N, rc, sb, bb, a1, a2, ⟨b1, b2, b3, b4, b5⟩, ⟨d1, d2, d3, d4, d5, d6⟩, a5, a6, a7, a8⟩ := hw (bI_ne c)
    rw [if_neg c, if_neg c, d1, d3]
    rcases need_byte (p := p1) (T := N) d6 with ⟨q1, q2⟩ | ⟨q1, q2, q3⟩ | ⟨q1, q2, q3, k, hk, rfl⟩
    · rw [if_pos q1]
      simp only [q2, thr2, forall_eq']
      exact ⟨fun z => absurd z (by decide), Or.inr (Or.inr ⟨trivial, rfl, hOR⟩)⟩
    · rw [if_neg q1, if_neg q2]
      simp only [q3, thr2, forall_eq']
      exact ⟨fun z => absurd z (by decide), Or.inr (Or.inr ⟨trivial, rfl, hOR⟩)⟩
    · rw [if_neg q1, if_pos q2]
      simp only [q3, thr0, forall_eq']
      have hbn := d2.1
      have hcl : (nI k).toNatClampNeg = k := nI_clamp (by omega)
      obtain ⟨j, hj, ej⟩ := and255 p2
      refine ⟨fun _ => vp_in_nI (by omega) (by omega), Or.inl ⟨trivial, ⟨⟨fun z => c z, fun z => q1 z, fun _ z => z q2⟩, vp_in_nI (by omega) (by omega)⟩, rfl, ?_, ?_⟩⟩
      · simp only [if_true]
        rw [hcl, d2.2.2.2 k hk, d4 k hk]
      · simp only [if_true, hcl, ej]
        refine ⟨e, w, false, ok, L, ⟨hb1, hb2, hbk, hrw, hmr⟩, ⟨w1, w2, rfl, rfl⟩, fun _ => ⟨P, T, N, rc, sb, nup bb k j, a1, a2, ⟨b1, b2, b3, b4, b5⟩, ⟨d1, ⟨d2.1, d2.2.1, d2.2.2.1, fun i hi => ?_⟩, d3, fun i hi => ?_, fun i hi => ?_, d6⟩, a5, a6, a7, a8⟩, fun z => by cases z⟩
        · show upd x.c.bf k (nI j) i = nI (nup bb k j i)
          by_cases ci : i = k
          · subst ci; rw [pk_us, nup_s]
          · rw [pk_un ci, nup_n ci]; exact d2.2.2.2 i hi
        · show upd y.m.bf k (nI j) i = nI (nup bb k j i)
          by_cases ci : i = k
          · subst ci; rw [pk_us, nup_s]
          · rw [pk_un ci, nup_n ci]; exact d4 i hi
        · by_cases ci : i = k
          · subst ci; rw [nup_s]; exact hj
          · rw [nup_n ci]; exact d5 i hi
/-! a coefficient, its magnitude and its sign -/
def agV (v : Int32) : Nat := v.toInt.natAbs
def okV (v : Int32) : Prop := (-2147483647 : Int32) ≤ v
theorem agV_lt {v : Int32} (h : okV v) : agV v < 2 ^ 31 := by
  have h1 : (-2147483647 : Int32).toInt ≤ v.toInt := Int32.le_iff_toInt_le.mp h
  have h2 : (-2147483647 : Int32).toInt = -2147483647 := by decide
  have h3 := v.toInt_lt
  unfold agV
  omega
theorem neg_toInt {v : Int32} (h : -2147483648 < v.toInt) : (-v).toInt = -v.toInt := by
  have h1 := v.toInt_lt
  rw [Int32.toInt_neg]
  apply Int.bmod_eq_of_le <;> omega
theorem ag_c {v : Int32} (h : okV v) : (if (0 : Int32) ≤ v then v else (0 : Int32) - v) = nI (agV v) := by
  have h0 := agV_lt h
  have h1 : (-2147483647 : Int32).toInt ≤ v.toInt := Int32.le_iff_toInt_le.mp h
  have h2 : (-2147483647 : Int32).toInt = -2147483647 := by decide
  apply Int32.toInt_inj.mp
  rw [nI_toInt h0]
  by_cases c : (0 : Int32) ≤ v
  · have h4 : (0 : Int).toNat = 0 := rfl
    have h3 : (0 : Int32).toInt ≤ v.toInt := Int32.le_iff_toInt_le.mp c
    have h5 : (0 : Int32).toInt = 0 := by decide
    rw [if_pos c]
    unfold agV
    omega
  · have h3 : ¬ (0 : Int32).toInt ≤ v.toInt := fun z => c (Int32.le_iff_toInt_le.mpr z)
    have h5 : (0 : Int32).toInt = 0 := by decide
    rw [if_neg c, Int32.zero_sub, neg_toInt (by omega)]
    unfold agV
    omega
theorem ag_m {v : Int32} (h : okV v) : J_X11_put_j_2 v = nI (agV v) := by
  rw [← ag_c h]
  unfold J_X11_put_j_2
  by_cases c : (0 : Int32) ≤ v
  · rw [if_pos c, if_pos c]
  · rw [if_neg c, if_neg c, Int32.zero_sub]
def ngB (v : Int32) : Bool := !decide ((0 : Int32) ≤ v)
theorem put_ok {v : Int32} {i : Nat} (h : okV v) (hi : i < 4096) (f g : Nat → Int32) : P_X11_put (nI i) v 4096 4096 ∧ F_X11_put (nI i) v f g = (upd f i (nI (agV v)), upd g i (bI (ngB v))) := by
  have hin : vp_in (nI i) 4096 := vp_in_nI hi (by omega)
  refine ⟨fun _ _ => ⟨hin, fun _ => hin, fun _ => hin⟩, ?_⟩
  unfold F_X11_put ngB
  simp only [ag_m h]
  rw [nI_clamp (by omega)]
  by_cases c : (0 : Int32) ≤ v
  · rw [if_pos c, decide_eq_true c]; rfl
  · rw [if_neg c, decide_eq_false c]; rfl
/-- the block with other coefficients -/
def EnvB.new (e : EnvB) (coef mag min : Nat → Int32) (a : Nat → Nat → Nat) (mi : Nat → Nat → Bool) : EnvB := (e.W, e.H, e.band, e.p, e.bk, e.q, e.M, e.K, e.cn, e.gn, e.kn, e.sty, coef, mag, min, e.mp, e.mo, a, mi, e.E0)
theorem new_ok {e : EnvB} (ok : e.Ok) {coef mag min : Nat → Int32} {v : Nat → Nat → Int32} (h0 : ∀ x y, okV (v x y)) (h1 : ∀ x y, x < e.W → y < e.H → coef (y * e.W + x) = v x y) (h2 : ∀ x y, x < e.W → y < e.H → mag (y * e.W + x) = nI (agV (v x y))) (h3 : ∀ x y, x < e.W → y < e.H → min (y * e.W + x) = bI (ngB (v x y))) : (e.new coef mag min (fun x y => agV (v x y)) (fun x y => ngB (v x y))).Ok := by
  refine ⟨ok.W1, ok.W64, ok.H1, ok.H64, ok.b4, ok.p30, ok.bk4, ok.q30, ok.hM, ok.hK, ok.cnl, ok.cnu, ok.gnl, ok.gnu, ok.knl, ok.knu, fun x y hx hy => ?_, h2, fun x y => agV_lt (h0 x y), fun x y hx hy => ?_, h3, ok.hmp, ok.hmo⟩
  · show (if (0 : Int32) ≤ coef (y * e.W + x) then coef (y * e.W + x) else (0 : Int32) - coef (y * e.W + x)) = _
    rw [h1 x y hx hy]; exact ag_c (h0 x y)
  · show (0 : Int32) ≤ coef (y * e.W + x) ↔ ngB (v x y) = false
    rw [h1 x y hx hy]
    unfold ngB
    by_cases c : (0 : Int32) ≤ v x y
    · rw [decide_eq_true c]; exact ⟨fun _ => rfl, fun _ => c⟩
    · rw [decide_eq_false c]; exact ⟨fun z => absurd z c, fun z => by cases z⟩
/-- the coefficients as they stand -/
def vOf (e : EnvB) (x y : Nat) : Int32 := if x < e.W ∧ y < e.H then e.coef (y * e.W + x) else 0
theorem vOf_ok {e : EnvB} (ok : e.Ok) : (∀ x y, okV (vOf e x y)) ∧ (∀ x y, x < e.W → y < e.H → e.coef (y * e.W + x) = vOf e x y) ∧ (∀ x y, x < e.W → y < e.H → e.mag (y * e.W + x) = nI (agV (vOf e x y))) ∧ (∀ x y, x < e.W → y < e.H → e.min (y * e.W + x) = bI (ngB (vOf e x y))) := by
  have hv : ∀ x y, x < e.W → y < e.H → vOf e x y = e.coef (y * e.W + x) := fun x y hx hy => if_pos ⟨hx, hy⟩
  have hk : ∀ x y, okV (vOf e x y) := by
    intro x y
    unfold vOf
    split
    · rename_i q
      have h1 := ok.ab x y q.1 q.2
      have h2 := ok.a31 x y
      by_cases c : (0 : Int32) ≤ e.coef (y * e.W + x)
      · exact Int32.le_trans (by decide) c
      · rw [if_neg c] at h1
        have h3 : ¬ (0 : Int32).toInt ≤ (e.coef (y * e.W + x)).toInt := fun z => c (Int32.le_iff_toInt_le.mpr z)
        have h5 : (0 : Int32).toInt = 0 := by decide
        apply Int32.le_iff_toInt_le.mpr
        have h6 : (-2147483647 : Int32).toInt = -2147483647 := by decide
        rw [h6]
        by_cases cm : e.coef (y * e.W + x) = -2147483648
        · exfalso
          rw [cm] at h1
          have h7 : ((0 : Int32) - (-2147483648)).toInt = (nI (e.a x y)).toInt := by rw [h1]
          rw [nI_toInt h2] at h7
          have h8 : ((0 : Int32) - (-2147483648)).toInt = -2147483648 := by decide
          omega
        · have h9 : (e.coef (y * e.W + x)).toInt ≠ -2147483648 := fun z => cm (Int32.toInt_inj.mp (z.trans (by decide)))
          have h10 := (e.coef (y * e.W + x)).le_toInt
          omega
    · show (-2147483647 : Int32) ≤ 0; decide
  refine ⟨hk, fun x y hx hy => (hv x y hx hy).symm, fun x y hx hy => ?_, fun x y hx hy => ?_⟩
  · rw [ok.mg x y hx hy, ← ok.ab x y hx hy, hv x y hx hy, ← ag_c (by rw [← hv x y hx hy]; exact hk x y)]
  · rw [ok.mn x y hx hy, hv x y hx hy]
    have h1 := ok.sgn x y hx hy
    unfold ngB
    cases hm : e.mi x y with
    | false => rw [decide_eq_true (h1.mpr hm)]; rfl
    | true => rw [decide_eq_false (fun z => by rw [h1.mp z] at hm; cases hm)]; rfl
theorem k_set {x : XS} {y : YS} (p1 p2 p3 : Int32) (h : OR x y) : (P_X11_set p1 p2 p3 y.wide y.high 4096 4096) ∧ ((T_set p1 p2 p3 x.wide x.high = 0 ∧ (P_X10_set p1 p2 p3 x.wide x.high x.cn) ∧ (F_X11_set p1 p2 p3 y.wide y.high y.wr y.rd y.mag y.min).1 = 0 ∧ OR (x.of_set (F_X10_set p1 p2 p3 x.wide x.high x.coef)) (y.of_set (F_X11_set p1 p2 p3 y.wide y.high y.wr y.rd y.mag y.min))) ∨ (T_set p1 p2 p3 x.wide x.high = 3 ∧ (F_X11_set p1 p2 p3 y.wide y.high y.wr y.rd y.mag y.min).1 = 1 ∧ OR x (y.of_set (F_X11_set p1 p2 p3 y.wide y.high y.wr y.rd y.mag y.min)))) := by
  have hOR := h
  obtain ⟨e, w, r, ok, L, ⟨hb1, hb2, hbk, hrw, hmr⟩, ⟨w1, w2, w3, w4⟩, hw, hr⟩ := h
  have hL := L
  obtain ⟨l1, l2, l3, l4, l5, l6, l7, l8, l9, l10, l11, l12, l13, l14, l15, l16, l17, l18, l19⟩ := L
  unfold T_set F_X11_set P_X11_set J_X11_set_j_4 P_X10_set F_X10_set F_X5_place
  rw [l1, l2, l10, l11]
  have n10 : ¬ (1 : Int32) = 0 := by decide
  rcases holds_there (p1 := p1) (p2 := p2) ok.W1 ok.W64 ok.H1 ok.H64 with ⟨q1, q2⟩ | ⟨q1, q2, a, b, ha, hb, rfl, rfl⟩
  · simp only [q1, q2, if_true, thr1, forall_eq']
    exact ⟨fun z => absurd z (by decide), Or.inr ⟨trivial, rfl, hOR⟩⟩
  · have epl : nI b * nI e.W + nI a = nI (b * e.W + a) := by rw [pk_mul, nI_add]
    have hp := plc ha hb
    have hwh := wh_le ok.W64 ok.H64
    have hcl := ok.cnl
    have hcu := ok.cnu
    by_cases c : (-2147483647 : Int32) ≤ p3
    · have cm : ¬ p3 = -2147483648 := fun z => by rw [z] at c; exact absurd c (by decide)
      obtain ⟨u1, u2⟩ := put_ok (v := p3) (i := b * e.W + a) c (by omega) y.mag y.min
      simp only [q1, q2, n10, cm, c, if_false, if_true, thr0, forall_eq', epl, u2, l5]
      refine ⟨fun _ => u1, Or.inl ⟨trivial, ⟨fun z => z.elim, fun _ => ⟨fun _ => vp_in_nI (by omega) (by omega), fun z => z trivial⟩⟩, trivial, ?_⟩⟩
      rw [nI_clamp (by omega)]
      obtain ⟨v0, v1, v2, v3⟩ := vOf_ok ok
      have hne : ∀ x y, x < e.W → y < e.H → (y * e.W + x = b * e.W + a ↔ x = a ∧ y = b) := fun x y hx hy => ⟨fun z => plc_inj hx ha z, fun z => by rw [z.1, z.2]⟩
      refine ⟨e.new (upd x.coef (b * e.W + a) p3) (upd y.mag (b * e.W + a) (nI (agV p3))) (upd y.min (b * e.W + a) (bI (ngB p3))) _ _, false, false, new_ok (v := fun x y => if x = a ∧ y = b then p3 else vOf e x y) ok (fun x y => ?_) (fun x' y' hx hy => ?_) (fun x' y' hx hy => ?_) (fun x' y' hx hy => ?_), ⟨l1, l2, l3, l4, l5, rfl, l7, l8, l9, l10, l11, l12, l13, rfl, rfl, l16, l17, l18, l19⟩, ⟨hb1, hb2, hbk, hrw, hmr⟩, ⟨rfl, rfl, rfl, rfl⟩, fun z => (by cases z), fun z => (by cases z)⟩
      · show okV (if x = a ∧ y = b then p3 else vOf e x y)
        split
        · exact c
        · exact v0 x y
      · show upd x.coef (b * e.W + a) p3 (y' * e.W + x') = if x' = a ∧ y' = b then p3 else vOf e x' y'
        by_cases q : x' = a ∧ y' = b
        · rw [if_pos q, (hne x' y' hx hy).mpr q, pk_us]
        · rw [if_neg q, pk_un (fun z => q ((hne x' y' hx hy).mp z)), l6]; exact v1 x' y' hx hy
      · show upd y.mag (b * e.W + a) (nI (agV p3)) (y' * e.W + x') = nI (agV (if x' = a ∧ y' = b then p3 else vOf e x' y'))
        by_cases q : x' = a ∧ y' = b
        · rw [if_pos q, (hne x' y' hx hy).mpr q, pk_us]
        · rw [if_neg q, pk_un (fun z => q ((hne x' y' hx hy).mp z)), l14]; exact v2 x' y' hx hy
      · show upd y.min (b * e.W + a) (bI (ngB p3)) (y' * e.W + x') = bI (ngB (if x' = a ∧ y' = b then p3 else vOf e x' y'))
        by_cases q : x' = a ∧ y' = b
        · rw [if_pos q, (hne x' y' hx hy).mpr q, pk_us]
        · rw [if_neg q, pk_un (fun z => q ((hne x' y' hx hy).mp z)), l15]; exact v3 x' y' hx hy
    · have cm : p3 = -2147483648 := by
        apply Int32.toInt_inj.mp
        have h1 : ¬ (-2147483647 : Int32).toInt ≤ p3.toInt := fun z => c (Int32.le_iff_toInt_le.mpr z)
        have h2 : (-2147483647 : Int32).toInt = -2147483647 := by decide
        have h3 : (-2147483648 : Int32).toInt = -2147483648 := by decide
        have h4 := p3.le_toInt
        omega
      subst cm
      simp only [q1, q2, n10, c, if_false, if_true, thr1, forall_eq']
      exact ⟨fun z => absurd z (by decide), Or.inr ⟨trivial, trivial, hOR⟩⟩
