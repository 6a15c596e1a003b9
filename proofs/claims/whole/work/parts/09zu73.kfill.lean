/-! ===== PURE: fill ===== -/
def fV (p1 p2 p3 p4 : Int32) (x y : Nat) : Int32 := if ((((p1 * nI x) + (p2 * nI y)) + ((p3 * nI x) * nI y)) >>> (p4 &&& 31)) < (-2147483647 : Int32) then (-2147483647 : Int32) else ((((p1 * nI x) + (p2 * nI y)) + ((p3 * nI x) * nI y)) >>> (p4 &&& 31))
theorem fV_ok (p1 p2 p3 p4 : Int32) (x y : Nat) : okV (fV p1 p2 p3 p4 x y) := by
  unfold fV okV
  split
  · decide
  · rename_i c
    exact Int32.not_lt.mp c
theorem fV_m (p1 p2 p3 p4 : Int32) (x y : Nat) : J_X11_fill_j_9 p1 p2 p3 p4 (nI y) (nI x) = fV p1 p2 p3 p4 x y := by
  unfold J_X11_fill_j_9 fV
  generalize ((((p1 * nI x) + (p2 * nI y)) + ((p3 * nI x) * nI y)) >>> (p4 &&& 31)) = v
  by_cases c : v = -2147483648
  · subst c; decide
  · have c2 : ¬ v < (-2147483647 : Int32) := by
      intro z
      apply c
      apply Int32.toInt_inj.mp
      have h1 : v.toInt < (-2147483647 : Int32).toInt := Int32.lt_iff_toInt_lt.mp z
      have h2 : (-2147483647 : Int32).toInt = -2147483647 := by decide
      have h3 : (-2147483648 : Int32).toInt = -2147483648 := by decide
      have h4 := v.le_toInt
      omega
    rw [if_neg c, if_neg c2]
section
variable {W H cn : Nat} (p1 p2 p3 p4 : Int32)
theorem fc_row (hW : W ≤ 64) (hH : H ≤ 64) (hc : W * H ≤ cn) (hcu : cn ≤ 4096) {y : Nat} (hy : y < H) : ∀ (d i fuel : Nat) (f : Nat → Int32), i + d = W → d < fuel → PL_X10_fill_j_5 p1 p2 p3 p4 (nI W) cn (nI y) fuel (nI i) f ∧ ∀ j, (L_X10_fill_j_5 p1 p2 p3 p4 (nI W) (nI y) fuel (nI i) f).2 j = if y * W + i ≤ j ∧ j < y * W + W then fV p1 p2 p3 p4 (j - y * W) y else f j := by
  have hwh := wh_le hW hH
  intro d
  induction d with
  | zero =>
    intro i fuel f h1 h2
    obtain ⟨n, rfl⟩ : ∃ n, fuel = n + 1 := ⟨fuel - 1, by omega⟩
    have q : nI W ≤ nI i := nI_le (by omega) (by omega)
    rw [PL_X10_fill_j_5, L_X10_fill_j_5, if_pos q]
    exact ⟨fun z => absurd q z, fun j => by rw [if_neg (by omega)]⟩
  | succ d ih =>
    intro i fuel f h1 h2
    obtain ⟨n, rfl⟩ : ∃ n, fuel = n + 1 := ⟨fuel - 1, by omega⟩
    have q : ¬ nI W ≤ nI i := nI_ge (by omega) (by omega)
    have hp := plc (show i < W by omega) hy
    have ep : F_X5_place (nI i) (nI y) (nI W) = nI (y * W + i) := place_ok i y W
    obtain ⟨t1, t2⟩ := ih (i + 1) n (upd f (y * W + i) (fV p1 p2 p3 p4 i y)) (by omega) (by omega)
    rw [nI_succ] at t1 t2
    rw [PL_X10_fill_j_5, L_X10_fill_j_5, if_neg q]
    simp only [ep, forall_eq', nI_clamp (show y * W + i < 2 ^ 31 by omega)]
    refine ⟨fun _ => ⟨vp_in_nI (by omega) (by omega), t1⟩, fun j => ?_⟩
    have t3 := t2 j
    refine t3.trans ?_
    by_cases c : j = y * W + i
    · subst c
      rw [if_neg (by omega), if_pos (by omega), pk_us, Nat.add_sub_cancel_left]
    · rw [pk_un c]
      by_cases c2 : y * W + (i + 1) ≤ j ∧ j < y * W + W
      · rw [if_pos c2, if_pos (by omega)]
      · rw [if_neg c2, if_neg (by omega)]
theorem fm_row (hW : W ≤ 64) (hH : H ≤ 64) {y : Nat} (hy : y < H) : ∀ (d i fuel : Nat) (f g : Nat → Int32), i + d = W → d < fuel → PL_X11_fill_j_6 p1 p2 p3 p4 (nI W) 4096 4096 (nI y) fuel (nI i) f g ∧ ∀ j, (L_X11_fill_j_6 p1 p2 p3 p4 (nI W) (nI y) fuel (nI i) f g).2.1 j = (if y * W + i ≤ j ∧ j < y * W + W then nI (agV (fV p1 p2 p3 p4 (j - y * W) y)) else f j) ∧ (L_X11_fill_j_6 p1 p2 p3 p4 (nI W) (nI y) fuel (nI i) f g).2.2 j = if y * W + i ≤ j ∧ j < y * W + W then bI (ngB (fV p1 p2 p3 p4 (j - y * W) y)) else g j := by
  have hwh := wh_le hW hH
  intro d
  induction d with
  | zero =>
    intro i fuel f g h1 h2
    obtain ⟨n, rfl⟩ : ∃ n, fuel = n + 1 := ⟨fuel - 1, by omega⟩
    have q : nI W ≤ nI i := nI_le (by omega) (by omega)
    rw [PL_X11_fill_j_6, L_X11_fill_j_6, if_pos q]
    exact ⟨fun z => absurd q z, fun j => by rw [if_neg (by omega), if_neg (by omega)]; exact ⟨rfl, rfl⟩⟩
  | succ d ih =>
    intro i fuel f g h1 h2
    obtain ⟨n, rfl⟩ : ∃ n, fuel = n + 1 := ⟨fuel - 1, by omega⟩
    have q : ¬ nI W ≤ nI i := nI_ge (by omega) (by omega)
    have hp := plc (show i < W by omega) hy
    have ep : nI y * nI W + nI i = nI (y * W + i) := by rw [pk_mul, nI_add]
    obtain ⟨u1, u2⟩ := put_ok (v := fV p1 p2 p3 p4 i y) (i := y * W + i) (fV_ok p1 p2 p3 p4 i y) (by omega) f g
    obtain ⟨t1, t2⟩ := ih (i + 1) n (upd f (y * W + i) (nI (agV (fV p1 p2 p3 p4 i y)))) (upd g (y * W + i) (bI (ngB (fV p1 p2 p3 p4 i y)))) (by omega) (by omega)
    rw [nI_succ] at t1 t2
    rw [PL_X11_fill_j_6, L_X11_fill_j_6, if_neg q]
    simp only [ep, fV_m, u2, forall_eq']
    refine ⟨fun _ => ⟨u1, t1⟩, fun j => ?_⟩
    obtain ⟨t3, t4⟩ := t2 j
    refine ⟨t3.trans ?_, t4.trans ?_⟩
    · by_cases c : j = y * W + i
      · subst c
        rw [if_neg (by omega), if_pos (by omega), pk_us, Nat.add_sub_cancel_left]
      · rw [pk_un c]
        by_cases c2 : y * W + (i + 1) ≤ j ∧ j < y * W + W
        · rw [if_pos c2, if_pos (by omega)]
        · rw [if_neg c2, if_neg (by omega)]
    · by_cases c : j = y * W + i
      · subst c
        rw [if_neg (by omega), if_pos (by omega), pk_us, Nat.add_sub_cancel_left]
      · rw [pk_un c]
        by_cases c2 : y * W + (i + 1) ≤ j ∧ j < y * W + W
        · rw [if_pos c2, if_pos (by omega)]
        · rw [if_neg c2, if_neg (by omega)]
theorem row_in {W H y x0 y0 : Nat} (hx : x0 < W) (hy : y0 < H) : (y * W + 0 ≤ y0 * W + x0 ∧ y0 * W + x0 < y * W + W ↔ y0 = y) := by
  constructor
  · intro ⟨h1, h2⟩
    rcases Nat.lt_trichotomy y0 y with q | q | q
    · have := Nat.mul_le_mul_right W (show y0 + 1 ≤ y by omega)
      rw [Nat.succ_mul] at this
      omega
    · exact q
    · have := Nat.mul_le_mul_right W (show y + 1 ≤ y0 by omega)
      rw [Nat.succ_mul] at this
      omega
  · intro q; subst q; omega
theorem fc_all (hW : W ≤ 64) (hH : H ≤ 64) (hc : W * H ≤ cn) (hcu : cn ≤ 4096) : ∀ (d y fuel : Nat) (f : Nat → Int32), y + d = H → d < fuel → PL_X10_fill_j_3 p1 p2 p3 p4 (nI W) (nI H) cn fuel (nI y) f ∧ ∀ x0 y0, x0 < W → y0 < H → (L_X10_fill_j_3 p1 p2 p3 p4 (nI W) (nI H) fuel (nI y) f).2 (y0 * W + x0) = if y ≤ y0 then fV p1 p2 p3 p4 x0 y0 else f (y0 * W + x0) := by
  have hfu := fu_ge
  intro d
  induction d with
  | zero =>
    intro y fuel f h1 h2
    obtain ⟨n, rfl⟩ : ∃ n, fuel = n + 1 := ⟨fuel - 1, by omega⟩
    have q : nI H ≤ nI y := nI_le (by omega) (by omega)
    rw [PL_X10_fill_j_3, L_X10_fill_j_3, if_pos q]
    exact ⟨fun z => absurd q z, fun x0 y0 hx hy => by rw [if_neg (by omega)]⟩
  | succ d ih =>
    intro y fuel f h1 h2
    obtain ⟨n, rfl⟩ : ∃ n, fuel = n + 1 := ⟨fuel - 1, by omega⟩
    have q : ¬ nI H ≤ nI y := nI_ge (by omega) (by omega)
    obtain ⟨r1, r2⟩ := fc_row p1 p2 p3 p4 hW hH hc hcu (show y < H by omega) W 0 fu f (by omega) (by omega)
    rw [nI_0] at r1 r2
    obtain ⟨t1, t2⟩ := ih (y + 1) n (L_X10_fill_j_5 p1 p2 p3 p4 (nI W) (nI y) fu 0 f).2 (by omega) (by omega)
    rw [nI_succ] at t1 t2
    rw [PL_X10_fill_j_3, L_X10_fill_j_3, if_neg q]
    refine ⟨fun _ => ⟨r1, fun j hj => by rw [← hj]; exact t1⟩, fun x0 y0 hx hy => ?_⟩
    refine (t2 x0 y0 hx hy).trans ?_
    by_cases c : y + 1 ≤ y0
    · rw [if_pos c, if_pos (by omega)]
    · rw [if_neg c, r2]
      by_cases c2 : y0 = y
      · rw [if_pos ((row_in hx hy).mpr c2), if_pos (by omega), c2, Nat.add_sub_cancel_left]
      · rw [if_neg (fun z => c2 ((row_in hx hy).mp z)), if_neg (by omega)]
theorem fm_all (hW : W ≤ 64) (hH : H ≤ 64) : ∀ (d y fuel : Nat) (f g : Nat → Int32), y + d = H → d < fuel → PL_X11_fill_j_4 p1 p2 p3 p4 (nI W) (nI H) 4096 4096 fuel (nI y) f g ∧ ∀ x0 y0, x0 < W → y0 < H → (L_X11_fill_j_4 p1 p2 p3 p4 (nI W) (nI H) fuel (nI y) f g).2.1 (y0 * W + x0) = (if y ≤ y0 then nI (agV (fV p1 p2 p3 p4 x0 y0)) else f (y0 * W + x0)) ∧ (L_X11_fill_j_4 p1 p2 p3 p4 (nI W) (nI H) fuel (nI y) f g).2.2 (y0 * W + x0) = if y ≤ y0 then bI (ngB (fV p1 p2 p3 p4 x0 y0)) else g (y0 * W + x0) := by
  have hfu := fu_ge
  intro d
  induction d with
  | zero =>
    intro y fuel f g h1 h2
    obtain ⟨n, rfl⟩ : ∃ n, fuel = n + 1 := ⟨fuel - 1, by omega⟩
    have q : nI H ≤ nI y := nI_le (by omega) (by omega)
    rw [PL_X11_fill_j_4, L_X11_fill_j_4, if_pos q]
    exact ⟨fun z => absurd q z, fun x0 y0 hx hy => by rw [if_neg (by omega), if_neg (by omega)]; exact ⟨rfl, rfl⟩⟩
  | succ d ih =>
    intro y fuel f g h1 h2
    obtain ⟨n, rfl⟩ : ∃ n, fuel = n + 1 := ⟨fuel - 1, by omega⟩
    have q : ¬ nI H ≤ nI y := nI_ge (by omega) (by omega)
    obtain ⟨r1, r2⟩ := fm_row p1 p2 p3 p4 hW hH (show y < H by omega) W 0 fu f g (by omega) (by omega)
    rw [nI_0] at r1 r2
    obtain ⟨t1, t2⟩ := ih (y + 1) n (L_X11_fill_j_6 p1 p2 p3 p4 (nI W) (nI y) fu 0 f g).2.1 (L_X11_fill_j_6 p1 p2 p3 p4 (nI W) (nI y) fu 0 f g).2.2 (by omega) (by omega)
    rw [nI_succ] at t1 t2
    rw [PL_X11_fill_j_4, L_X11_fill_j_4, if_neg q]
    refine ⟨fun _ => ⟨r1, fun j hj => by rw [← hj]; exact t1⟩, fun x0 y0 hx hy => ?_⟩
    obtain ⟨t3, t4⟩ := t2 x0 y0 hx hy
    obtain ⟨r3, r4⟩ := r2 (y0 * W + x0)
    refine ⟨t3.trans ?_, t4.trans ?_⟩
    · by_cases c : y + 1 ≤ y0
      · rw [if_pos c, if_pos (by omega)]
      · rw [if_neg c, r3]
        by_cases c2 : y0 = y
        · rw [if_pos ((row_in hx hy).mpr c2), if_pos (by omega), c2, Nat.add_sub_cancel_left]
        · rw [if_neg (fun z => c2 ((row_in hx hy).mp z)), if_neg (by omega)]
    · by_cases c : y + 1 ≤ y0
      · rw [if_pos c, if_pos (by omega)]
      · rw [if_neg c, r4]
        by_cases c2 : y0 = y
        · rw [if_pos ((row_in hx hy).mpr c2), if_pos (by omega), c2, Nat.add_sub_cancel_left]
        · rw [if_neg (fun z => c2 ((row_in hx hy).mp z)), if_neg (by omega)]
end
theorem k_fill {x : XS} {y : YS} (p1 p2 p3 p4 : Int32) (h : OR x y) : (P_X11_fill p1 p2 p3 p4 y.wide y.high 4096 y.mag 4096 y.min) ∧ ((T_fill p4 = 0 ∧ (P_X10_fill p1 p2 p3 p4 x.wide x.high x.cn x.coef) ∧ (F_X11_fill p1 p2 p3 p4 y.wide y.high y.wr y.rd y.mag y.min).1 = 0 ∧ OR (x.of_fill (F_X10_fill p1 p2 p3 p4 x.wide x.high x.coef)) (y.of_fill (F_X11_fill p1 p2 p3 p4 y.wide y.high y.wr y.rd y.mag y.min))) ∨ (T_fill p4 = 3 ∧ (F_X11_fill p1 p2 p3 p4 y.wide y.high y.wr y.rd y.mag y.min).1 = 1 ∧ OR x (y.of_fill (F_X11_fill p1 p2 p3 p4 y.wide y.high y.wr y.rd y.mag y.min)))) := by
  have hOR := h
  obtain ⟨e, w, r, ok, L, ⟨hb1, hb2, hbk, hrw, hmr⟩, ⟨w1, w2, w3, w4⟩, hw, hr⟩ := h
  obtain ⟨l1, l2, l3, l4, l5, l6, l7, l8, l9, l10, l11, l12, l13, l14, l15, l16, l17, l18, l19⟩ := L
  have hfu := fu_ge
  unfold T_fill F_X11_fill P_X11_fill P_X10_fill F_X10_fill
  rw [l1, l2, l10, l11]
  by_cases c1 : p4 < 0
  · rw [if_pos c1]
    simp only [out_lo c1, thr1, forall_eq']
    exact ⟨fun z => absurd z (by decide), Or.inr ⟨trivial, rfl, hOR⟩⟩
  · rw [if_neg c1, if_neg c1]
    by_cases c2 : p4 ≤ 31
    · rw [if_pos c2, if_pos c2]
      simp only [out_in c1 c2, thr0, forall_eq', l5]
      obtain ⟨s1, s2⟩ := fc_all (cn := e.cn) p1 p2 p3 p4 ok.W64 ok.H64 ok.cnl ok.cnu e.H 0 fu x.coef (by omega) (by have := ok.H64; omega)
      obtain ⟨t1, t2⟩ := fm_all p1 p2 p3 p4 ok.W64 ok.H64 e.H 0 fu y.mag y.min (by omega) (by have := ok.H64; omega)
      rw [nI_0] at s1 s2 t1 t2
      refine ⟨fun _ => t1, Or.inl ⟨trivial, ⟨fun z => c1 z, fun _ => ⟨fun _ => s1, fun z => z c2⟩⟩, rfl, ?_⟩⟩
      simp only [if_true]
      refine ⟨e.new (L_X10_fill_j_3 p1 p2 p3 p4 (nI e.W) (nI e.H) fu 0 x.coef).2 (L_X11_fill_j_4 p1 p2 p3 p4 (nI e.W) (nI e.H) fu 0 y.mag y.min).2.1 (L_X11_fill_j_4 p1 p2 p3 p4 (nI e.W) (nI e.H) fu 0 y.mag y.min).2.2 _ _, false, false, new_ok (v := fun x y => fV p1 p2 p3 p4 x y) ok (fun x y => fV_ok p1 p2 p3 p4 x y) (fun x' y' hx hy => ?_) (fun x' y' hx hy => ?_) (fun x' y' hx hy => ?_), ⟨l1, l2, l3, l4, l5, rfl, l7, l8, l9, l10, l11, l12, l13, rfl, rfl, l16, l17, l18, l19⟩, ⟨hb1, hb2, hbk, hrw, hmr⟩, ⟨rfl, rfl, rfl, rfl⟩, fun z => (by cases z), fun z => (by cases z)⟩
      · rw [s2 x' y' hx hy, if_pos (Nat.zero_le _)]
      · rw [(t2 x' y' hx hy).1, if_pos (Nat.zero_le _)]
      · rw [(t2 x' y' hx hy).2, if_pos (Nat.zero_le _)]
    · rw [if_neg c2]
      simp only [out_hi c1 c2, thr1, forall_eq']
      exact ⟨fun z => absurd z (by decide), Or.inr ⟨trivial, rfl, hOR⟩⟩
