/-! ===== PURE: begin ===== -/
theorem zero_loop : ∀ (d i fuel : Nat) (f g : Nat → Int32), i + d = 4096 → d < fuel → PL_X11_begin_j_12 4096 4096 fuel (nI i) f g ∧ ∀ j, j < 4096 → (i ≤ j → (L_X11_begin_j_12 fuel (nI i) f g).2.1 j = 0 ∧ (L_X11_begin_j_12 fuel (nI i) f g).2.2 j = 0) ∧ (j < i → (L_X11_begin_j_12 fuel (nI i) f g).2.1 j = f j ∧ (L_X11_begin_j_12 fuel (nI i) f g).2.2 j = g j) := by
  intro d
  induction d with
  | zero =>
    intro i fuel f g h1 h2
    obtain ⟨n, rfl⟩ : ∃ n, fuel = n + 1 := ⟨fuel - 1, by omega⟩
    have q : (4096 : Int32) ≤ nI i := nI_le (a := 4096) (by omega) (by omega)
    rw [PL_X11_begin_j_12, L_X11_begin_j_12, if_pos q]
    exact ⟨fun z => absurd q z, fun j hj => ⟨fun z => absurd z (by omega), fun _ => ⟨rfl, rfl⟩⟩⟩
  | succ d ih =>
    intro i fuel f g h1 h2
    obtain ⟨n, rfl⟩ : ∃ n, fuel = n + 1 := ⟨fuel - 1, by omega⟩
    have q : ¬ (4096 : Int32) ≤ nI i := nI_ge (b := 4096) (by omega) (by omega)
    obtain ⟨u1, u2⟩ := put_ok (v := 0) (i := i) (show (-2147483647 : Int32) ≤ 0 by decide) (by omega) f g
    have e1 : nI (agV 0) = 0 := by decide
    have e2 : bI (ngB 0) = 0 := by decide
    rw [e1, e2] at u2
    obtain ⟨t1, t2⟩ := ih (i + 1) n (upd f i 0) (upd g i 0) (by omega) (by omega)
    rw [nI_succ] at t1 t2
    rw [PL_X11_begin_j_12, L_X11_begin_j_12, if_neg q]
    simp only [u2, forall_eq']
    refine ⟨fun _ => ⟨u1, t1⟩, fun j hj => ⟨fun hij => ?_, fun hij => ?_⟩⟩
    · by_cases c : j = i
      · subst c
        have := (t2 j hj).2 (by omega)
        rw [pk_us, pk_us] at this
        exact this
      · exact (t2 j hj).1 (by omega)
    · have := (t2 j hj).2 (by omega)
      rw [pk_un (by omega), pk_un (by omega)] at this
      exact this
theorem resize_ok {W H cn gn kn : Nat} {cf gf kf : Nat → Int32} {p3 : Int32} {cz : Bool} (hW : 1 ≤ W) (hW2 : W ≤ 64) (hH : 1 ≤ H) (hH2 : H ≤ 64) (h1 : 1 ≤ cn) (h2 : cn ≤ 4096) (hg : gn = cn) (hk : kn = cn) :
    P_X5_resize (nI W) (nI H) (bI cz) cn cf gn gf kn kf ∧ ∃ (n' : Nat) (cf' gf' kf' : Nat → Int32), F_X5_resize (nI W) (nI H) p3 (bI cz) cn cf gn gf kn kf = (nI W, nI H, p3, bI cz, n', cf', n', gf', n', kf') ∧ W * H ≤ n' ∧ n' ≤ 4096 ∧ (∀ j, j < n' → cf' j = 0) ∧ D_X5_resize (nI W) (nI H) cn cf gn gf kn kf + fiN cn ≤ fiN n' := by
  subst hg hk
  have hwh := wh_le hW2 hH2
  have hwh1 : 1 ≤ W * H := Nat.mul_le_mul hW hH
  have hvz : vz (bI cz) := by cases cz <;> first | exact Or.inl rfl | exact Or.inr rfl
  have e2 : (2 : Int32) * nI kn = nI (2 * kn) := pk_mul 2 kn
  have em : nI W * nI H = nI (W * H) := pk_mul W H
  unfold P_X5_resize F_X5_resize D_X5_resize PJ_X5_resize_j_12 J_X5_resize_j_12 DJ_X5_resize_j_12
  rw [em, e2]
  by_cases c : W * H ≤ kn
  · have q : nI (W * H) ≤ nI kn := nI_le c (by omega)
    obtain ⟨f1, f2⟩ := fill_ok 0 (N := kn) (by omega) cf
    simp only [q, if_true, f2]
    refine ⟨⟨hvz, fun z => absurd trivial z, fun j ej => ?_⟩, kn, _, _, _, rfl, c, h2, fun j hj => ?_, by omega⟩
    · subst ej; exact f1
    · show (if _ then _ else _) = _
      rw [if_pos hj]
  · have q : ¬ nI (W * H) ≤ nI kn := nI_ge (by omega) (by omega)
    have hm : ∃ L, (if (if nI (W * H) < nI (2 * kn) then nI (2 * kn) else nI (W * H)) < (4096 : Int32) then (if nI (W * H) < nI (2 * kn) then nI (2 * kn) else nI (W * H)) else (4096 : Int32)) = nI L ∧ W * H ≤ L ∧ L ≤ 4096 ∧ (2 * kn ≤ L ∨ L = 4096) := by
      by_cases c2 : W * H < 2 * kn
      · rw [if_pos (nI_lt c2 (by omega))]
        by_cases c3 : 2 * kn < 4096
        · have q3 : nI (2 * kn) < (4096 : Int32) := nI_lt (b := 4096) c3 (by omega)
          rw [if_pos q3]; exact ⟨2 * kn, rfl, by omega, by omega, Or.inl (Nat.le_refl _)⟩
        · have q3 : ¬ nI (2 * kn) < (4096 : Int32) := nI_nlt (b := 4096) (by omega) (by omega)
          rw [if_neg q3]; exact ⟨4096, rfl, by omega, by omega, Or.inr rfl⟩
      · rw [if_neg (nI_nlt (by omega) (by omega))]
        by_cases c3 : W * H < 4096
        · have q3 : nI (W * H) < (4096 : Int32) := nI_lt (b := 4096) c3 (by omega)
          rw [if_pos q3]; exact ⟨W * H, rfl, Nat.le_refl _, by omega, Or.inl (by omega)⟩
        · have q3 : ¬ nI (W * H) < (4096 : Int32) := nI_nlt (b := 4096) (by omega) (by omega)
          rw [if_neg q3]; exact ⟨4096, rfl, by omega, by omega, Or.inr rfl⟩
    obtain ⟨L, l1, l2, l3, l4⟩ := hm
    obtain ⟨f1, f2⟩ := fill_ok 0 (N := L) (by omega) (fun _ => 0)
    have hcl : (nI L).toNatClampNeg = L := nI_clamp (by omega)
    simp only [q, if_false, l1, hcl, f2]
    have hp : ¬ nI L < 0 := nI_pos (by omega)
    refine ⟨⟨hvz, fun _ => ⟨hp, by omega, hp, by omega, hp, by omega⟩, fun j ej => ?_⟩, L, _, _, _, rfl, l2, l3, fun j hj => ?_, ?_⟩
    · subst ej; exact f1
    · show (if _ then _ else _) = _
      rw [if_pos hj]
    · unfold fiN
      by_cases c4 : L = 4096
      · rw [if_pos c4, if_neg (by omega)]; omega
      · rw [if_neg c4, if_neg (by omega)]; omega
theorem in_range {p a b : Int32} {x y : Nat} (ha : a = nI x) (hb : b = nI y) (hx : x < 2 ^ 31) (hy : y < 2 ^ 31) (h1 : ¬ p < a) (h2 : p ≤ b) : ∃ n, x ≤ n ∧ n ≤ y ∧ p = nI n := by
  subst ha hb
  have h0 : ¬ p < 0 := fun z => h1 (Int32.lt_of_lt_of_le z (nI_pos' hx))
  obtain ⟨n, hn, rfl⟩ := nI_of h0
  refine ⟨n, ?_, (nI_leI hn hy).mp h2, rfl⟩
  rcases Nat.lt_or_ge n x with q | q
  · exact absurd (nI_lt q hx) h1
  · exact q
theorem k_begin {x : XS} {y : YS} (p1 p2 p3 p4 : Int32) (h : OR x y) : (P_X11_begin p1 p2 p3 p4 4096 y.mag 4096 y.min) ∧ ((T_begin p1 p2 p3 p4 = 0 ∧ (P_X10_begin p1 p2 p3 p4 x.cn x.coef x.gn x.mags x.kn x.marks) ∧ (F_X11_begin p1 p2 p3 p4 y.wide y.high y.band y.sty y.wr y.rd y.mag y.min).1 = 0 ∧ OR (x.of_begin (F_X10_begin p1 p2 p3 p4 x.cn x.coef x.gn x.mags x.kn x.marks)) (y.of_begin (F_X11_begin p1 p2 p3 p4 y.wide y.high y.band y.sty y.wr y.rd y.mag y.min)) ∧ (D_X10_begin p1 p2 p3 p4 x.cn x.coef x.gn x.mags x.kn x.marks) + mu x ≤ mu (x.of_begin (F_X10_begin p1 p2 p3 p4 x.cn x.coef x.gn x.mags x.kn x.marks))) ∨ (T_begin p1 p2 p3 p4 = 3 ∧ (F_X11_begin p1 p2 p3 p4 y.wide y.high y.band y.sty y.wr y.rd y.mag y.min).1 = 1 ∧ OR x (y.of_begin (F_X11_begin p1 p2 p3 p4 y.wide y.high y.band y.sty y.wr y.rd y.mag y.min)))) := by
  have hOR := h
  obtain ⟨e, w, r, ok, L, ⟨hb1, hb2, hbk, hrw, hmr⟩, ⟨w1, w2, w3, w4⟩, hw, hr⟩ := h
  obtain ⟨l1, l2, l3, l4, l5, l6, l7, l8, l9, l10, l11, l12, l13, l14, l15, l16, l17, l18, l19⟩ := L
  have hfu := fu_ge
  have hbad : T_begin p1 p2 p3 p4 = 3 → J_X11_begin_j_9 p2 p3 p4 (F_X11_out p1 1 64) = 1 → (P_X11_begin p1 p2 p3 p4 4096 y.mag 4096 y.min) ∧ ((T_begin p1 p2 p3 p4 = 0 ∧ (P_X10_begin p1 p2 p3 p4 x.cn x.coef x.gn x.mags x.kn x.marks) ∧ (F_X11_begin p1 p2 p3 p4 y.wide y.high y.band y.sty y.wr y.rd y.mag y.min).1 = 0 ∧ OR (x.of_begin (F_X10_begin p1 p2 p3 p4 x.cn x.coef x.gn x.mags x.kn x.marks)) (y.of_begin (F_X11_begin p1 p2 p3 p4 y.wide y.high y.band y.sty y.wr y.rd y.mag y.min)) ∧ (D_X10_begin p1 p2 p3 p4 x.cn x.coef x.gn x.mags x.kn x.marks) + mu x ≤ mu (x.of_begin (F_X10_begin p1 p2 p3 p4 x.cn x.coef x.gn x.mags x.kn x.marks))) ∨ (T_begin p1 p2 p3 p4 = 3 ∧ (F_X11_begin p1 p2 p3 p4 y.wide y.high y.band y.sty y.wr y.rd y.mag y.min).1 = 1 ∧ OR x (y.of_begin (F_X11_begin p1 p2 p3 p4 y.wide y.high y.band y.sty y.wr y.rd y.mag y.min)))) := by
    intro z1 z2
    have hF1 : (F_X11_begin p1 p2 p3 p4 y.wide y.high y.band y.sty y.wr y.rd y.mag y.min) = (1, y.wide, y.high, y.band, y.sty, y.wr, y.rd, y.mag, y.min) := by
      unfold F_X11_begin
      simp only [z2, thr1]
      rfl
    refine ⟨fun r1 e1 j9 e9 r10 e10 z => ?_, Or.inr ⟨z1, by rw [hF1], by rw [hF1]; exact hOR⟩⟩
    subst e1
    rw [z2] at e9
    subst e9
    rw [thr1] at e10
    subst e10
    exact absurd z (by decide)
  unfold T_begin at hbad
  unfold J_X11_begin_j_9 at hbad
  by_cases c1 : p1 < 1
  · exact hbad (if_pos c1) (by simp only [out_lo c1]; rfl)
  · by_cases c2 : 64 < p1
    · have c2' : ¬ p1 ≤ 64 := fun z => absurd c2 (Int32.not_lt.mpr z)
      exact hbad (by rw [if_neg c1, if_pos c2]) (by simp only [out_hi c1 c2']; rfl)
    · have c2' : p1 ≤ 64 := Int32.not_lt.mp c2
      by_cases c3 : p2 < 1
      · exact hbad (by rw [if_neg c1, if_neg c2, if_pos c3]) (by simp only [out_in c1 c2', out_lo c3, if_true]; rfl)
      · by_cases c4 : p2 ≤ 64
        · by_cases c5 : p3 < 0
          · exact hbad (by rw [if_neg c1, if_neg c2, if_neg c3, if_pos c4, if_pos c5]) (by simp only [out_in c1 c2', out_in c3 c4, out_lo c5, if_true]; rfl)
          · by_cases c6 : p3 ≤ 3
            · by_cases c7 : p4 < 0
              · exact hbad (by rw [if_neg c1, if_neg c2, if_neg c3, if_pos c4, if_neg c5, if_pos c6, if_pos c7]) (by simp only [out_in c1 c2', out_in c3 c4, out_in c5 c6, out_lo c7, if_true]; rfl)
              · by_cases c8 : p4 ≤ 63
                · clear hbad
                  obtain ⟨W, hW1, hW2, rfl⟩ := in_range (p := p1) (a := 1) (b := 64) (x := 1) (y := 64) rfl rfl (by omega) (by omega) c1 c2'
                  obtain ⟨H, hH1, hH2, rfl⟩ := in_range (p := p2) (a := 1) (b := 64) (x := 1) (y := 64) rfl rfl (by omega) (by omega) c3 c4
                  obtain ⟨B, hB1, hB2, rfl⟩ := in_range (p := p3) (a := 0) (b := 3) (x := 0) (y := 3) rfl rfl (by omega) (by omega) c5 c6
                  have hcz : F_X10_has 8 p4 = bI (czOf p4) := by
                    unfold F_X10_has czOf
                    by_cases q : (p4 &&& (8 : Int32)) = (0 : Int32)
                    · rw [if_pos q, decide_eq_true q]; rfl
                    · rw [if_neg q, decide_eq_false q]; rfl
                  have hcn := ok.cnl
                  have hcu := ok.cnu
                  have hw1 : 1 ≤ e.W * e.H := Nat.mul_le_mul ok.W1 ok.H1
                  obtain ⟨r1, n', cf', gf', kf', r2, r3, r4, r5, r6⟩ := resize_ok (cf := x.coef) (gf := x.mags) (kf := x.marks) (p3 := nI B) (cz := czOf p4) (cn := x.cn) (gn := x.gn) (kn := x.kn) hW1 hW2 hH1 hH2 (by rw [l5]; omega) (by rw [l5]; exact hcu) (by rw [l7, l5]; exact l18) (by rw [l8, l5]; exact l19)
                  obtain ⟨z1, z2⟩ := zero_loop 4096 0 fu y.mag y.min (by omega) (by omega)
                  rw [nI_0] at z1 z2
                  have hj9 : J_X11_begin_j_9 (nI H) (nI B) p4 (F_X11_out (nI W) 1 64) = 0 := by
                    unfold J_X11_begin_j_9
                    simp only [out_in c1 c2', out_in c3 c4, out_in c5 c6, out_in c7 c8, if_true]
                  have hF1 : (F_X11_begin (nI W) (nI H) (nI B) p4 y.wide y.high y.band y.sty y.wr y.rd y.mag y.min) = (0, nI W, nI H, nI B, p4, 0, 0, (L_X11_begin_j_12 fu 0 y.mag y.min).2.1, (L_X11_begin_j_12 fu 0 y.mag y.min).2.2) := by
                    unfold F_X11_begin
                    simp only [hj9, thr0, if_true]
                    rfl
                  have hF : (F_X10_begin (nI W) (nI H) (nI B) p4 x.cn x.coef x.gn x.mags x.kn x.marks) = (nI W, nI H, nI B, bI (czOf p4), n', cf', n', gf', n', kf', p4, 0, 0) := by
                    unfold F_X10_begin
                    rw [if_neg c1, if_neg c2, if_neg c3, if_pos c4, if_neg c5, if_pos c6, if_neg c7, if_pos c8]
                    simp only [hcz, r2]
                    rfl
                  have hD : (D_X10_begin (nI W) (nI H) (nI B) p4 x.cn x.coef x.gn x.mags x.kn x.marks) + fiN x.cn ≤ fiN n' := by
                    unfold D_X10_begin
                    rw [if_neg c1, if_neg c2, if_neg c3, if_pos c4, if_neg c5, if_pos c6, if_neg c7, if_pos c8]
                    simp only [Nat.add_zero]
                    exact r6
                  refine ⟨fun _ _ _ _ _ _ _ => z1, Or.inl ⟨?_, ?_, ?_, ?_, ?_⟩⟩
                  · unfold T_begin
                    rw [if_neg c1, if_neg c2, if_neg c3, if_pos c4, if_neg c5, if_pos c6, if_neg c7, if_pos c8]
                  · refine ⟨fun z => c1 z, fun _ => ⟨fun z => c2 z, fun _ => ⟨fun z => c3 z, fun _ => ⟨fun _ => ⟨fun z => c5 z, fun _ => ⟨fun _ => ⟨fun z => c7 z, fun _ => ⟨fun _ r9 e9 => ?_, fun z => z c8⟩⟩, fun z => z c6⟩⟩, fun z => z c4⟩⟩⟩⟩
                    rw [hcz] at e9
                    subst e9
                    exact r1
                  · rw [hF1]
                  · rw [hF, hF1]
                    have hwh := wh_le hW2 hH2
                    have hpl : ∀ x y, x < W → y < H → y * W + x < W * H := fun x y hx hy => plc hx hy
                    refine ⟨((W, H, B, 0, 0, 0, 0, 0, n', n', n', p4, cf', (L_X11_begin_j_12 fu 0 y.mag y.min).2.1, (L_X11_begin_j_12 fu 0 y.mag y.min).2.2, e.mp, e.mo, fun _ _ => 0, fun _ _ => false, 0) : EnvB), false, false, ?_, ⟨rfl, rfl, rfl, rfl, rfl, rfl, rfl, rfl, rfl, rfl, rfl, rfl, rfl, rfl, rfl, l16, l17, rfl, rfl⟩, ⟨hb1, hb2, hbk, hrw, hmr⟩, ⟨rfl, rfl, rfl, rfl⟩, fun z => (by cases z), fun z => (by cases z)⟩
                    refine ⟨hW1, hW2, hH1, hH2, by show B < 4; omega, Nat.zero_le _, by show 0 < 4; omega, Nat.zero_le _, Nat.zero_le _, Nat.zero_le _, r3, r4, r3, r4, r3, r4, fun x' y' hx hy => ?_, fun x' y' hx hy => ?_, fun x' y' => ?_, fun x' y' hx hy => ?_, fun x' y' hx hy => ?_, ok.hmp, ok.hmo⟩
                    · have hx' := hpl x' y' hx hy
                      have e0 : cf' (y' * W + x') = 0 := r5 _ (by omega)
                      show (if (0 : Int32) ≤ cf' (y' * W + x') then cf' (y' * W + x') else (0 : Int32) - cf' (y' * W + x')) = nI 0
                      rw [e0]; rfl
                    · have hx' := hpl x' y' hx hy
                      exact ((z2 _ (show y' * W + x' < 4096 by omega)).1 (Nat.zero_le _)).1
                    · show (0 : Nat) < _
                      omega
                    · have hx' := hpl x' y' hx hy
                      have e0 : cf' (y' * W + x') = 0 := r5 _ (by omega)
                      show (0 : Int32) ≤ cf' (y' * W + x') ↔ false = false
                      rw [e0]
                      exact ⟨fun _ => rfl, fun _ => by decide⟩
                    · have hx' := hpl x' y' hx hy
                      exact ((z2 _ (show y' * W + x' < 4096 by omega)).1 (Nat.zero_le _)).2
                  · rw [hF]
                    show _ + (3 * x.c.bn + fiN x.cn) ≤ 3 * x.c.bn + fiN n'
                    omega
                · exact hbad (by rw [if_neg c1, if_neg c2, if_neg c3, if_pos c4, if_neg c5, if_pos c6, if_neg c7, if_neg c8]) (by simp only [out_in c1 c2', out_in c3 c4, out_in c5 c6, out_hi c7 c8, if_true]; rfl)
            · exact hbad (by rw [if_neg c1, if_neg c2, if_neg c3, if_pos c4, if_neg c5, if_neg c6]) (by simp only [out_in c1 c2', out_in c3 c4, out_hi c5 c6, if_true]; rfl)
        · exact hbad (by rw [if_neg c1, if_neg c2, if_neg c3, if_neg c4]) (by simp only [out_in c1 c2', out_hi c3 c4, if_true]; rfl)
