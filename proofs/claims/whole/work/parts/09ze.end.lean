/-! ===== PURE: the three ways a segment ends, both sides ===== -/
theorem pBy_lt {st n low room : Nat} {b : Nat → Nat} (hb : ∀ j, j < n → b j < 256) : ∀ j, j < n + 1 → pBy st n b low room j < 256 := oBy_lt hb
/-- what an end leaves: n bytes b in both rows, before a last 255 goes -/
def EndOk (bn st : Nat) (j10 : (Int32 × Nat × (Nat → Int32) × Int32 × Int32 × Int32)) (dj : Nat) (cl : (Int32 × Int32 × Int32 × Int32 × (Nat → Int32))) (n : Nat) : Prop :=
  ∃ (n' : Nat) (b' : Nat → Nat) (bn' : Nat) (f' : Nat → Int32) (lw rm fr ml mc mr : Int32) (mf' : Nat → Int32), j10 = (nI n', bn', f', lw, rm, fr) ∧ dj + 3 * bn ≤ 3 * bn' ∧ rOk n' bn' f' b' ∧ bn ≤ bn' ∧ cl = (nI (dN st n' b'), ml, mc, mr, mf') ∧ cEq n' mf' b' ∧ st ≤ n' ∧ n' ≤ n + 2 ∧ ∀ j, j < n' → b' j < 256
theorem has16 (sty : Int32) : F_X10_has (16 : Int32) sty = (0 : Int32) ↔ (sty &&& (16 : Int32)) = (0 : Int32) := by
  unfold F_X10_has
  by_cases c : (sty &&& (16 : Int32)) = (0 : Int32)
  · rw [if_pos c]; exact ⟨fun _ => c, fun _ => rfl⟩
  · rw [if_neg c]; exact ⟨fun z => absurd z (by decide), fun z => absurd z c⟩
section
variable {st n bn low sz room : Nat} {f mf : Nat → Int32} {b : Nat → Nat} {sty : Int32}
theorem end_two (free : Int32) (h : rOk n bn f b) (hm : cEq n mf b) (hn : n + 2 < 65536) (hs : st ≤ n) (hb : ∀ j, j < n → b j < 256) (hi : (low + sz) * 2 ^ room ≤ 150994944) (h1 : 32768 ≤ sz) (h2 : sz < 65536) (h3 : 1 ≤ room) (h4 : room ≤ 12) (hp : (sty &&& (16 : Int32)) = (0 : Int32)) :
    PJ_X10_endWriting_j_10 0 (nI n) (nI st) bn f (nI low) (nI sz) (nI room) free sty ∧ P_X11_close sty 0 (nI n) (nI st) (nI (rLow st n b low room)) (bI (rCar st n b low room)) (nI sz) (nI room) 65536 mf ∧
    EndOk bn st (J_X10_endWriting_j_10 0 (nI n) (nI st) bn f (nI low) (nI sz) (nI room) free sty) (DJ_X10_endWriting_j_10 0 (nI n) (nI st) bn f (nI low) (nI sz) (nI room) free sty) (F_X11_close sty 0 (nI n) (nI st) (nI (rLow st n b low room)) (bI (rCar st n b low room)) (nI sz) (nI room) mf) n := by
  have hfu := fu_ge
  obtain ⟨k, hk⟩ : ∃ k, fu = k + 3 := ⟨fu - 3, by omega⟩
  have hpos := Nat.two_pow_pos room
  have hlw : low + sz ≤ 150994944 := Nat.le_trans (Nat.le_mul_of_pos_right _ hpos) hi
  have hel := eLow_lt (low := low) h1
  have hw : eLow low sz * 2 ^ room < 2 ^ 31 := Nat.lt_of_le_of_lt (Nat.le_trans (Nat.mul_le_mul_right _ (Nat.le_of_lt hel)) hi) (by omega)
  have hh0 : F_X10_has (16 : Int32) sty = 0 := (has16 sty).mpr hp
  have hj2 := end_c (low := low) (sz := sz) (by omega) h2
  have hj10 : J_X11_close_j_10 (nI (rLow st n b low room)) (nI sz) (F_X11_carry (bI (rCar st n b low room)) (nI room)) = nI (eLow low sz) := end_m (by omega) h2 (by rw [carry_ok _ h4, nI_add, rLow_whole])
  obtain ⟨kp, kf⟩ := keep_ok (st := st) (c := n) (w := eLow low sz) (room := room) (f := mf) (b := b) h4 (by omega) (by omega) hs hm hb
  obtain ⟨c1, bn1, f1, c2, c3, c4, c5⟩ := push_c (low := eLow low sz) h (by omega) hs hb hw h4
  obtain ⟨m1, mf1, m2, m3, m4⟩ := push_m (low := eLow low sz) hm (by omega) hs hb hw h4
  have hr1 := pRm_in st n b (eLow low sz) room
  have hl1 := pLow_lt st n b (eLow low sz) room
  have hb1 := pBy_lt (st := st) (low := eLow low sz) (room := room) hb
  obtain ⟨d1, bn2, f2, d2, d3, d4, d5⟩ := push_c (st := st) (low := pLow st n b (eLow low sz) room) (room := pRm st n b (eLow low sz) room) c3 (by omega) (by omega) hb1 (by omega) (by omega)
  obtain ⟨q1, mf2, q2, q3, q4⟩ := push_m (st := st) (low := pLow st n b (eLow low sz) room) (room := pRm st n b (eLow low sz) room) m4 (by omega) (by omega) hb1 (by omega) (by omega)
  have hb2 := pBy_lt (st := st) (low := pLow st n b (eLow low sz) room) (room := pRm st n b (eLow low sz) room) hb1
  obtain ⟨g1, g2⟩ := drop_m (st := st) q4 (by omega) (by omega) hb2
  rw [← m3] at q2
  have n20 : ¬ (2 : Int32) ≤ 0 := by decide
  have n21 : ¬ (2 : Int32) ≤ 0 + 1 := by decide
  have n22 : (2 : Int32) ≤ 0 + 1 + 1 := by decide
  have hL : L_X3_end_j_3 (nI st) fu 0 (nI n) bn f (nI (eLow low sz)) (nI room) = (0 + 1 + 1, nI (n + 2), bn2, f2, nI (pLow st (n + 1) (pBy st n b (eLow low sz) room) (pLow st n b (eLow low sz) room) (pRm st n b (eLow low sz) room)), nI (pRm st (n + 1) (pBy st n b (eLow low sz) room) (pLow st n b (eLow low sz) room) (pRm st n b (eLow low sz) room))) := by
    rw [hk, L_X3_end_j_3, if_neg n20]
    simp only [c2]
    rw [L_X3_end_j_3, if_neg n21]
    simp only [d2]
    rw [L_X3_end_j_3, if_pos n22]
  have hPL : PL_X3_end_j_3 (nI st) fu 0 (nI n) bn f (nI (eLow low sz)) (nI room) := by
    rw [hk, PL_X3_end_j_3]
    refine fun _ => ⟨c1, fun r5 e5 => ?_⟩
    rw [c2] at e5
    subst e5
    rw [PL_X3_end_j_3]
    refine fun _ => ⟨d1, fun r6 e6 => ?_⟩
    have e7 : _ = r6 := d2.symm.trans e6
    subst e7
    rw [PL_X3_end_j_3]
    exact fun z => absurd n22 z
  have hDL : DL_X3_end_j_3 (nI st) fu 0 (nI n) bn f (nI (eLow low sz)) (nI room) + 3 * bn ≤ 3 * bn2 := by
    rw [hk, DL_X3_end_j_3, if_neg n20]
    simp only [c2]
    rw [DL_X3_end_j_3, if_neg n21]
    simp only [d2]
    rw [DL_X3_end_j_3, if_pos n22, Nat.add_zero]
    exact addC c5 d5
  refine ⟨⟨fun _ r2 e2 => ⟨fun _ j2 ej2 => ?_, fun z => ?_⟩, fun z => absurd rfl z⟩, ⟨fun _ => ⟨fun _ r8 e8 j10 ej => ?_, fun z => absurd hp z⟩, fun z => absurd rfl z⟩, ?_⟩
  · rw [hj2] at ej2
    subst ej2
    exact hPL
  · rw [hh0] at e2
    exact absurd e2.symm z
  · subst e8
    rw [hj10] at ej
    subst ej
    refine ⟨kp, fun r11 e11 => ?_⟩
    rw [kf] at e11
    subst e11
    refine ⟨m1, fun r12 e12 => ?_⟩
    have e13 : _ = r12 := m2.symm.trans e12
    subst e13
    refine ⟨q1, fun r13 e14 => ?_⟩
    have e15 : _ = r13 := q2.symm.trans e14
    subst e15
    exact g1
  · refine ⟨n + 2, (pBy st (n + 1) (pBy st n b (eLow low sz) room) (pLow st n b (eLow low sz) room) (pRm st n b (eLow low sz) room)), bn2, f2, nI (pLow st (n + 1) (pBy st n b (eLow low sz) room) (pLow st n b (eLow low sz) room) (pRm st n b (eLow low sz) room)), nI (pRm st (n + 1) (pBy st n b (eLow low sz) room) (pLow st n b (eLow low sz) room) (pRm st n b (eLow low sz) room)), free, nI (pLow st (n + 1) (pBy st n b (eLow low sz) room) (pLow st n b (eLow low sz) room) (pRm st n b (eLow low sz) room)), bI (rCar st (n + 1 + 1) (pBy st (n + 1) (pBy st n b (eLow low sz) room) (pLow st n b (eLow low sz) room) (pRm st n b (eLow low sz) room)) (pLow st (n + 1) (pBy st n b (eLow low sz) room) (pLow st n b (eLow low sz) room) (pRm st n b (eLow low sz) room)) (pRm st (n + 1) (pBy st n b (eLow low sz) room) (pLow st n b (eLow low sz) room) (pRm st n b (eLow low sz) room))), nI (pRm st (n + 1) (pBy st n b (eLow low sz) room) (pLow st n b (eLow low sz) room) (pRm st n b (eLow low sz) room)), mf2, ?_, ?_, d3, Nat.le_trans c4 d4, ?_, q4, by omega, Nat.le_refl _, hb2⟩
    · unfold J_X10_endWriting_j_10
      simp only [hh0, if_true]
      unfold F_X3_end
      simp only [hj2, hL]
    · unfold DJ_X10_endWriting_j_10
      simp only [hh0, if_true, Nat.add_zero]
      unfold D_X3_end
      simp only [hj2, Nat.add_zero]
      exact hDL
    · unfold F_X11_close
      simp only [if_true, hp, hj10, kf, m2]
      simp only [q2, g2]
      exact drop_if (by omega) (fun z => (z, _, _, _, _))
theorem sub_le0 {a c : Nat} (ha : a < 2 ^ 30) (hc : c < 2 ^ 30) (h : a ≤ c) : nI a - nI c ≤ (0 : Int32) := by
  rw [Int32.le_iff_toInt_le, pk_sub_toInt ha hc]
  show (a : Int) - c ≤ 0
  omega
theorem end_plain (free : Int32) (h : rOk n bn f b) (hm : cEq n mf b) (hn : n + 2 < 65536) (hs : st ≤ n) (hb : ∀ j, j < n → b j < 256) (hi : (low + sz) * 2 ^ room ≤ 150994944) (h3 : 1 ≤ room) (h4 : room ≤ 12) (hp : ¬ (sty &&& (16 : Int32)) = (0 : Int32)) :
    PJ_X10_endWriting_j_10 0 (nI n) (nI st) bn f (nI low) (nI sz) (nI room) free sty ∧ P_X11_close sty 0 (nI n) (nI st) (nI (rLow st n b low room)) (bI (rCar st n b low room)) (nI sz) (nI room) 65536 mf ∧
    EndOk bn st (J_X10_endWriting_j_10 0 (nI n) (nI st) bn f (nI low) (nI sz) (nI room) free sty) (DJ_X10_endWriting_j_10 0 (nI n) (nI st) bn f (nI low) (nI sz) (nI room) free sty) (F_X11_close sty 0 (nI n) (nI st) (nI (rLow st n b low room)) (bI (rCar st n b low room)) (nI sz) (nI room) mf) n := by
  have hfu := fu_ge
  obtain ⟨k, hk⟩ : ∃ k, fu = k + 3 := ⟨fu - 3, by omega⟩
  have hpos := Nat.two_pow_pos room
  have hw : low * 2 ^ room < 2 ^ 31 := Nat.lt_of_le_of_lt (Nat.le_trans (Nat.mul_le_mul_right _ (Nat.le_add_right low sz)) hi) (by omega)
  have hh1 : ¬ F_X10_has (16 : Int32) sty = 0 := fun z => hp ((has16 sty).mp z)
  have h12 : (12 : Int32) - nI room = nI (12 - room) := pk_sub (a := 12) h4
  have n20 : ¬ (2 : Int32) ≤ 0 := by decide
  have n21 : ¬ (2 : Int32) ≤ 0 + 1 := by decide
  have n22 : (2 : Int32) ≤ 0 + 1 + 1 := by decide
  -- it is enough to know the loops
  have fin : ∀ {n' : Nat} {b' : Nat → Nat} {bn' : Nat} {f' : Nat → Int32} {i1 i2 lw rm i3 ml mc mr : Int32} {mf' : Nat → Int32},
      L_X3_endPlainly_j_1 (nI st) fu (nI (12 - room)) 0 (nI n) bn f (nI low) (nI room) = (i1, i2, nI n', bn', f', lw, rm) → PL_X3_endPlainly_j_1 (nI st) fu (nI (12 - room)) 0 (nI n) bn f (nI low) (nI room) → DL_X3_endPlainly_j_1 (nI st) fu (nI (12 - room)) 0 (nI n) bn f (nI low) (nI room) + 3 * bn ≤ 3 * bn' →
      L_X11_close_j_3 (nI st) fu (nI (12 - room)) (nI n) (nI (rLow st n b low room)) (bI (rCar st n b low room)) (nI room) mf = (i3, nI n', ml, mc, mr, mf') → PL_X11_close_j_3 (nI st) 65536 fu (nI (12 - room)) (nI n) (nI (rLow st n b low room)) (bI (rCar st n b low room)) (nI room) mf →
      rOk n' bn' f' b' → bn ≤ bn' → cEq n' mf' b' → st ≤ n' → n' ≤ n + 2 → (∀ j, j < n' → b' j < 256) →
      PJ_X10_endWriting_j_10 0 (nI n) (nI st) bn f (nI low) (nI sz) (nI room) free sty ∧ P_X11_close sty 0 (nI n) (nI st) (nI (rLow st n b low room)) (bI (rCar st n b low room)) (nI sz) (nI room) 65536 mf ∧
      EndOk bn st (J_X10_endWriting_j_10 0 (nI n) (nI st) bn f (nI low) (nI sz) (nI room) free sty) (DJ_X10_endWriting_j_10 0 (nI n) (nI st) bn f (nI low) (nI sz) (nI room) free sty) (F_X11_close sty 0 (nI n) (nI st) (nI (rLow st n b low room)) (bI (rCar st n b low room)) (nI sz) (nI room) mf) n := by
    intro n' b' bn' f' i1 i2 lw rm i3 ml mc mr mf' a1 a2 a3 a4 a5 a6 a7 a8 a9 a10 a11
    obtain ⟨g1, g2⟩ := drop_m (st := st) a8 (by omega) a9 a11
    refine ⟨⟨fun _ r2 e2 => ⟨fun z => ?_, fun _ => ?_⟩, fun z => absurd rfl z⟩, ⟨fun _ => ⟨fun z => absurd z hp, fun _ => ⟨by rw [h12]; exact a5, fun j3 e3 => ?_⟩⟩, fun z => absurd rfl z⟩, n', b', bn', f', lw, rm, free, ml, mc, mr, mf', ?_, ?_, a6, a7, ?_, a8, a9, a10, a11⟩
    · exact absurd (e2.trans z) hh1
    · unfold P_X3_endPlainly
      rw [h12]; exact a2
    · rw [h12, a4] at e3
      subst e3
      exact g1
    · unfold J_X10_endWriting_j_10
      simp only [if_true, hh1, if_false]
      unfold F_X3_endPlainly
      rw [h12]
      simp only [a1]
    · unfold DJ_X10_endWriting_j_10
      simp only [if_true, hh1, if_false, Nat.add_zero]
      unfold D_X3_endPlainly
      rw [h12]
      simp only [Nat.add_zero]
      exact a3
    · unfold F_X11_close
      simp only [if_true, hp, if_false, h12, a4, g2]
      exact drop_if a9 (fun z => (z, ml, mc, mr, mf'))
  by_cases l0 : room = 12
  · have z0 : nI (12 - room) ≤ (0 : Int32) := nI_le (b := 0) (by omega) (by omega)
    exact fin (n' := n) (b' := b) (bn' := bn) (f' := f) (i1 := nI (12 - room)) (i2 := 0) (lw := nI low) (rm := nI room) (i3 := nI (12 - room)) (ml := nI (rLow st n b low room)) (mc := bI (rCar st n b low room)) (mr := nI room) (mf' := mf) (by rw [hk, L_X3_endPlainly_j_1, if_neg n20, if_pos z0]) (by rw [hk, PL_X3_endPlainly_j_1]; exact fun _ z => absurd z0 z) (by rw [hk, DL_X3_endPlainly_j_1, if_neg n20, if_pos z0]; omega) (by rw [hk, L_X11_close_j_3, if_pos z0]) (by rw [hk, PL_X11_close_j_3]; exact fun z => absurd z0 z) h (Nat.le_refl _) hm hs (by omega) hb
  · have z0 : ¬ nI (12 - room) ≤ (0 : Int32) := nI_nle (by omega) (by omega)
    obtain ⟨c1, bn1, f1, c2, c3, c4, c5⟩ := push_c (low := low) h (by omega) hs hb hw h4
    obtain ⟨m1, mf1, m2, m3, m4⟩ := push_m (low := low) hm (by omega) hs hb hw h4
    have hr1 := pRm_in st n b low room
    have hl1 := pLow_lt st n b low room
    have hb1 := pBy_lt (st := st) (low := low) (room := room) hb
    by_cases l1 : 12 - room ≤ pRm st n b low room
    · have z1 : nI (12 - room) - nI (pRm st n b low room) ≤ (0 : Int32) := sub_le0 (by omega) (by omega) l1
      refine fin (n' := n + 1) (b' := pBy st n b low room) (bn' := bn1) (f' := f1) (i1 := nI (12 - room) - nI (pRm st n b low room)) (i2 := 0 + 1) (lw := nI (pLow st n b low room)) (rm := nI (pRm st n b low room)) (i3 := nI (12 - room) - nI (pRm st n b low room)) (ml := nI (pLow st n b low room)) (mc := bI (rCar st (n + 1) (pBy st n b low room) (pLow st n b low room) (pRm st n b low room))) (mr := nI (pRm st n b low room)) (mf' := mf1) ?_ ?_ ?_ ?_ ?_ c3 c4 m4 (by omega) (by omega) hb1
      · rw [hk, L_X3_endPlainly_j_1, if_neg n20, if_neg z0]
        simp only [c2]
        rw [L_X3_endPlainly_j_1, if_neg n21, if_pos z1]
      · rw [hk, PL_X3_endPlainly_j_1]
        refine fun _ _ => ⟨c1, fun r4 e4 => ?_⟩
        have e5 : _ = r4 := c2.symm.trans e4
        subst e5
        rw [PL_X3_endPlainly_j_1]
        exact fun _ z => absurd z1 z
      · rw [hk, DL_X3_endPlainly_j_1, if_neg n20, if_neg z0]
        simp only [c2]
        rw [DL_X3_endPlainly_j_1, if_neg n21, if_pos z1, Nat.add_zero]
        exact c5
      · rw [hk, L_X11_close_j_3, if_neg z0]
        simp only [m2]
        rw [L_X11_close_j_3, if_pos z1]
      · rw [hk, PL_X11_close_j_3]
        refine fun _ => ⟨m1, fun r5 e5 => ?_⟩
        have e6 : _ = r5 := m2.symm.trans e5
        subst e6
        rw [PL_X11_close_j_3]
        exact fun z => absurd z1 z
    · have z1 : ¬ nI (12 - room) - nI (pRm st n b low room) ≤ (0 : Int32) := by rw [pk_sub (by omega)]; exact nI_nle (by omega) (by omega)
      obtain ⟨d1, bn2, f2, d2, d3, d4, d5⟩ := push_c (st := st) (low := pLow st n b low room) (room := pRm st n b low room) c3 (by omega) (by omega) hb1 (by omega) (by omega)
      obtain ⟨q1, mf2, q2, q3, q4⟩ := push_m (st := st) (low := pLow st n b low room) (room := pRm st n b low room) m4 (by omega) (by omega) hb1 (by omega) (by omega)
      rw [← m3] at q2
      have hr2 := pRm_in st (n + 1) (pBy st n b low room) (pLow st n b low room) (pRm st n b low room)
      have hb2 := pBy_lt (st := st) (low := pLow st n b low room) (room := pRm st n b low room) hb1
      have z2 : nI (12 - room) - nI (pRm st n b low room) - nI (pRm st (n + 1) (pBy st n b low room) (pLow st n b low room) (pRm st n b low room)) ≤ (0 : Int32) := by
        rw [pk_sub (by omega)]; exact sub_le0 (by omega) (by omega) (by omega)
      refine fin (n' := n + 2) (b' := pBy st (n + 1) (pBy st n b low room) (pLow st n b low room) (pRm st n b low room)) (bn' := bn2) (f' := f2) (i1 := nI (12 - room) - nI (pRm st n b low room) - nI (pRm st (n + 1) (pBy st n b low room) (pLow st n b low room) (pRm st n b low room))) (i2 := 0 + 1 + 1) (lw := nI (pLow st (n + 1) (pBy st n b low room) (pLow st n b low room) (pRm st n b low room))) (rm := nI (pRm st (n + 1) (pBy st n b low room) (pLow st n b low room) (pRm st n b low room))) (i3 := nI (12 - room) - nI (pRm st n b low room) - nI (pRm st (n + 1) (pBy st n b low room) (pLow st n b low room) (pRm st n b low room))) (ml := nI (pLow st (n + 1) (pBy st n b low room) (pLow st n b low room) (pRm st n b low room))) (mc := bI (rCar st (n + 1 + 1) (pBy st (n + 1) (pBy st n b low room) (pLow st n b low room) (pRm st n b low room)) (pLow st (n + 1) (pBy st n b low room) (pLow st n b low room) (pRm st n b low room)) (pRm st (n + 1) (pBy st n b low room) (pLow st n b low room) (pRm st n b low room)))) (mr := nI (pRm st (n + 1) (pBy st n b low room) (pLow st n b low room) (pRm st n b low room))) (mf' := mf2) ?_ ?_ ?_ ?_ ?_ d3 (Nat.le_trans c4 d4) q4 (by omega) (by omega) hb2
      · rw [hk, L_X3_endPlainly_j_1, if_neg n20, if_neg z0]
        simp only [c2]
        rw [L_X3_endPlainly_j_1, if_neg n21, if_neg z1]
        simp only [d2]
        rw [L_X3_endPlainly_j_1, if_pos n22]
      · rw [hk, PL_X3_endPlainly_j_1]
        refine fun _ _ => ⟨c1, fun r4 e4 => ?_⟩
        have e5 : _ = r4 := c2.symm.trans e4
        subst e5
        rw [PL_X3_endPlainly_j_1]
        refine fun _ _ => ⟨d1, fun r5 e6 => ?_⟩
        have e7 : _ = r5 := d2.symm.trans e6
        subst e7
        rw [PL_X3_endPlainly_j_1]
        exact fun z => absurd n22 z
      · rw [hk, DL_X3_endPlainly_j_1, if_neg n20, if_neg z0]
        simp only [c2]
        rw [DL_X3_endPlainly_j_1, if_neg n21, if_neg z1]
        simp only [d2]
        rw [DL_X3_endPlainly_j_1, if_pos n22, Nat.add_zero]
        exact addC c5 d5
      · rw [hk, L_X11_close_j_3, if_neg z0]
        simp only [m2]
        rw [L_X11_close_j_3, if_neg z1]
        simp only [q2]
        rw [L_X11_close_j_3, if_pos z2]
      · rw [hk, PL_X11_close_j_3]
        refine fun _ => ⟨m1, fun r5 e5 => ?_⟩
        have e6 : _ = r5 := m2.symm.trans e5
        subst e6
        rw [PL_X11_close_j_3]
        refine fun _ => ⟨q1, fun r6 e7 => ?_⟩
        have e8 : _ = r6 := q2.symm.trans e7
        subst e8
        rw [PL_X11_close_j_3]
        exact fun z => absurd z2 z
theorem x8_next {bit free : Nat} (h : wOk st free n b) (hbit : bit < 2) (hr : rOk n bn f b) (hn : n < 65536) : P_X8_next (nI n) (nI st) bn f (nI free) ∧ ∃ (bn' : Nat) (f' : Nat → Int32), F_X8_next (nI bit) (nI n) (nI st) bn f (nI free) = (nI bit, nI (wN free n), bn', f', nI (wFr st free n b - 1)) ∧ rOk (wN free n) bn' f' (wB st bit free n b) ∧ bn ≤ bn' ∧ D_X8_next (nI n) (nI st) bn f (nI free) + 3 * bn ≤ 3 * bn' := by
  obtain ⟨a1, bn', f', a2, a3, a4, a5⟩ := n8_next (fun _ => 0) (fun _ => 0) 0 0 0 0 0 0 0 0 0 0 h hbit hr hn
  refine ⟨a1, bn', f', ?_, a3, a4, a5⟩
  have e : F_X8_next (nI bit) (nI n) (nI st) bn f (nI free) = ((F_N8 (nI bit) (nI n) (nI st) bn f (fun _ => 0) (fun _ => 0) 0 0 0 (nI free) 0 0 0 0 0 0 0).1, (F_N8 (nI bit) (nI n) (nI st) bn f (fun _ => 0) (fun _ => 0) 0 0 0 (nI free) 0 0 0 0 0 0 0).2.1, (F_N8 (nI bit) (nI n) (nI st) bn f (fun _ => 0) (fun _ => 0) 0 0 0 (nI free) 0 0 0 0 0 0 0).2.2.1, (F_N8 (nI bit) (nI n) (nI st) bn f (fun _ => 0) (fun _ => 0) 0 0 0 (nI free) 0 0 0 0 0 0 0).2.2.2.1, (F_N8 (nI bit) (nI n) (nI st) bn f (fun _ => 0) (fun _ => 0) 0 0 0 (nI free) 0 0 0 0 0 0 0).2.2.2.2.2.2.2.2.2.1) := rfl
  rw [e, a2]
theorem one_sub' {x : Nat} (h : x < 2) : (1 : Int32) - nI x = nI (1 - x) := one_sub h
theorem par : ∀ i, i < 8 → nI i &&& (1 : Int32) = nI (i % 2) := by decide +kernel
end
theorem raw_loop {st : Nat} : ∀ (k i fuel fuel' n bn : Nat) (f mf : Nat → Int32) (b : Nat → Nat), i + k ≤ 8 → k < fuel → k < fuel' → wOk st k n b → rOk n bn f b → cEq n mf b → n < 65536 →
    PL_X8_end_j_1 (nI st) fuel (nI i) (nI n) bn f (nI k) ∧ PL_X11_close_j_16 (nI st) 65536 fuel' (nI (i % 2)) (nI n) (nI k) mf ∧ ∃ (b' : Nat → Nat) (bn' : Nat) (f' mf' : Nat → Int32) (i1 i2 : Int32), L_X8_end_j_1 (nI st) fuel (nI i) (nI n) bn f (nI k) = (i1, nI n, bn', f', nI 0) ∧ DL_X8_end_j_1 (nI st) fuel (nI i) (nI n) bn f (nI k) + 3 * bn ≤ 3 * bn' ∧ L_X11_close_j_16 (nI st) fuel' (nI (i % 2)) (nI n) (nI k) mf = (i2, nI n, nI 0, mf') ∧ rOk n bn' f' b' ∧ bn ≤ bn' ∧ cEq n mf' b' ∧ ∀ j, j < n → b' j < 256 := by
  intro k
  induction k with
  | zero =>
    intro i fuel fuel' n bn f mf b h1 h2 h3 h4 h5 h6 h7
    obtain ⟨m, rfl⟩ : ∃ m, fuel = m + 1 := ⟨fuel - 1, by omega⟩
    obtain ⟨m', rfl⟩ : ∃ m, fuel' = m + 1 := ⟨fuel' - 1, by omega⟩
    have z0 : nI 0 ≤ (0 : Int32) := by decide
    refine ⟨by rw [PL_X8_end_j_1]; exact fun _ z => absurd z0 z, by rw [PL_X11_close_j_16]; exact fun z => absurd z0 z, b, bn, f, mf, nI i, nI (i % 2), ?_, ?_, by rw [L_X11_close_j_16, if_pos z0], h5, Nat.le_refl _, h6, h4.2.2.2⟩
    · rw [L_X8_end_j_1, if_pos z0]; split <;> rfl
    · rw [DL_X8_end_j_1, if_pos z0]; split <;> omega
  | succ k ih =>
    intro i fuel fuel' n bn f mf b h1 h2 h3 h4 h5 h6 h7
    obtain ⟨m, rfl⟩ : ∃ m, fuel = m + 1 := ⟨fuel - 1, by omega⟩
    obtain ⟨m', rfl⟩ : ∃ m, fuel' = m + 1 := ⟨fuel' - 1, by omega⟩
    have z0 : ¬ nI (k + 1) ≤ (0 : Int32) := nI_nle (by omega) (by omega)
    have z8 : ¬ (8 : Int32) ≤ nI i := nI_ge (b := 8) (by omega) (by omega)
    have hp := par i (by omega)
    have hbit : i % 2 < 2 := by omega
    obtain ⟨a1, bn1, f1, a2, a3, a4, a5⟩ := x8_next (bit := i % 2) h4 hbit h5 (by omega)
    obtain ⟨b1, mf1, b2, b3⟩ := x11_wr (bit := i % 2) h4 hbit h6 h7
    obtain ⟨w1, w2, w3, w4, w5, w6, w7, w8, w9⟩ := w_inv (bit := i % 2) h4 hbit
    have hN : wN (k + 1) n = n := if_neg (by omega)
    have hF : wFr st (k + 1) n b = k + 1 := if_neg (by omega)
    rw [hN, hF, Nat.add_sub_cancel] at a2 b2 w7
    rw [hN] at a3 b3
    obtain ⟨t1, t2, b', bn', f', mf', i1, i2, t3, t4, t5, t6, t7, t8, t9⟩ := ih (i + 1) m m' n bn1 f1 mf1 _ (by omega) (by omega) (by omega) w7 a3 b3 h7
    rw [nI_succ] at t1 t3 t4
    have hpar : (1 : Int32) - nI (i % 2) = nI ((i + 1) % 2) := by rw [one_sub hbit]; congr 1; omega
    refine ⟨?_, ?_, b', bn', f', mf', i1, i2, ?_, ?_, ?_, t6, Nat.le_trans a4 t7, t8, t9⟩
    · rw [PL_X8_end_j_1, hp]
      refine fun _ _ => ⟨a1, fun r4 e4 => ?_⟩
      have e5 : _ = r4 := a2.symm.trans e4
      subst e5
      exact t1
    · rw [PL_X11_close_j_16, hpar]
      refine fun _ => ⟨b1, fun r5 e5 => ?_⟩
      have e6 : _ = r5 := b2.symm.trans e5
      subst e6
      exact t2
    · rw [L_X8_end_j_1, if_neg z8, if_neg z0, hp]
      simp only [a2]
      exact t3
    · rw [DL_X8_end_j_1, if_neg z8, if_neg z0, hp]
      simp only [a2]
      exact addC a5 t4
    · rw [L_X11_close_j_16, if_neg z0, hpar]
      simp only [b2]
      exact t5
theorem end_raw {st n bn free : Nat} {f mf : Nat → Int32} {b : Nat → Nat} {sty low sz room mlow mcar msp : Int32} (h : rOk n bn f b) (hm : cEq n mf b) (hn : n < 65536) (hw : wOk st free n b) :
    PJ_X10_endWriting_j_10 1 (nI n) (nI st) bn f low sz room (nI free) sty ∧ P_X11_close sty 1 (nI n) (nI st) mlow mcar msp (nI free) 65536 mf ∧
    EndOk bn st (J_X10_endWriting_j_10 1 (nI n) (nI st) bn f low sz room (nI free) sty) (DJ_X10_endWriting_j_10 1 (nI n) (nI st) bn f low sz room (nI free) sty) (F_X11_close sty 1 (nI n) (nI st) mlow mcar msp (nI free) mf) n := by
  have hfu := fu_ge
  have n10 : ¬ (1 : Int32) = 0 := by decide
  obtain ⟨t1, t2, b', bn', f', mf', i1, i2, t3, t4, t5, t6, t7, t8, t9⟩ := raw_loop (st := st) free 0 fu fu n bn f mf b (by have := hw.2.1; omega) (by have := hw.2.1; omega) (by have := hw.2.1; omega) hw h hm hn
  rw [nI_0] at t1 t3 t4
  have e0 : nI (0 % 2) = (0 : Int32) := rfl
  rw [e0] at t2 t5
  obtain ⟨g1, g2⟩ := drop_m (st := st) t8 (by omega) hw.1 t9
  refine ⟨⟨fun z => absurd z n10, fun _ => t1⟩, ⟨fun z => absurd z n10, fun _ => ⟨t2, fun j e => ?_⟩⟩, n, b', bn', f', low, room, nI 0, mlow, mcar, nI 0, mf', ?_, ?_, t6, t7, ?_, t8, hw.1, by omega, t9⟩
  · rw [t5] at e
    subst e
    exact g1
  · have hF : F_X8_end (nI n) (nI st) bn f (nI free) = (nI n, bn', f', nI 0) := by
      show ((L_X8_end_j_1 (nI st) fu 0 (nI n) bn f (nI free)).2.1, (L_X8_end_j_1 (nI st) fu 0 (nI n) bn f (nI free)).2.2.1, (L_X8_end_j_1 (nI st) fu 0 (nI n) bn f (nI free)).2.2.2.1, (L_X8_end_j_1 (nI st) fu 0 (nI n) bn f (nI free)).2.2.2.2) = _
      rw [t3]
      rfl
    unfold J_X10_endWriting_j_10
    rw [if_neg n10, hF]
  · unfold DJ_X10_endWriting_j_10
    rw [if_neg n10]
    unfold D_X8_end
    simp only [Nat.add_zero]
    exact t4
  · unfold F_X11_close
    rw [if_neg n10]
    simp only [t5, g2]
    exact drop_if hw.1 (fun z => (z, mlow, mcar, nI 0, mf'))
