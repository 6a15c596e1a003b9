/-! ===== PURE: the three ways a segment ends, both sides ===== -/
theorem pBy_lt {st n low room : Nat} {b : Nat → Nat} (hb : ∀ j, j < n → b j < 256) : ∀ j, j < n + 1 → pBy st n b low room j < 256 := oBy_lt hb
/-- what an end leaves: n bytes b in both rows, before a last 255 goes -/
def EndOk (bn st : Nat) (j10 : (Int32 × Nat × (Nat → Int32) × Int32 × Int32 × Int32)) (dj : Nat) (cl : (Int32 × Int32 × Int32 × Int32 × (Nat → Int32))) (n : Nat) : Prop :=
  ∃ (n' : Nat) (b' : Nat → Nat) (bn' : Nat) (f' : Nat → Int32) (lw rm fr ml mc mr : Int32) (mf' : Nat → Int32), j10 = (nI n', bn', f', lw, rm, fr) ∧ dj + 3 * bn ≤ 3 * bn' ∧ rOk n' bn' f' b' ∧ bn ≤ bn' ∧ cl = (nI (dN st n' b'), ml, mc, mr, mf') ∧ cEq n' mf' b' ∧ st ≤ n' ∧ n' ≤ n + 2 ∧ ∀ j, j < n' → b' j < 256
theorem has16 (sty : Int32) : F_X10_has (16 : Int32) sty = (0 : Int32) ↔ (sty &&& (16 : Int32)) = (0 : Int32) := by
  unfold F_X10_has
  by_cases c : (sty &&& (16 : Int32)) = (0 : Int32)
  · rw [if_pos c]; exact ⟨fun _ => c, fun _ => rfl⟩
  · rw [if_neg c]; exact ⟨fun z => absurd z (by decide), fun z => absurd z c⟩
section
variable {st n bn low sz room : Nat} {f mf : Nat → Int32} {b : Nat → Nat} {sty : Int32}
theorem end_two (free : Int32) (h : rOk n bn f b) (hm : cEq n mf b) (hn : n + 2 < 65536) (hs : st ≤ n) (hb : ∀ j, j < n → b j < 256) (hi : (low + sz) * 2 ^ room ≤ 150994944) (h1 : 32768 ≤ sz) (h2 : sz < 65536) (h3 : 1 ≤ room) (h4 : room ≤ 12) (hp : (sty &&& (16 : Int32)) = (0 : Int32)) :
    PJ_X10_endWriting_j_10 0 (nI n) (nI st) bn f (nI low) (nI sz) (nI room) free sty ∧ P_X11_close sty 0 (nI n) (nI st) (nI (rLow st n b low room)) (bI (rCar st n b low room)) (nI sz) (nI room) 65536 mf ∧
    EndOk bn st (J_X10_endWriting_j_10 0 (nI n) (nI st) bn f (nI low) (nI sz) (nI room) free sty) (DJ_X10_endWriting_j_10 0 (nI n) (nI st) bn f (nI low) (nI sz) (nI room) free sty) (F_X11_close sty 0 (nI n) (nI st) (nI (rLow st n b low room)) (bI (rCar st n b low room)) (nI sz) (nI room) mf) n := by
  have hfu := fu_ge
  obtain ⟨k, hk⟩ : ∃ k, fu = k + 3 := ⟨fu - 3, by omega⟩
  have hpos := Nat.two_pow_pos room
  have hlw : low + sz ≤ 150994944 := Nat.le_trans (Nat.le_mul_of_pos_right _ hpos) hi
  have hel := eLow_lt (low := low) h1
  have hw : eLow low sz * 2 ^ room < 2 ^ 31 := Nat.lt_of_le_of_lt (Nat.le_trans (Nat.mul_le_mul_right _ (Nat.le_of_lt hel)) hi) (by omega)
  have hh0 : F_X10_has (16 : Int32) sty = 0 := (has16 sty).mpr hp
  have hj2 := end_c (low := low) (sz := sz) (by omega) h2
  have hj10 : J_X11_close_j_10 (nI (rLow st n b low room)) (nI sz) (F_X11_carry (bI (rCar st n b low room)) (nI room)) = nI (eLow low sz) := end_m (by omega) h2 (by rw [carry_ok _ h4, nI_add, rLow_whole])
  obtain ⟨kp, kf⟩ := keep_ok (st := st) (c := n) (w := eLow low sz) (room := room) (f := mf) (b := b) h4 (by omega) (by omega) hs hm hb
  obtain ⟨c1, bn1, f1, c2, c3, c4, c5⟩ := push_c (low := eLow low sz) h (by omega) hs hb hw h4
  obtain ⟨m1, mf1, m2, m3, m4⟩ := push_m (low := eLow low sz) hm (by omega) hs hb hw h4
  have hr1 := pRm_in st n b (eLow low sz) room
  have hl1 := pLow_lt st n b (eLow low sz) room
  have hb1 := pBy_lt (st := st) (low := eLow low sz) (room := room) hb
  obtain ⟨d1, bn2, f2, d2, d3, d4, d5⟩ := push_c (st := st) (low := pLow st n b (eLow low sz) room) (room := pRm st n b (eLow low sz) room) c3 (by omega) (by omega) hb1 (by omega) (by omega)
  obtain ⟨q1, mf2, q2, q3, q4⟩ := push_m (st := st) (low := pLow st n b (eLow low sz) room) (room := pRm st n b (eLow low sz) room) m4 (by omega) (by omega) hb1 (by omega) (by omega)
  have hb2 := pBy_lt (st := st) (low := pLow st n b (eLow low sz) room) (room := pRm st n b (eLow low sz) room) hb1
  obtain ⟨g1, g2⟩ := drop_m (st := st) q4 (by omega) (by omega) hb2
  rw [← m3] at q1 q2
  have n20 : ¬ (2 : Int32) ≤ 0 := by decide
  have n21 : ¬ (2 : Int32) ≤ 0 + 1 := by decide
  have n22 : (2 : Int32) ≤ 0 + 1 + 1 := by decide
  have hL : L_X3_end_j_3 (nI st) fu 0 (nI n) bn f (nI (eLow low sz)) (nI room) = (0 + 1 + 1, nI (n + 2), bn2, f2, nI (pLow st (n + 1) (pBy st n b (eLow low sz) room) (pLow st n b (eLow low sz) room) (pRm st n b (eLow low sz) room)), nI (pRm st (n + 1) (pBy st n b (eLow low sz) room) (pLow st n b (eLow low sz) room) (pRm st n b (eLow low sz) room))) := by
    rw [hk, L_X3_end_j_3, if_neg n20]
    simp only [c2]
    rw [L_X3_end_j_3, if_neg n21]
    simp only [d2]
    rw [L_X3_end_j_3, if_pos n22]
  have hPL : PL_X3_end_j_3 (nI st) fu 0 (nI n) bn f (nI (eLow low sz)) (nI room) := by
    rw [hk, PL_X3_end_j_3]
    refine fun _ => ⟨c1, fun r5 e5 => ?_⟩
    rw [c2] at e5
    subst e5
    rw [PL_X3_end_j_3]
    refine fun _ => ⟨d1, fun r6 e6 => ?_⟩
    have e7 : _ = r6 := d2.symm.trans e6
    subst e7
    rw [PL_X3_end_j_3]
    exact fun z => absurd n22 z
  have hDL : DL_X3_end_j_3 (nI st) fu 0 (nI n) bn f (nI (eLow low sz)) (nI room) + 3 * bn ≤ 3 * bn2 := by
    rw [hk, DL_X3_end_j_3, if_neg n20]
    simp only [c2]
    rw [DL_X3_end_j_3, if_neg n21]
    simp only [d2]
    rw [DL_X3_end_j_3, if_pos n22, Nat.add_zero]
    exact addC c5 d5
  refine ⟨⟨fun _ r2 e2 => ⟨fun _ j2 ej2 => ?_, fun z => ?_⟩, fun z => absurd rfl z⟩, ⟨fun _ => ⟨fun _ r8 e8 j10 ej => ?_, fun z => absurd hp z⟩, fun z => absurd rfl z⟩, ?_⟩
  · rw [hj2] at ej2
    subst ej2
    exact hPL
  · rw [hh0] at e2
    exact absurd e2.symm z
  · subst e8
    rw [hj10] at ej
    subst ej
    refine ⟨kp, fun r11 e11 => ?_⟩
    rw [kf] at e11
    subst e11
    refine ⟨m1, fun r12 e12 => ?_⟩
    have e13 : _ = r12 := m2.symm.trans e12
    subst e13
    refine ⟨q1, fun r13 e14 => ?_⟩
    have e15 : _ = r13 := q2.symm.trans e14
    subst e15
    exact g1
  · refine ⟨n + 2, _, bn2, f2, _, _, free, _, _, _, mf2, ?_, ?_, d3, Nat.le_trans c4 d4, ?_, q4, by omega, Nat.le_refl _, hb2⟩
    rotate_left 5
    · unfold J_X10_endWriting_j_10
      simp only [hh0, if_true]
      unfold F_X3_end
      simp only [hj2, hL]
      rfl
    · unfold DJ_X10_endWriting_j_10
      simp only [hh0, if_true, Nat.add_zero]
      unfold D_X3_end
      simp only [hj2, Nat.add_zero]
      exact hDL
    · unfold F_X11_close
      simp only [if_true, hp, hj10, kf, m2]
      simp only [q2, g2]
      exact drop_if (by omega) (fun z => (z, _, _, _, _))
end
