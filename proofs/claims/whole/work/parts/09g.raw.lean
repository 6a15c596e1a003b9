/-! ===== PURE: a raw bit is written ===== -/
def wFr (st free n : Nat) (b : Nat → Nat) : Nat := if free = 0 then (if st < n ∧ b (n - 1) = 255 then 7 else 8) else free
def wN (free n : Nat) : Nat := if free = 0 then n + 1 else n
def wB0 (free n : Nat) (b : Nat → Nat) : Nat → Nat := if free = 0 then nup b n 0 else b
def wB (st bit free n : Nat) (b : Nat → Nat) : Nat → Nat := nup (wB0 free n b) (wN free n - 1) (wB0 free n b (wN free n - 1) + bit * 2 ^ (wFr st free n b - 1))
/-- the raw writer's invariant: the places that are free in the last byte are 0 -/
def wOk (st free n : Nat) (b : Nat → Nat) : Prop := st ≤ n ∧ free ≤ 8 ∧ (0 < free → st < n ∧ b (n - 1) % 2 ^ free = 0) ∧ ∀ j, j < n → b j < 256
theorem or_add0 : ((List.range 9).all fun f => (List.range 256).all fun x => (List.range 2).all fun bit => !(Nat.blt 0 f && x % 2 ^ f == 0) || ((nI x ||| (nI bit <<< (nI (f - 1) &&& 31))) == nI (x + bit * 2 ^ (f - 1)) && ((nI bit <<< (nI (f - 1) &&& 31)) == nI (bit * 2 ^ (f - 1)) && (Nat.blt (x + bit * 2 ^ (f - 1)) 256 && (x + bit * 2 ^ (f - 1)) % 2 ^ (f - 1) == 0)))) = true := by decide +kernel
theorem or_add (f : Nat) (hf : f < 9) (x : Nat) (hx : x < 256) (bit : Nat) (hb : bit < 2) (h0 : 0 < f) (h1 : x % 2 ^ f = 0) : nI x ||| (nI bit <<< (nI (f - 1) &&& 31)) = nI (x + bit * 2 ^ (f - 1)) ∧ nI bit <<< (nI (f - 1) &&& 31) = nI (bit * 2 ^ (f - 1)) ∧ x + bit * 2 ^ (f - 1) < 256 ∧ (x + bit * 2 ^ (f - 1)) % 2 ^ (f - 1) = 0 := by
  have h := or_add0
  rw [List.all_eq_true] at h
  have h := h f (List.mem_range.mpr hf)
  rw [List.all_eq_true] at h
  have h := h x (List.mem_range.mpr hx)
  rw [List.all_eq_true] at h
  have h := h bit (List.mem_range.mpr hb)
  have e1 : Nat.blt 0 f = true := by simpa using h0
  have e2 : (x % 2 ^ f == 0) = true := by simpa using h1
  rw [e1, e2] at h
  simp only [Bool.and_eq_true, beq_iff_eq, Bool.and_self, Bool.not_true, Bool.false_or, Nat.blt_eq] at h
  exact h
theorem w_inv {st bit free n : Nat} {b : Nat → Nat} (h : wOk st free n b) (hb : bit < 2) : 1 ≤ wFr st free n b ∧ wFr st free n b ≤ 8 ∧ st < wN free n ∧ n ≤ wN free n ∧ wB0 free n b (wN free n - 1) < 256 ∧ wB0 free n b (wN free n - 1) % 2 ^ wFr st free n b = 0 ∧ wOk st (wFr st free n b - 1) (wN free n) (wB st bit free n b) ∧ (∀ j, j < st → wB st bit free n b j = b j) ∧ 75 * wN free n + 10 * free ≤ 75 * n + 10 * (wFr st free n b - 1) + 15 := by
  obtain ⟨h1, h2, h3, h4⟩ := h
  by_cases e : free = 0
  · have hn : wN free n = n + 1 := if_pos e
    have hf : wFr st free n b = 7 ∨ wFr st free n b = 8 := by unfold wFr; rw [if_pos e]; split <;> simp
    have h0 : wB0 free n b = nup b n 0 := if_pos e
    have hx : wB0 free n b (wN free n - 1) = 0 := by rw [h0, hn]; unfold nup; rw [if_pos (by omega)]
    have hi : 1 ≤ wFr st free n b ∧ wFr st free n b ≤ 8 := by omega
    obtain ⟨-, -, o3, o4⟩ := or_add (wFr st free n b) (by omega) 0 (by omega) bit hb (by omega) (by simp)
    refine ⟨hi.1, hi.2, by omega, by omega, by omega, by rw [hx]; simp, ⟨by omega, by omega, fun _ => ⟨by omega, ?_⟩, fun j hj => ?_⟩, fun j hj => ?_, by omega⟩
    · unfold wB nup
      rw [if_pos rfl, hx]
      exact o4
    · unfold wB
      rw [hx]
      unfold nup
      by_cases e2 : j = wN free n - 1
      · rw [if_pos e2]; exact o3
      · rw [if_neg e2, h0]; unfold nup; rw [if_neg (by omega)]; exact h4 j (by omega)
    · unfold wB nup
      rw [if_neg (by omega), h0]; unfold nup; rw [if_neg (by omega)]
  · have hn : wN free n = n := if_neg e
    have hf : wFr st free n b = free := if_neg e
    have h0 : wB0 free n b = b := if_neg e
    obtain ⟨h5, h6⟩ := h3 (by omega)
    have h7 := h4 (n - 1) (by omega)
    obtain ⟨-, -, o3, o4⟩ := or_add free (by omega) (b (n - 1)) h7 bit hb (by omega) h6
    rw [hn, hf, h0]
    refine ⟨by omega, h2, h5, Nat.le_refl _, h7, h6, ⟨h1, by omega, fun _ => ⟨h5, ?_⟩, fun j hj => ?_⟩, fun j hj => ?_, by omega⟩
    · unfold wB nup
      rw [hn, hf, h0, if_pos rfl]
      exact o4
    · unfold wB nup
      rw [hn, hf, h0]
      by_cases e2 : j = n - 1
      · rw [if_pos e2]; exact o3
      · rw [if_neg e2]; exact h4 j hj
    · unfold wB nup
      rw [hn, hf, h0, if_neg (by omega)]
/-- the class -/
theorem n8_next {st bit free n bn : Nat} {f : Nat → Int32} {b : Nat → Nat} (sf lf : Nat → Int32) (cl cz cm cp cw cs cr rp rc rl : Int32) (h : wOk st free n b) (hb : bit < 2) (hr : rOk n bn f b) (hn : n < 65536) :
    P_N8 (nI n) (nI st) bn f (nI free) ∧ ∃ (bn' : Nat) (f' : Nat → Int32), F_N8 (nI bit) (nI n) (nI st) bn f sf lf cl cz cm (nI free) cp cw cs cr rp rc rl = (nI bit, nI (wN free n), bn', f', sf, lf, cl, cz, cm, nI (wFr st free n b - 1), cp, cw, cs, cr, rp, rc, rl) ∧ rOk (wN free n) bn' f' (wB st bit free n b) ∧ bn ≤ bn' ∧ D_N8 (nI n) (nI st) bn f (nI free) + 3 * bn ≤ 3 * bn' := by
  obtain ⟨w1, w2, w3, w4, w5, w6, w7, -, -⟩ := w_inv h hb
  obtain ⟨h1, h2, h3, h4⟩ := id h
  obtain ⟨r1, r2, r3, r4⟩ := id hr
  obtain ⟨-, o2, o3, -⟩ := or_add (wFr st free n b) (by omega) _ w5 bit hb (by omega) w6
  have hJ : PJ_N8_j_7 (nI n) (nI st) bn f (nI free) ∧ ∃ (bn1 : Nat) (f1 : Nat → Int32), J_N8_j_7 (nI n) (nI st) bn f (nI free) = (nI (wN free n), bn1, f1, nI (wFr st free n b)) ∧ rOk (wN free n) bn1 f1 (wB0 free n b) ∧ bn ≤ bn1 ∧ DJ_N8_j_7 (nI n) (nI st) bn f (nI free) + 3 * bn ≤ 3 * bn1 := by
    unfold PJ_N8_j_7 J_N8_j_7 DJ_N8_j_7
    by_cases e : free = 0
    · have e0 : nI free = (0 : Int32) := by rw [e]; rfl
      obtain ⟨a1, a2, a3, a4, a5⟩ := append_ok (x := 0) hr hn
      rw [nI_0] at a2 a3 a4 a5
      have hn1 : wN free n = n + 1 := if_pos e
      have h01 : wB0 free n b = nup b n 0 := if_pos e
      refine ⟨fun _ => ⟨(plast_ok (c := n) (st := st) r1 (by omega) (by omega)).1, fun _ _ _ _ => a1⟩, (F_X1_append 0 (nI n) bn f).2.1, (F_X1_append 0 (nI n) bn f).2.2, ?_, ?_, a4, ?_⟩
      · rw [if_pos e0]
        show (_, _, _, J_N8_j_4 (F_X1_last (nI n) (nI st) f)) = _
        rw [a2, hn1, last_ok (by omega) (by omega) r4]
        have : J_N8_j_4 (if n ≤ st then (-1 : Int32) else nI (b (n - 1))) = nI (wFr st free n b) := by
          unfold J_N8_j_4 wFr
          rw [if_pos e]
          by_cases e2 : n ≤ st
          · rw [if_pos e2, if_neg (by decide), if_neg (by omega)]; rfl
          · have := h4 (n - 1) (by omega)
            rw [if_neg e2]
            by_cases e3 : b (n - 1) = 255
            · have e255 : nI (b (n - 1)) = (255 : Int32) := by rw [e3]; rfl
              rw [if_pos e255, if_pos ⟨by omega, e3⟩]; rfl
            · have e255 : ¬ nI (b (n - 1)) = (255 : Int32) := fun x => e3 ((nI_eq (b := 255) (by omega) (by omega)).mp x)
              rw [if_neg e255, if_neg (fun x => e3 x.2)]; rfl
        rw [this]
      · rw [hn1, h01]; exact a3
      · rw [if_pos e0]
        exact a5
    · have e0 : ¬ nI free = (0 : Int32) := nI_ne0 (by omega) (by omega)
      have hn1 : wN free n = n := if_neg e
      have h01 : wB0 free n b = b := if_neg e
      have hf1 : wFr st free n b = free := if_neg e
      rw [if_neg e0, if_neg e0, hn1, h01, hf1]
      exact ⟨fun x => absurd x e0, bn, f, rfl, hr, Nat.le_refl _, by omega⟩
  obtain ⟨j1, bn1, f1, j2, j3, j4, j5⟩ := hJ
  obtain ⟨s1, s2, s3, s4⟩ := id j3
  have hadd : F_X1_addToLast (nI (bit * 2 ^ (wFr st free n b - 1))) (nI (wN free n)) (nI st) f1 = upd f1 (wN free n - 1) (nI (wB0 free n b (wN free n - 1) + bit * 2 ^ (wFr st free n b - 1))) := by
    unfold F_X1_addToLast
    rw [if_neg (nI_ge w3 (by omega)), pred_ok (by omega), nI_clamp (by omega), s4 _ (by omega), nI_add]
  refine ⟨⟨j1, fun j ej => ?_⟩, bn1, upd f1 (wN free n - 1) (nI (wB0 free n b (wN free n - 1) + bit * 2 ^ (wFr st free n b - 1))), ?_, ⟨s1, s2, s3, cEq_up s4 _ _⟩, j4, ?_⟩
  · rw [← ej, j2]
    exact (plast_ok (c := wN free n) (st := st) s1 (by omega) (by omega)).2
  · unfold F_N8
    rw [j2]
    simp only [pred_ok w1, o2, hadd]
  · unfold D_N8
    simp only [Nat.add_zero]
    exact j5
/-- the reference -/
theorem x11_wr {st bit free n : Nat} {f : Nat → Int32} {b : Nat → Nat} (h : wOk st free n b) (hb : bit < 2) (hr : cEq n f b) (hn : n < 65536) :
    P_X11_writeRaw (nI n) (nI st) (nI free) 65536 f ∧ ∃ f' : Nat → Int32, F_X11_writeRaw (nI bit) (nI n) (nI st) (nI free) f = (nI (wN free n), nI (wFr st free n b - 1), f') ∧ cEq (wN free n) f' (wB st bit free n b) := by
  obtain ⟨w1, w2, w3, w4, w5, w6, w7, -, -⟩ := w_inv h hb
  obtain ⟨h1, h2, h3, h4⟩ := id h
  obtain ⟨o1, -, o3, -⟩ := or_add (wFr st free n b) (by omega) _ w5 bit hb (by omega) w6
  have hN : wN free n ≤ 65536 := by unfold wN; split <;> omega
  have hJ : PJ_X11_writeRaw_j_6 (nI n) (nI st) (nI free) 65536 f ∧ ∃ (f1 : Nat → Int32), J_X11_writeRaw_j_6 (nI n) (nI st) (nI free) f = (nI (wN free n), nI (wFr st free n b), f1) ∧ cEq (wN free n) f1 (wB0 free n b) := by
    unfold PJ_X11_writeRaw_j_6 J_X11_writeRaw_j_6
    by_cases e : free = 0
    · have e0 : nI free = (0 : Int32) := by rw [e]; rfl
      have hn1 : wN free n = n + 1 := if_pos e
      have h01 : wB0 free n b = nup b n 0 := if_pos e
      refine ⟨fun _ => ⟨pfull_ok (by omega) (by decide) (by omega), fun _ _ _ _ => vp_in_nI hn (by decide)⟩, upd f n (nI 0), ?_, ?_⟩
      · rw [if_pos e0]
        show (_, J_X11_writeRaw_j_4 (F_X11_lastIsFull (nI n) (nI st) f), _) = _
        rw [full_ok (by omega) (by omega) hr (fun hlt => by have := h4 (n - 1) (by omega); omega), nI_clamp (by omega), hn1, nI_succ]
        have : J_X11_writeRaw_j_4 (bI (decide (st < n ∧ b (n - 1) = 255))) = nI (wFr st free n b) := by
          unfold J_X11_writeRaw_j_4 wFr
          rw [if_pos e]
          by_cases e2 : st < n ∧ b (n - 1) = 255
          · rw [bI_t (decide_eq_true e2), if_neg (by decide), if_pos e2]; rfl
          · rw [bI_f (decide_eq_false e2), if_pos rfl, if_neg e2]; rfl
        rw [this]
        rfl
      · rw [hn1, h01]
        intro j hj
        unfold upd nup
        by_cases e2 : j = n
        · rw [if_pos e2, if_pos e2]
        · rw [if_neg e2, if_neg e2]; exact hr j (by omega)
    · have e0 : ¬ nI free = (0 : Int32) := nI_ne0 (by omega) (by omega)
      have hn1 : wN free n = n := if_neg e
      have h01 : wB0 free n b = b := if_neg e
      have hf1 : wFr st free n b = free := if_neg e
      rw [if_neg e0, hn1, h01, hf1]
      exact ⟨fun x => absurd x e0, f, rfl, hr⟩
  obtain ⟨j1, f1, j2, j3⟩ := hJ
  refine ⟨⟨j1, fun j ej => ?_⟩, upd f1 (wN free n - 1) (nI (wB0 free n b (wN free n - 1) + bit * 2 ^ (wFr st free n b - 1))), ?_, cEq_up j3 _ _⟩
  · rw [← ej, j2]
    show vp_in (nI (wN free n) - 1) 65536
    rw [pred_ok (by omega)]
    exact vp_in_nI (by omega) (by decide)
  · unfold F_X11_writeRaw
    rw [j2]
    simp only [pred_ok w1, pred_ok (show 1 ≤ wN free n by omega), nI_clamp (show wN free n - 1 < 2 ^ 31 by omega), j3 _ (show wN free n - 1 < wN free n by omega), o1]
