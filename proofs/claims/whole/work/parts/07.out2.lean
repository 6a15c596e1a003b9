/-! ===== PURE: a byte goes out, the reference ===== -/
def bI (x : Bool) : Int32 := if x then 1 else 0
theorem bI_t {x : Bool} (h : x = true) : bI x = 1 := if_pos h
theorem bI_f {x : Bool} (h : x = false) : bI x = 0 := if_neg (by rw [h]; decide)
theorem oCar_t {st c : Nat} {b : Nat → Nat} {low : Nat} (h : oCar st c b low = true) : st < c ∧ b (c - 1) ≠ 255 ∧ 134217728 ≤ low := by
  unfold oCar at h
  simp at h
  exact ⟨h.1.1, h.1.2, h.2⟩
theorem full_ok {c st : Nat} {f : Nat → Int32} {b : Nat → Nat} (hc : c < 2 ^ 31) (hs : st < 2 ^ 31) (h : cEq c f b) (hb : st < c → b (c - 1) < 2 ^ 31) : F_X11_lastIsFull (nI c) (nI st) f = bI (decide (st < c ∧ b (c - 1) = 255)) := by
  unfold F_X11_lastIsFull
  by_cases e : c ≤ st
  · rw [if_pos (nI_le e hs), bI_f (decide_eq_false (by omega))]
  · rw [if_neg (nI_ge (by omega) hc), pred_ok (by omega), nI_clamp (by omega), h _ (by omega)]
    by_cases e2 : b (c - 1) = 255
    · have e255 : nI (b (c - 1)) = (255 : Int32) := by rw [e2]; rfl
      rw [if_pos e255, bI_t (decide_eq_true ⟨by omega, e2⟩)]
    · have e255 : ¬ nI (b (c - 1)) = (255 : Int32) := fun x => e2 ((nI_eq (b := 255) (hb (by omega)) (by omega)).mp x)
      rw [if_neg e255, bI_f (decide_eq_false (fun x => e2 x.2))]
theorem pfull_ok {c st n : Nat} (hc : c ≤ n) (hn : n < 2 ^ 31) (hs : st < 2 ^ 31) : P_X11_lastIsFull (nI c) (nI st) n := (plast_ok hc hn hs).1
theorem x11_out {c st low : Nat} {f : Nat → Int32} {b : Nat → Nat} (h : cEq c f b) (hc : c < 65536) (hs : st ≤ c) (hb : ∀ j, j < c → b j < 256) (hl : low < 2 ^ 31) : P_X11_byteOut (nI c) (nI st) (bI (oCar st c b low)) 65536 f ∧ ∃ f' : Nat → Int32, F_X11_byteOut (nI c) (nI st) (nI (oLow st c b low)) (bI (oCar st c b low)) f = (nI (c + 1), nI (oLow' st c b low), 0, nI (27 - oSh st c b low), f') ∧ cEq (c + 1) f' (oBy' st c b low) := by
  have hcb : c < 2 ^ 31 := by omega
  have hsb : st < 2 ^ 31 := by omega
  have hJ : ∃ f1 : Nat → Int32, J_X11_byteOut_j_4 (nI c) (bI (oCar st c b low)) f = f1 ∧ cEq c f1 (oBy st c b low) := by
    unfold J_X11_byteOut_j_4
    by_cases e : oCar st c b low = true
    · obtain ⟨e1, e2, e3⟩ := oCar_t e
      rw [bI_t e, if_neg (by decide), oBy_t e, pred_ok (by omega), nI_clamp (by omega), h _ (by omega), ← nI_succ]
      exact ⟨_, rfl, cEq_up h _ _⟩
    · have e : oCar st c b low = false := by simpa using e
      rw [bI_f e, if_pos rfl, oBy_f e]
      exact ⟨f, rfl, h⟩
  obtain ⟨f1, hJ1, hr⟩ := hJ
  have hb2 : st < c → oBy st c b low (c - 1) < 2 ^ 31 := by
    intro hlt
    have hb1 := hb (c - 1) (by omega)
    unfold oBy nup
    split
    · simp; omega
    · omega
  have hfull := full_ok hcb hsb hr hb2
  have hj7 : J_X11_byteOut_j_7 (bI (decide (st < c ∧ oBy st c b low (c - 1) = 255))) = nI (27 - oSh st c b low) := by
    unfold J_X11_byteOut_j_7 oSh
    by_cases e : st < c ∧ oBy st c b low (c - 1) = 255
    · rw [bI_t (decide_eq_true e), if_neg (by decide), if_pos e]; rfl
    · rw [bI_f (decide_eq_false e), if_pos rfl, if_neg e]; rfl
  have hsh : oSh st c b low = 19 ∨ oSh st c b low = 20 := by unfold oSh; split <;> simp
  have hlo : oLow st c b low < 2 ^ 31 := by
    by_cases e : oCar st c b low = true
    · rw [oLow_t e]; omega
    · rw [oLow_f (by simpa using e)]; exact hl
  have h27 : (27 : Int32) - nI (27 - oSh st c b low) = nI (oSh st c b low) := by
    rcases hsh with e | e <;> rw [e] <;> rfl
  obtain ⟨g1, g2, g3⟩ := sh_ok _ hsh hlo
  refine ⟨?_, upd f1 c (nI (oLow st c b low / 2 ^ oSh st c b low % 256)), ?_, ?_⟩
  · refine ⟨fun e => ?_, fun j e => ⟨pfull_ok (by omega) (by decide) hsb, fun r e2 j' e3 => vp_in_nI hc (by decide)⟩⟩
    by_cases e2 : oCar st c b low = true
    · obtain ⟨e1, -, -⟩ := oCar_t e2
      rw [pred_ok (by omega)]
      exact vp_in_nI (by omega) (by decide)
    · exact absurd (bI_f (by simpa using e2)) e
  · unfold F_X11_byteOut
    simp only [hJ1, hfull, hj7, h27, g1, g2, nI_clamp hcb]
    rw [nI_succ]
    rfl
  · intro j hj
    unfold oBy' upd nup
    by_cases e : j = c
    · rw [if_pos e, if_pos e]
    · rw [if_neg e, if_neg e]; exact hr j (by omega)
