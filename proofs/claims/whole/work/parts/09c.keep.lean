/-! ===== PURE: the reference's carry ===== -/
theorem one_shl : ∀ r, r < 13 → ((1 : Int32) <<< (((27 : Int32) - nI r) &&& 31)) = nI (2 ^ (27 - r)) := by decide +kernel
theorem carry_ok (x : Bool) {room : Nat} (h : room ≤ 12) : F_X11_carry (bI x) (nI room) = nI (if x then 2 ^ (27 - room) else 0) := by
  unfold F_X11_carry
  cases x with
  | true => rw [bI_t rfl, if_neg (by decide), one_shl _ (by omega), if_pos rfl]
  | false => rw [bI_f rfl, if_pos rfl, if_neg (by decide)]; rfl
theorem rLow_whole (st c : Nat) (b : Nat → Nat) (low room : Nat) : rLow st c b low room + (if rCar st c b low room then 2 ^ (27 - room) else 0) = low := by
  unfold rLow
  by_cases e : rCar st c b low room = true
  · have h2 : 2 ^ (27 - room) ≤ low := by
      unfold rCar at e
      simp at e
      exact e.2
    rw [if_pos e, if_pos e]; omega
  · rw [if_neg e, if_neg e]; omega
theorem keep_ok {st c w room : Nat} {f : Nat → Int32} {b : Nat → Nat} (hr : room ≤ 12) (hw : w < 2 ^ 31) (hc : c < 65536) (hs : st ≤ c) (h : cEq c f b) (hb : ∀ j, j < c → b j < 256) : P_X11_keep (nI w) (nI c) (nI st) (nI room) 65536 f ∧ F_X11_keep (nI w) (nI c) (nI st) (nI room) f = (nI (rLow st c b w room), bI (rCar st c b w room)) := by
  have hpw : 2 ^ (27 - room) ≤ 2 ^ 27 := Nat.pow_le_pow_right (by omega) (by omega)
  have hj : J_X11_keep_j_5 (nI w) (nI c) (nI st) (nI room) f = bI (rCar st c b w room) := by
    unfold J_X11_keep_j_5
    rw [one_shl _ (by omega)]
    by_cases e : c ≤ st
    · rw [if_pos (nI_le e (by omega)), bI_f (by unfold rCar; rw [decide_eq_false (by omega)]; rfl)]
    · have hb1 := hb (c - 1) (by omega)
      rw [if_neg (nI_ge (by omega) (by omega)), pred_ok (by omega), nI_clamp (by omega), h _ (by omega)]
      by_cases e2 : b (c - 1) = 255
      · have q : (255 : Int32) ≤ nI (b (c - 1)) := nI_le (a := 255) (by omega) (by omega)
        rw [if_pos q, bI_f (by unfold rCar; simp [e2])]
      · have q : ¬ (255 : Int32) ≤ nI (b (c - 1)) := nI_ge (b := 255) (by omega) (by omega)
        rw [if_neg q]
        by_cases e3 : w < 2 ^ (27 - room)
        · rw [if_pos (nI_lt e3 (by omega)), bI_f (by unfold rCar; rw [decide_eq_false (p := 2 ^ (27 - room) ≤ w) (by omega)]; simp)]
        · rw [if_neg (nI_nlt (by omega) hw), bI_t (by unfold rCar; rw [decide_eq_true (p := st < c) (by omega), decide_eq_true (p := b (c - 1) ≠ 255) e2, decide_eq_true (p := 2 ^ (27 - room) ≤ w) (by omega)]; rfl)]
  refine ⟨⟨?_, fun j e => ?_⟩, ?_⟩
  · exact (plast_ok (c := c) (st := st) (n := 65536) (by omega) (by decide) (by omega)).1
  · rw [← e, hj]
    cases rCar st c b w room with
    | true => exact Or.inr rfl
    | false => exact Or.inl rfl
  · unfold F_X11_keep
    simp only [hj, carry_ok _ hr]
    have hwh := rLow_whole st c b w room
    rw [pk_sub (by omega)]
    congr 2
    omega
