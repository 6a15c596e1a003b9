/-! ===== PURE: a byte goes out, class and reference ===== -/
/-- is there a carry into the last byte; low and bytes behind it; the shift; what a byte that goes out leaves: low, room, bytes (one more) -/
def oCar (st c : Nat) (b : Nat → Nat) (low : Nat) : Bool := decide (st < c) && decide (b (c - 1) ≠ 255) && decide (134217728 ≤ low)
def oLow (st c : Nat) (b : Nat → Nat) (low : Nat) : Nat := if oCar st c b low then low - 134217728 else low
def oBy (st c : Nat) (b : Nat → Nat) (low : Nat) : Nat → Nat := if oCar st c b low then nup b (c - 1) (b (c - 1) + 1) else b
def oSh (st c : Nat) (b : Nat → Nat) (low : Nat) : Nat := if st < c ∧ oBy st c b low (c - 1) = 255 then 20 else 19
def oLow' (st c : Nat) (b : Nat → Nat) (low : Nat) : Nat := oLow st c b low % 2 ^ oSh st c b low
def oBy' (st c : Nat) (b : Nat → Nat) (low : Nat) : Nat → Nat := nup (oBy st c b low) c (oLow st c b low / 2 ^ oSh st c b low % 256)
theorem oLow_f {st c : Nat} {b : Nat → Nat} {low : Nat} (h : oCar st c b low = false) : oLow st c b low = low := if_neg (by rw [h]; decide)
theorem oBy_f {st c : Nat} {b : Nat → Nat} {low : Nat} (h : oCar st c b low = false) : oBy st c b low = b := if_neg (by rw [h]; decide)
theorem oLow_t {st c : Nat} {b : Nat → Nat} {low : Nat} (h : oCar st c b low = true) : oLow st c b low = low - 134217728 := if_pos h
theorem oBy_t {st c : Nat} {b : Nat → Nat} {low : Nat} (h : oCar st c b low = true) : oBy st c b low = nup b (c - 1) (b (c - 1) + 1) := if_pos h
theorem i1 : (1 : Int32) = nI 1 := rfl
theorem pred_ok {c : Nat} (h : 1 ≤ c) : nI c - (1 : Int32) = nI (c - 1) := by rw [i1, pk_sub h]
theorem last_ok {c st : Nat} {f : Nat → Int32} {b : Nat → Nat} (hc : c < 2 ^ 31) (hs : st < 2 ^ 31) (h : cEq c f b) : F_X1_last (nI c) (nI st) f = if c ≤ st then (-1 : Int32) else nI (b (c - 1)) := by
  unfold F_X1_last
  by_cases e : c ≤ st
  · rw [if_pos (nI_le e hs), if_pos e]
  · rw [if_neg (nI_ge (by omega) hc), if_neg e, pred_ok (by omega), nI_clamp (by omega)]
    exact h _ (by omega)
theorem plast_ok {c st n : Nat} (hc : c ≤ n) (hn : n < 2 ^ 31) (hs : st < 2 ^ 31) : P_X1_last (nI c) (nI st) n ∧ P_X1_addToLast (nI c) (nI st) n := by
  have hh : ¬ (nI c ≤ nI st) → vp_in (nI c - (1 : Int32)) n := by
    intro e
    have e2 : ¬ c ≤ st := fun x => e (nI_le x hs)
    rw [pred_ok (by omega)]
    exact vp_in_nI (by omega) hn
  exact ⟨hh, hh⟩
theorem neg1 {x : Nat} (h : x < 2 ^ 31) : ¬ nI x = (-1 : Int32) := by
  intro e
  have h1 := congrArg Int32.toInt e
  rw [nI_toInt h] at h1
  have h2 : (-1 : Int32).toInt = -1 := by decide
  omega
theorem sh_ok (sh : Nat) (h : sh = 19 ∨ sh = 20) {low : Nat} (hl : low < 2 ^ 31) : ((nI low >>> (nI sh &&& 31)) &&& (255 : Int32)) = nI (low / 2 ^ sh % 256) ∧ (nI low &&& (((1 : Int32) <<< (nI sh &&& 31)) - (1 : Int32))) = nI (low % 2 ^ sh) ∧ (27 : Int32) - nI sh = nI (27 - sh) := by
  rcases h with rfl | rfl
  · refine ⟨?_, ?_, rfl⟩
    · rw [pk_shrN hl _ 19 (by decide), pk_andN (by omega) 8 (by decide)]
    · rw [pk_andN (by omega) 19 (by decide)]
  · refine ⟨?_, ?_, rfl⟩
    · rw [pk_shrN hl _ 20 (by decide), pk_andN (by omega) 8 (by decide)]
    · rw [pk_andN (by omega) 20 (by decide)]
theorem x3_out {c st n low : Nat} {f : Nat → Int32} {b : Nat → Nat} (h : rOk c n f b) (hc : c < 65536) (hs : st ≤ c) (hb : ∀ j, j < c → b j < 256) (hl : low < 2 ^ 31) : P_X3_byteOut (nI c) (nI st) n f (nI low) ∧ ∃ (n' : Nat) (f' : Nat → Int32), F_X3_byteOut (nI c) (nI st) n f (nI low) = (nI (c + 1), n', f', nI (oLow' st c b low), nI (27 - oSh st c b low)) ∧ rOk (c + 1) n' f' (oBy' st c b low) ∧ n ≤ n' ∧ D_X3_byteOut (nI c) (nI st) n f (nI low) + 3 * n ≤ 3 * n' := by
  obtain ⟨h1, h2, h3, h4⟩ := id h
  have hcb : c < 2 ^ 31 := by omega
  have hsb : st < 2 ^ 31 := by omega
  obtain ⟨q1, q2⟩ := plast_ok (c := c) (st := st) h1 (show n < 2 ^ 31 by omega) hsb
  obtain ⟨r1, hr1⟩ : ∃ z, F_X1_last (nI c) (nI st) f = z := ⟨_, rfl⟩
  have hr1' := hr1
  rw [last_ok hcb hsb h4] at hr1'
  -- the carry
  have hJ : ∃ f1 : Nat → Int32, J_X3_byteOut_j_6 (nI c) (nI st) f (nI low) r1 = (f1, nI (oLow st c b low)) ∧ rOk c n f1 (oBy st c b low) := by
    unfold J_X3_byteOut_j_6
    by_cases e : c ≤ st
    · rw [if_pos e] at hr1'
      have hcar : oCar st c b low = false := by unfold oCar; rw [decide_eq_false (by omega)]; rfl
      rw [if_pos hr1'.symm]
      rw [oLow_f hcar, oBy_f hcar]
      exact ⟨f, rfl, h⟩
    · rw [if_neg e] at hr1'
      have hb1 := hb (c - 1) (by omega)
      rw [← hr1', if_neg (neg1 (by omega))]
      by_cases e2 : b (c - 1) = 255
      · have hcar : oCar st c b low = false := by unfold oCar; simp [e2]
        rw [if_pos (by rw [e2]; rfl)]
        rw [oLow_f hcar, oBy_f hcar]
        exact ⟨f, rfl, h⟩
      · have e255 : ¬ nI (b (c - 1)) = (255 : Int32) := fun x => e2 ((nI_eq (b := 255) (by omega) (by omega)).mp x)
        rw [if_neg e255]
        by_cases e3 : low < 134217728
        · have hcar : oCar st c b low = false := by unfold oCar; rw [decide_eq_false (p := 134217728 ≤ low) (by omega)]; simp
          have e27 : nI low < (134217728 : Int32) := nI_lt (b := 134217728) e3 (by omega)
          rw [if_pos e27]
          rw [oLow_f hcar, oBy_f hcar]
          exact ⟨f, rfl, h⟩
        · have hcar : oCar st c b low = true := by unfold oCar; simp [e2]; omega
          have e27 : ¬ nI low < (134217728 : Int32) := nI_nlt (b := 134217728) (by omega) hl
          rw [if_neg e27]
          rw [oLow_t hcar, oBy_t hcar]
          refine ⟨F_X1_addToLast (1 : Int32) (nI c) (nI st) f, ?_, h1, h2, h3, ?_⟩
          · have e28 : nI low - (134217728 : Int32) = nI (low - 134217728) := pk_sub (b := 134217728) (by omega)
            rw [e28]
          · show cEq c (F_X1_addToLast (1 : Int32) (nI c) (nI st) f) (nup b (c - 1) (b (c - 1) + 1))
            unfold F_X1_addToLast
            rw [if_neg (nI_ge (by omega) hcb), pred_ok (by omega), nI_clamp (by omega), h4 _ (by omega), ← nI_succ]
            exact cEq_up h4 _ _
  obtain ⟨f1, hJ1, hr⟩ := hJ
  obtain ⟨r7, hr7⟩ : ∃ z, F_X1_last (nI c) (nI st) f1 = z := ⟨_, rfl⟩
  have hr7' := hr7
  rw [last_ok hcb hsb hr.2.2.2] at hr7'
  have hj9 : J_X3_byteOut_j_9 r7 = nI (oSh st c b low) := by
    unfold J_X3_byteOut_j_9 oSh
    by_cases e : c ≤ st
    · rw [if_pos e] at hr7'
      rw [← hr7', if_neg (by decide), if_neg (by omega)]; rfl
    · rw [if_neg e] at hr7'
      rw [← hr7']
      have hb2 : oBy st c b low (c - 1) < 2 ^ 31 := by
        have hb1 := hb (c - 1) (by omega)
        unfold oBy nup
        split
        · simp; omega
        · omega
      by_cases e2 : oBy st c b low (c - 1) = 255
      · rw [if_pos (by rw [e2]; rfl), if_pos ⟨by omega, e2⟩]; rfl
      · have e255 : ¬ nI (oBy st c b low (c - 1)) = (255 : Int32) := fun x => e2 ((nI_eq (b := 255) hb2 (by omega)).mp x)
        rw [if_neg e255, if_neg (fun x => e2 x.2)]; rfl
  have hsh : oSh st c b low = 19 ∨ oSh st c b low = 20 := by unfold oSh; split <;> simp
  have hlo : oLow st c b low < 2 ^ 31 := by unfold oLow; split <;> omega
  obtain ⟨g1, g2, g3⟩ := sh_ok _ hsh hlo
  obtain ⟨a1, a2, a3, a4, a5⟩ := append_ok (x := oLow st c b low / 2 ^ oSh st c b low % 256) hr hc
  have hF : F_X3_byteOut (nI c) (nI st) n f (nI low) = (nI (c + 1), (F_X1_append (nI (oLow st c b low / 2 ^ oSh st c b low % 256)) (nI c) n f1).2.1, (F_X1_append (nI (oLow st c b low / 2 ^ oSh st c b low % 256)) (nI c) n f1).2.2, nI (oLow' st c b low), nI (27 - oSh st c b low)) := by
    unfold F_X3_byteOut
    simp only [hr1, hJ1, hr7, hj9, g1, g2, g3, a2]
    rfl
  refine ⟨?_, _, _, hF, a3, a4, ?_⟩
  · refine ⟨q1, fun r e => ⟨fun _ _ _ => q2, fun j e2 => ⟨q1, fun r' e3 j' e4 => ?_⟩⟩⟩
    rw [← e2, ← e, hr1, hJ1]
    exact a1
  · have hD : D_X3_byteOut (nI c) (nI st) n f (nI low) = D_X1_append (nI c) n f1 := by
      unfold D_X3_byteOut
      simp only [hr1, hJ1, Nat.add_zero]
    rw [hD]
    exact a5
