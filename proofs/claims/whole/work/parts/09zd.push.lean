/-! ===== PURE: a segment ends ===== -/
theorem shlR {low room : Nat} (hr : room ≤ 12) (h : low * 2 ^ room < 2 ^ 31) : nI low <<< (nI room &&& 31) = nI (low * 2 ^ room) := pk_shlN _ room (shp room (by omega)) (by omega)
theorem pow27 {room : Nat} (hr : room ≤ 12) : 2 ^ (27 - room) * 2 ^ room = 134217728 := by rw [← Nat.pow_add, show 27 - room + room = 27 by omega]
theorem rCar_sh {st n : Nat} {b : Nat → Nat} {low room : Nat} (hr : room ≤ 12) : rCar st n b low room = oCar st n b (low * 2 ^ room) := by
  unfold rCar oCar
  congr 1
  have hp := pow27 hr
  have hpos := Nat.two_pow_pos room
  by_cases c : 2 ^ (27 - room) ≤ low
  · rw [decide_eq_true c, decide_eq_true (by have := Nat.mul_le_mul_right (2 ^ room) c; omega)]
  · rw [decide_eq_false c, decide_eq_false]
    intro z
    apply c
    exact Nat.le_of_mul_le_mul_right (by omega) hpos
theorem rLow_sh {st n : Nat} {b : Nat → Nat} {low room : Nat} (hr : room ≤ 12) : rLow st n b low room * 2 ^ room = oLow st n b (low * 2 ^ room) := by
  unfold rLow oLow
  rw [rCar_sh hr]
  by_cases c : oCar st n b (low * 2 ^ room) = true
  · rw [if_pos c, if_pos c, Nat.sub_mul, pow27 hr]
  · rw [if_neg c, if_neg c]
/-- what is left of low, the room, the bytes behind a push -/
def pLow (st n : Nat) (b : Nat → Nat) (low room : Nat) : Nat := oLow' st n b (low * 2 ^ room)
def pRm (st n : Nat) (b : Nat → Nat) (low room : Nat) : Nat := 27 - oSh st n b (low * 2 ^ room)
def pBy (st n : Nat) (b : Nat → Nat) (low room : Nat) : Nat → Nat := oBy' st n b (low * 2 ^ room)
theorem pRm_in (st n : Nat) (b : Nat → Nat) (low room : Nat) : pRm st n b low room = 7 ∨ pRm st n b low room = 8 := by
  unfold pRm
  rcases oSh_in st n b (low * 2 ^ room) with q | q <;> rw [q] <;> omega
theorem pLow_lt (st n : Nat) (b : Nat → Nat) (low room : Nat) : pLow st n b low room * 2 ^ pRm st n b low room < 134217728 := by
  have hlt : oLow' st n b (low * 2 ^ room) < 2 ^ oSh st n b (low * 2 ^ room) := Nat.mod_lt _ (Nat.two_pow_pos _)
  unfold pLow pRm
  rcases oSh_in st n b (low * 2 ^ room) with q | q <;> rw [q] at hlt ⊢ <;> omega
theorem push_c {st n bn low room : Nat} {f : Nat → Int32} {b : Nat → Nat} (h : rOk n bn f b) (hn : n < 65536) (hs : st ≤ n) (hb : ∀ j, j < n → b j < 256) (hl : low * 2 ^ room < 2 ^ 31) (hr : room ≤ 12) : P_X3_byteOut (nI n) (nI st) bn f (nI low <<< (nI room &&& 31)) ∧ ∃ (bn' : Nat) (f' : Nat → Int32), F_X3_byteOut (nI n) (nI st) bn f (nI low <<< (nI room &&& 31)) = (nI (n + 1), bn', f', nI (pLow st n b low room), nI (pRm st n b low room)) ∧ rOk (n + 1) bn' f' (pBy st n b low room) ∧ bn ≤ bn' ∧ D_X3_byteOut (nI n) (nI st) bn f (nI low <<< (nI room &&& 31)) + 3 * bn ≤ 3 * bn' := by
  rw [shlR hr hl]
  exact x3_out h hn hs hb hl
theorem push_m {st n low room : Nat} {f : Nat → Int32} {b : Nat → Nat} (h : cEq n f b) (hn : n < 65536) (hs : st ≤ n) (hb : ∀ j, j < n → b j < 256) (hl : low * 2 ^ room < 2 ^ 31) (hr : room ≤ 12) : P_X11_push (nI n) (nI st) (bI (rCar st n b low room)) 65536 f ∧ ∃ f' : Nat → Int32, F_X11_push (nI n) (nI st) (nI (rLow st n b low room)) (bI (rCar st n b low room)) (nI room) f = (nI (n + 1), nI (pLow st n b low room), bI (rCar st (n + 1) (pBy st n b low room) (pLow st n b low room) (pRm st n b low room)), nI (pRm st n b low room), f') ∧ nI (pLow st n b low room) = nI (rLow st (n + 1) (pBy st n b low room) (pLow st n b low room) (pRm st n b low room)) ∧ cEq (n + 1) f' (pBy st n b low room) := by
  have hle : rLow st n b low room * 2 ^ room < 2 ^ 31 := by
    rw [rLow_sh hr]
    by_cases c : oCar st n b (low * 2 ^ room) = true
    · rw [oLow_t c]; omega
    · rw [oLow_f (by simpa using c)]; exact hl
  obtain ⟨p1, f', p2, p3⟩ := x11_out (low := low * 2 ^ room) h hn hs hb hl
  have hc0 : rCar st (n + 1) (pBy st n b low room) (pLow st n b low room) (pRm st n b low room) = false := rCar_o
  refine ⟨by rw [rCar_sh hr]; exact p1, f', ?_, by rw [rLow_f hc0], p3⟩
  unfold F_X11_push
  rw [shlR hr hle, rLow_sh hr, rCar_sh hr, p2, hc0]
  rfl
/-- low with sixteen ones, or half less -/
def eLow (low sz : Nat) : Nat := if low / 65536 * 65536 + 65535 < low + sz then low / 65536 * 65536 + 65535 else low / 65536 * 65536 + 65535 - 32768
theorem eLow_lt {low sz : Nat} (h : 32768 ≤ sz) : eLow low sz < low + sz := by unfold eLow; split <;> omega
theorem or_ffff {n : Nat} (h : n < 2 ^ 31) : nI n ||| (65535 : Int32) = nI (n / 65536 * 65536 + 65535) := by
  have e := i_or (a := n) (b := 65535) (by omega) (by omega)
  have e2 : n ||| 65535 = n / 65536 * 65536 + 65535 := by
    have h1 : n % 2 ^ 16 ||| 65535 = 65535 := by
      apply Nat.eq_of_testBit_eq
      intro j
      rw [Nat.testBit_or, show (65535 : Nat) = 2 ^ 16 - 1 by rfl, Nat.testBit_two_pow_sub_one, Nat.testBit_mod_two_pow]
      by_cases c : j < 16 <;> simp [c]
    have h2 := Nat.two_pow_add_eq_or_of_lt (i := 16) (b := n % 2 ^ 16) (Nat.mod_lt _ (by omega)) (n / 2 ^ 16)
    have h3 := Nat.two_pow_add_eq_or_of_lt (i := 16) (b := 65535) (by omega) (n / 2 ^ 16)
    have h4 : n = 2 ^ 16 * (n / 2 ^ 16) ||| n % 2 ^ 16 := by rw [← h2]; exact (Nat.div_add_mod n (2 ^ 16)).symm
    conv => lhs; rw [h4]
    rw [Nat.or_assoc, h1, ← h3]
    omega
  rw [e2] at e
  exact e
theorem end_c {low sz : Nat} (h1 : low < 2 ^ 29) (h2 : sz < 65536) : J_X3_end_j_2 (nI low) (nI sz) = nI (eLow low sz) := by
  unfold J_X3_end_j_2 eLow
  rw [or_ffff (by omega), nI_add]
  by_cases c : low / 65536 * 65536 + 65535 < low + sz
  · rw [if_neg (nI_ge c (by omega)), if_pos c]
  · have e : nI (low / 65536 * 65536 + 65535) - (32768 : Int32) = nI (low / 65536 * 65536 + 65535 - 32768) := pk_sub (b := 32768) (by omega)
    rw [if_pos (nI_le (by omega) (by omega)), if_neg c, e]
theorem end_m {low sz : Nat} {lo r8 : Int32} (h1 : low < 2 ^ 29) (h2 : sz < 65536) (h3 : lo + r8 = nI low) : J_X11_close_j_10 lo (nI sz) r8 = nI (eLow low sz) := by
  unfold J_X11_close_j_10 eLow
  rw [h3, or_ffff (by omega), nI_add]
  by_cases c : low / 65536 * 65536 + 65535 < low + sz
  · rw [if_pos (nI_lt c (by omega)), if_pos c]
  · have e : nI (low / 65536 * 65536 + 65535) - (32768 : Int32) = nI (low / 65536 * 65536 + 65535 - 32768) := pk_sub (b := 32768) (by omega)
    rw [if_neg (nI_nlt (by omega) (by omega)), if_neg c, e]
/-- a byte 255 at the end goes -/
def dN (st n : Nat) (b : Nat → Nat) : Nat := if st < n ∧ b (n - 1) = 255 then n - 1 else n
theorem drop_c {st n bn : Nat} {f : Nat → Int32} {b : Nat → Nat} (h : rOk n bn f b) (hs : st ≤ n) (hb : ∀ j, j < n → b j < 256) : P_X1_dropStuffed (nI n) (nI st) bn ∧ F_X1_dropStuffed (nI n) (nI st) f = nI (dN st n b) := by
  obtain ⟨h1, h2, h3, h4⟩ := h
  refine ⟨(plast_ok (c := n) (st := st) h1 (by omega) (by omega)).1, ?_⟩
  unfold F_X1_dropStuffed dN
  rw [last_ok (by omega) (by omega) h4]
  by_cases c : n ≤ st
  · rw [if_pos c]
    show (if (-1 : Int32) = (255 : Int32) then nI n - (1 : Int32) else nI n) = nI (if st < n ∧ b (n - 1) = 255 then n - 1 else n)
    rw [if_neg (by decide), if_neg (by omega)]
  · have hb1 := hb (n - 1) (by omega)
    rw [if_neg c]
    show (if nI (b (n - 1)) = (255 : Int32) then _ else _) = _
    by_cases d : b (n - 1) = 255
    · rw [if_pos ((i255 hb1).mpr d), if_pos ⟨by omega, d⟩, pred_ok (by omega)]
    · rw [if_neg (fun z => d ((i255 hb1).mp z)), if_neg (fun z => d z.2)]
theorem drop_m {st n : Nat} {f : Nat → Int32} {b : Nat → Nat} (h : cEq n f b) (hn : n ≤ 65536) (hs : st ≤ n) (hb : ∀ j, j < n → b j < 256) : P_X11_lastIsFull (nI n) (nI st) 65536 ∧ F_X11_lastIsFull (nI n) (nI st) f = bI (decide (st < n ∧ b (n - 1) = 255)) := by
  refine ⟨pfull_ok hn (by decide) (by omega), full_ok (by omega) (by omega) h (fun z => ?_)⟩
  have := hb (n - 1) (by omega)
  omega
theorem drop_if {st n : Nat} {b : Nat → Nat} {A : Type} (hs : st ≤ n) (g : Int32 → A) : (if bI (decide (st < n ∧ b (n - 1) = 255)) = (0 : Int32) then g (nI n) else g (nI n - (1 : Int32))) = g (nI (dN st n b)) := by
  unfold dN
  by_cases c : st < n ∧ b (n - 1) = 255
  · rw [decide_eq_true c, if_neg (show ¬ bI true = 0 by decide), if_pos c, pred_ok (by omega)]
  · rw [decide_eq_false c, if_pos (show bI false = 0 from rfl), if_neg c]
theorem dN_le {st n : Nat} {b : Nat → Nat} (hs : st ≤ n) : st ≤ dN st n b ∧ dN st n b ≤ n := by unfold dN; split <;> omega
