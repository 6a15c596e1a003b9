/-! ===== PURE: the same loop where it stands a second time; the reference's ===== -/
/-- one step of the class's loop, at room r -/
theorem n3_step2 {st c n low room : Nat} {f : Nat → Int32} {b : Nat → Nat} (h : rOk c n f b) (hc : c < 65536) (hs : st ≤ c) (hb : ∀ j, j < c → b j < 256) (hl : low < 2 ^ 30) (h1 : 1 ≤ room) (h2 : room ≤ 12) :
    PJ_N3_j_26 (nI st) (nI c) n f (nI low) (nI room) ∧ ∃ (n' : Nat) (f' : Nat → Int32), n ≤ n' ∧ DJ_N3_j_26 (nI st) (nI c) n f (nI low) (nI room) + 3 * n ≤ 3 * n' ∧
    ((room = 1 ∧ J_N3_j_26 (nI st) (nI c) n f (nI low) (nI room) = (nI (c + 1), n', f', nI (oLow' st c b (2 * low)), nI (27 - oSh st c b (2 * low))) ∧ rOk (c + 1) n' f' (oBy' st c b (2 * low))) ∨
     (room ≠ 1 ∧ J_N3_j_26 (nI st) (nI c) n f (nI low) (nI room) = (nI c, n', f', nI (2 * low), nI (room - 1)) ∧ rOk c n' f' b)) := by
  have hpr : nI room - (1 : Int32) = nI (room - 1) := pred_ok h1
  unfold PJ_N3_j_26 J_N3_j_26 DJ_N3_j_26
  rw [dbl, hpr]
  by_cases e : room = 1
  · have e0 : nI (room - 1) = (0 : Int32) := by rw [e]; rfl
    obtain ⟨p1, n', f', p2, p3, p4, p5⟩ := x3_out (low := 2 * low) h hc hs hb (by omega)
    rw [if_pos e0, if_pos e0, p2]
    exact ⟨fun _ => p1, n', f', p4, p5, Or.inl ⟨e, rfl, p3⟩⟩
  · have e0 : ¬ nI (room - 1) = (0 : Int32) := nI_ne0 (by omega) (by omega)
    rw [if_neg e0, if_neg e0]
    exact ⟨fun x => absurd x e0, n, f, Nat.le_refl _, by omega, Or.inr ⟨e, rfl, h⟩⟩
theorem n3_ren2 (st : Nat) : ∀ (k i fuel sz low room c n : Nat) (f : Nat → Int32) (b : Nat → Nat), 32768 ≤ sz * 2 ^ k → i + k ≤ 15 → k < fuel → sz < 65536 → low + sz ≤ 2 ^ (28 - room) → 1 ≤ room → room ≤ 12 → rOk c n f b → st ≤ c → (∀ j, j < c → b j < 256) → c + k < 65536 →
    PL_N3_j_20 (nI st) fuel (nI i) (nI c) n f (nI low) (nI sz) (nI room) ∧ ∃ (i' : Int32) (n' : Nat) (f' : Nat → Int32), L_N3_j_20 (nI st) fuel (nI i) (nI c) n f (nI low) (nI sz) (nI room) = (i', nI (sRen st k sz low room c b).2.2.2.1, n', f', nI (sRen st k sz low room c b).2.1, nI (sRen st k sz low room c b).1, nI (sRen st k sz low room c b).2.2.1) ∧ rOk (sRen st k sz low room c b).2.2.2.1 n' f' (sRen st k sz low room c b).2.2.2.2 ∧ n ≤ n' ∧ DL_N3_j_20 (nI st) fuel (nI i) (nI c) n f (nI low) (nI sz) (nI room) + 3 * n ≤ 3 * n' := by
  have stay : ∀ (k i fuel sz low room c n : Nat) (f : Nat → Int32) (b : Nat → Nat), 32768 ≤ sz → sz < 65536 → 0 < fuel → rOk c n f b → PL_N3_j_20 (nI st) fuel (nI i) (nI c) n f (nI low) (nI sz) (nI room) ∧ ∃ (i' : Int32) (n' : Nat) (f' : Nat → Int32), L_N3_j_20 (nI st) fuel (nI i) (nI c) n f (nI low) (nI sz) (nI room) = (i', nI c, n', f', nI low, nI sz, nI room) ∧ rOk c n' f' b ∧ n ≤ n' ∧ DL_N3_j_20 (nI st) fuel (nI i) (nI c) n f (nI low) (nI sz) (nI room) + 3 * n ≤ 3 * n' := by
    intro k i fuel sz low room c n f b h1 h2 h3 h4
    obtain ⟨m, rfl⟩ : ∃ m, fuel = m + 1 := ⟨fuel - 1, by omega⟩
    have e : (32768 : Int32) ≤ nI sz := nI_le (a := 32768) h1 (by omega)
    rw [PL_N3_j_20, L_N3_j_20, DL_N3_j_20, if_pos e]
    refine ⟨fun _ x => absurd e x, nI i, n, f, ?_, h4, Nat.le_refl _, ?_⟩
    · split <;> rfl
    · split <;> omega
  intro k
  induction k with
  | zero =>
    intro i fuel sz low room c n f b h1 h2 h3 h4 h5 h6 h7 h8 h9 h10 h11
    exact stay 0 i fuel sz low room c n f b (by simpa using h1) h4 (by omega) h8
  | succ k ih =>
    intro i fuel sz low room c n f b h1 h2 h3 h4 h5 h6 h7 h8 h9 h10 h11
    by_cases e : 32768 ≤ sz
    · have hs : sRen st (k + 1) sz low room c b = (sz, low, room, c, b) := by rw [sRen, if_pos e]
      rw [hs]
      exact stay 0 i fuel sz low room c n f b e h4 (by omega) h8
    · obtain ⟨m, rfl⟩ : ∃ m, fuel = m + 1 := ⟨fuel - 1, by omega⟩
      have n15 : ¬ (15 : Int32) ≤ nI i := nI_ge (b := 15) (by omega) (by omega)
      have n32 : ¬ (32768 : Int32) ≤ nI sz := nI_ge (b := 32768) (by omega) (by omega)
      have hp : 2 ^ (28 - room) ≤ 2 ^ 27 := Nat.pow_le_pow_right (by omega) (by omega)
      obtain ⟨s1, n1, f1, s2, s3, s4⟩ := n3_step2 (low := low) (room := room) h8 (by omega) h9 h10 (by omega) h6 h7
      rw [PL_N3_j_20, L_N3_j_20, DL_N3_j_20, if_neg n15, if_neg n32, if_neg n15, if_neg n32, dbl, ← nI_succ]
      have hk : 32768 ≤ 2 * sz * 2 ^ k := by rw [Nat.pow_succ] at h1; rw [show 2 * sz * 2 ^ k = sz * (2 ^ k * 2) by rw [Nat.mul_comm (2 ^ k) 2, Nat.mul_comm 2 sz, Nat.mul_assoc]]; exact h1
      rcases s4 with ⟨r1, hJ, hr⟩ | ⟨r1, hJ, hr⟩
      · have hs : sRen st (k + 1) sz low room c b = sRen st k (2 * sz) (oLow' st c b (2 * low)) (27 - oSh st c b (2 * low)) (c + 1) (oBy' st c b (2 * low)) := by rw [sRen, if_neg e, if_pos r1]
        have hinv : oLow' st c b (2 * low) + 2 * sz ≤ 2 ^ (28 - (27 - oSh st c b (2 * low))) := by
          have hlt : oLow' st c b (2 * low) < 2 ^ oSh st c b (2 * low) := Nat.mod_lt _ (Nat.two_pow_pos _)
          rcases oSh_in st c b (2 * low) with q | q <;> rw [q] at hlt ⊢ <;> omega
        have hro : 1 ≤ 27 - oSh st c b (2 * low) ∧ 27 - oSh st c b (2 * low) ≤ 12 := by rcases oSh_in st c b (2 * low) with q | q <;> rw [q] <;> omega
        obtain ⟨t1, i', n', f', t2, t3, t4, t5⟩ := ih (i + 1) m (2 * sz) _ _ (c + 1) n1 f1 _ hk (by omega) (by omega) (by omega) hinv hro.1 hro.2 hr (by omega) (oBy_lt h10) (by omega)
        rw [hs]
        refine ⟨fun _ _ => ⟨s1, fun j ej => by rw [← ej, hJ]; exact t1⟩, i', n', f', ?_, t3, by omega, ?_⟩
        · rw [← t2, hJ]
        · rw [hJ]; exact addC s3 t5
      · have hs : sRen st (k + 1) sz low room c b = sRen st k (2 * sz) (2 * low) (room - 1) c b := by rw [sRen, if_neg e, if_neg r1]
        have hinv : 2 * low + 2 * sz ≤ 2 ^ (28 - (room - 1)) := by
          rw [show 28 - (room - 1) = (28 - room) + 1 by omega, Nat.pow_succ]; omega
        obtain ⟨t1, i', n', f', t2, t3, t4, t5⟩ := ih (i + 1) m (2 * sz) (2 * low) (room - 1) c n1 f1 b hk (by omega) (by omega) (by omega) hinv (by omega) (by omega) hr h9 h10 (by omega)
        rw [hs]
        refine ⟨fun _ _ => ⟨s1, fun j ej => by rw [← ej, hJ]; exact t1⟩, i', n', f', ?_, t3, by omega, ?_⟩
        · rw [← t2, hJ]
        · rw [hJ]; exact addC s3 t5

/-- the reference's carry: low is at room r -/
def rCar (st c : Nat) (b : Nat → Nat) (low room : Nat) : Bool := decide (st < c) && decide (b (c - 1) ≠ 255) && decide (2 ^ (27 - room) ≤ low)
def rLow (st c : Nat) (b : Nat → Nat) (low room : Nat) : Nat := if rCar st c b low room then low - 2 ^ (27 - room) else low
theorem pw_s {room : Nat} (h1 : 1 ≤ room) (h2 : room ≤ 12) : 2 ^ (27 - (room - 1)) = 2 * 2 ^ (27 - room) := by
  rw [show 27 - (room - 1) = (27 - room) + 1 by omega, Nat.pow_succ, Nat.mul_comm]
theorem rCar_d {st c : Nat} {b : Nat → Nat} {low room : Nat} (h1 : 1 ≤ room) (h2 : room ≤ 12) : rCar st c b (2 * low) (room - 1) = rCar st c b low room := by
  unfold rCar
  rw [pw_s h1 h2]
  congr 1
  exact decide_eq_decide.mpr ⟨fun h => by omega, fun h => by omega⟩
theorem rLow_d {st c : Nat} {b : Nat → Nat} {low room : Nat} (h1 : 1 ≤ room) (h2 : room ≤ 12) : rLow st c b (2 * low) (room - 1) = 2 * rLow st c b low room := by
  unfold rLow
  rw [rCar_d h1 h2, pw_s h1 h2]
  split <;> omega
theorem rCar_0 {st c : Nat} {b : Nat → Nat} {low : Nat} : rCar st c b low 0 = oCar st c b low := rfl
theorem rLow_0 {st c : Nat} {b : Nat → Nat} {low : Nat} : rLow st c b low 0 = oLow st c b low := by unfold rLow oLow; rw [rCar_0]
theorem rCar_o {st c c' : Nat} {b b' : Nat → Nat} {low : Nat} : rCar st c' b' (oLow' st c b low) (27 - oSh st c b low) = false := by
  have hlt : oLow' st c b low < 2 ^ oSh st c b low := Nat.mod_lt _ (Nat.two_pow_pos _)
  unfold rCar
  rw [decide_eq_false (p := 2 ^ (27 - (27 - oSh st c b low)) ≤ oLow' st c b low) (by rcases oSh_in st c b low with q | q <;> rw [q] at hlt ⊢ <;> omega)]
  simp
theorem rLow_f {st c : Nat} {b : Nat → Nat} {low room : Nat} (h : rCar st c b low room = false) : rLow st c b low room = low := if_neg (by rw [h]; decide)
theorem x11_ren (st : Nat) : ∀ (k fuel sz low room c : Nat) (f : Nat → Int32) (b : Nat → Nat), 32768 ≤ sz * 2 ^ k → k < fuel → sz < 65536 → low + sz ≤ 2 ^ (28 - room) → 1 ≤ room → room ≤ 12 → cEq c f b → st ≤ c → (∀ j, j < c → b j < 256) → c + k < 65536 →
    PL_X11_writeCoded_j_21 (nI st) 65536 fuel (nI c) (nI (rLow st c b low room)) (bI (rCar st c b low room)) (nI sz) (nI room) f ∧ ∃ f' : Nat → Int32, L_X11_writeCoded_j_21 (nI st) fuel (nI c) (nI (rLow st c b low room)) (bI (rCar st c b low room)) (nI sz) (nI room) f = (nI (sRen st k sz low room c b).2.2.2.1, nI (rLow st (sRen st k sz low room c b).2.2.2.1 (sRen st k sz low room c b).2.2.2.2 (sRen st k sz low room c b).2.1 (sRen st k sz low room c b).2.2.1), bI (rCar st (sRen st k sz low room c b).2.2.2.1 (sRen st k sz low room c b).2.2.2.2 (sRen st k sz low room c b).2.1 (sRen st k sz low room c b).2.2.1), nI (sRen st k sz low room c b).1, nI (sRen st k sz low room c b).2.2.1, f') ∧ cEq (sRen st k sz low room c b).2.2.2.1 f' (sRen st k sz low room c b).2.2.2.2 := by
  have stay : ∀ (fuel sz low room c : Nat) (f : Nat → Int32) (b : Nat → Nat), 32768 ≤ sz → sz < 65536 → 0 < fuel → cEq c f b → PL_X11_writeCoded_j_21 (nI st) 65536 fuel (nI c) (nI (rLow st c b low room)) (bI (rCar st c b low room)) (nI sz) (nI room) f ∧ ∃ f' : Nat → Int32, L_X11_writeCoded_j_21 (nI st) fuel (nI c) (nI (rLow st c b low room)) (bI (rCar st c b low room)) (nI sz) (nI room) f = (nI c, nI (rLow st c b low room), bI (rCar st c b low room), nI sz, nI room, f') ∧ cEq c f' b := by
    intro fuel sz low room c f b h1 h2 h3 h4
    obtain ⟨m, rfl⟩ : ∃ m, fuel = m + 1 := ⟨fuel - 1, by omega⟩
    have e : (32768 : Int32) ≤ nI sz := nI_le (a := 32768) h1 (by omega)
    rw [PL_X11_writeCoded_j_21, L_X11_writeCoded_j_21, if_pos e]
    exact ⟨fun x => absurd e x, f, rfl, h4⟩
  intro k
  induction k with
  | zero =>
    intro fuel sz low room c f b h1 h3 h4 h5 h6 h7 h8 h9 h10 h11
    exact stay fuel sz low room c f b (by simpa using h1) h4 (by omega) h8
  | succ k ih =>
    intro fuel sz low room c f b h1 h3 h4 h5 h6 h7 h8 h9 h10 h11
    by_cases e : 32768 ≤ sz
    · have hs : sRen st (k + 1) sz low room c b = (sz, low, room, c, b) := by rw [sRen, if_pos e]
      rw [hs]
      exact stay fuel sz low room c f b e h4 (by omega) h8
    · obtain ⟨m, rfl⟩ : ∃ m, fuel = m + 1 := ⟨fuel - 1, by omega⟩
      have n32 : ¬ (32768 : Int32) ≤ nI sz := nI_ge (b := 32768) (by omega) (by omega)
      have hp : 2 ^ (28 - room) ≤ 2 ^ 27 := Nat.pow_le_pow_right (by omega) (by omega)
      have hk : 32768 ≤ 2 * sz * 2 ^ k := by rw [Nat.pow_succ] at h1; rw [show 2 * sz * 2 ^ k = sz * (2 ^ k * 2) by rw [Nat.mul_comm (2 ^ k) 2, Nat.mul_comm 2 sz, Nat.mul_assoc]]; exact h1
      rw [PL_X11_writeCoded_j_21, L_X11_writeCoded_j_21, if_neg n32, nI_add, nI_add, ← Nat.two_mul, ← Nat.two_mul, ← rLow_d h6 h7, pred_ok h6]
      by_cases r1 : room = 1
      · subst r1
        have e0 : nI (1 - 1) = (0 : Int32) := rfl
        obtain ⟨p1, f1, p2, p3⟩ := x11_out (low := 2 * low) h8 (by omega) h9 h10 (by omega)
        have hs : sRen st (k + 1) sz low 1 c b = sRen st k (2 * sz) (oLow' st c b (2 * low)) (27 - oSh st c b (2 * low)) (c + 1) (oBy' st c b (2 * low)) := by rw [sRen, if_neg e, if_pos rfl]
        have hinv : oLow' st c b (2 * low) + 2 * sz ≤ 2 ^ (28 - (27 - oSh st c b (2 * low))) := by
          have hlt : oLow' st c b (2 * low) < 2 ^ oSh st c b (2 * low) := Nat.mod_lt _ (Nat.two_pow_pos _)
          rcases oSh_in st c b (2 * low) with q | q <;> rw [q] at hlt ⊢ <;> omega
        have hro : 1 ≤ 27 - oSh st c b (2 * low) ∧ 27 - oSh st c b (2 * low) ≤ 12 := by rcases oSh_in st c b (2 * low) with q | q <;> rw [q] <;> omega
        obtain ⟨t1, f', t2, t3⟩ := ih m (2 * sz) (oLow' st c b (2 * low)) (27 - oSh st c b (2 * low)) (c + 1) f1 (oBy' st c b (2 * low)) hk (by omega) (by omega) hinv hro.1 hro.2 p3 (by omega) (oBy_lt h10) (by omega)
        rw [rLow_f rCar_o, bI_f rCar_o] at t1
        rw [rLow_f (low := oLow' st c b (2 * low)) (room := 27 - oSh st c b (2 * low)) rCar_o, bI_f (x := rCar st (c + 1) (oBy' st c b (2 * low)) (oLow' st c b (2 * low)) (27 - oSh st c b (2 * low))) rCar_o] at t2
        have hcar : rCar st c b low 1 = oCar st c b (2 * low) := by rw [← rCar_d (by omega) (by omega)]; rfl
        have hlow : rLow st c b (2 * low) (1 - 1) = oLow st c b (2 * low) := rLow_0
        rw [hcar, hlow, hs, if_pos e0, p2]
        refine ⟨fun _ => ⟨fun _ => ⟨p1, fun r er => by rw [← er]; exact t1⟩, fun x => absurd e0 x⟩, f', t2, t3⟩
      · have e0 : ¬ nI (room - 1) = (0 : Int32) := nI_ne0 (by omega) (by omega)
        have hs : sRen st (k + 1) sz low room c b = sRen st k (2 * sz) (2 * low) (room - 1) c b := by rw [sRen, if_neg e, if_neg r1]
        have hinv : 2 * low + 2 * sz ≤ 2 ^ (28 - (room - 1)) := by
          rw [show 28 - (room - 1) = (28 - room) + 1 by omega, Nat.pow_succ]; omega
        obtain ⟨t1, f', t2, t3⟩ := ih m (2 * sz) (2 * low) (room - 1) c f b hk (by omega) (by omega) hinv (by omega) (by omega) h8 h9 h10 (by omega)
        rw [rCar_d h6 h7] at t1
        rw [rCar_d (low := low) h6 h7] at t2
        rw [hs, if_neg e0]
        exact ⟨fun _ => ⟨fun x => absurd x e0, fun _ => t1⟩, f', t2, t3⟩
