/-! ===== PURE: doubling until the size is 32768 or more, class ===== -/
def sRen (st : Nat) : Nat → Nat → Nat → Nat → Nat → (Nat → Nat) → Nat × Nat × Nat × Nat × (Nat → Nat)
  | 0, sz, low, room, c, b => (sz, low, room, c, b)
  | k + 1, sz, low, room, c, b => if 32768 ≤ sz then (sz, low, room, c, b) else
      if room = 1 then sRen st k (2 * sz) (oLow' st c b (2 * low)) (27 - oSh st c b (2 * low)) (c + 1) (oBy' st c b (2 * low))
      else sRen st k (2 * sz) (2 * low) (room - 1) c b
theorem oSh_in (st c : Nat) (b : Nat → Nat) (low : Nat) : oSh st c b low = 19 ∨ oSh st c b low = 20 := by unfold oSh; split <;> simp
theorem oBy_lt {st c : Nat} {b : Nat → Nat} {low : Nat} (hb : ∀ j, j < c → b j < 256) : ∀ j, j < c + 1 → oBy' st c b low j < 256 := by
  intro j hj
  unfold oBy' nup
  by_cases e : j = c
  · rw [if_pos e]; exact Nat.mod_lt _ (by omega)
  · rw [if_neg e]
    by_cases e2 : oCar st c b low = true
    · obtain ⟨h1, h2, h3⟩ := oCar_t e2
      rw [oBy_t e2]
      unfold nup
      by_cases e3 : j = c - 1
      · rw [if_pos e3]; have := hb (c - 1) (by omega); omega
      · rw [if_neg e3]; exact hb j (by omega)
    · rw [oBy_f (by simpa using e2)]; exact hb j (by omega)
theorem dbl {x : Nat} : nI x * (2 : Int32) = nI (2 * x) := by rw [i2, pk_mul, Nat.mul_comm]
theorem addC {d e x y z : Nat} (h1 : d + 3 * x ≤ 3 * y) (h2 : e + 3 * y ≤ 3 * z) : d + e + 3 * x ≤ 3 * z := by omega
/-- one step of the class's loop, at room r -/
theorem n3_step {st c n low room : Nat} {f : Nat → Int32} {b : Nat → Nat} (h : rOk c n f b) (hc : c < 65536) (hs : st ≤ c) (hb : ∀ j, j < c → b j < 256) (hl : low < 2 ^ 30) (h1 : 1 ≤ room) (h2 : room ≤ 12) :
    PJ_N3_j_14 (nI st) (nI c) n f (nI low) (nI room) ∧ ∃ (n' : Nat) (f' : Nat → Int32), n ≤ n' ∧ DJ_N3_j_14 (nI st) (nI c) n f (nI low) (nI room) + 3 * n ≤ 3 * n' ∧
    ((room = 1 ∧ J_N3_j_14 (nI st) (nI c) n f (nI low) (nI room) = (nI (c + 1), n', f', nI (oLow' st c b (2 * low)), nI (27 - oSh st c b (2 * low))) ∧ rOk (c + 1) n' f' (oBy' st c b (2 * low))) ∨
     (room ≠ 1 ∧ J_N3_j_14 (nI st) (nI c) n f (nI low) (nI room) = (nI c, n', f', nI (2 * low), nI (room - 1)) ∧ rOk c n' f' b)) := by
  have hpr : nI room - (1 : Int32) = nI (room - 1) := pred_ok h1
  unfold PJ_N3_j_14 J_N3_j_14 DJ_N3_j_14
  rw [dbl, hpr]
  by_cases e : room = 1
  · have e0 : nI (room - 1) = (0 : Int32) := by rw [e]; rfl
    obtain ⟨p1, n', f', p2, p3, p4, p5⟩ := x3_out (low := 2 * low) h hc hs hb (by omega)
    rw [if_pos e0, if_pos e0, p2]
    exact ⟨fun _ => p1, n', f', p4, p5, Or.inl ⟨e, rfl, p3⟩⟩
  · have e0 : ¬ nI (room - 1) = (0 : Int32) := nI_ne0 (by omega) (by omega)
    rw [if_neg e0, if_neg e0]
    exact ⟨fun x => absurd x e0, n, f, Nat.le_refl _, by omega, Or.inr ⟨e, rfl, h⟩⟩
theorem n3_ren (st : Nat) : ∀ (k i fuel sz low room c n : Nat) (f : Nat → Int32) (b : Nat → Nat), 32768 ≤ sz * 2 ^ k → i + k ≤ 15 → k < fuel → sz < 65536 → low + sz ≤ 2 ^ (28 - room) → 1 ≤ room → room ≤ 12 → rOk c n f b → st ≤ c → (∀ j, j < c → b j < 256) → c + k < 65536 →
    PL_N3_j_8 (nI st) fuel (nI i) (nI c) n f (nI low) (nI sz) (nI room) ∧ ∃ (i' : Int32) (n' : Nat) (f' : Nat → Int32), L_N3_j_8 (nI st) fuel (nI i) (nI c) n f (nI low) (nI sz) (nI room) = (i', nI (sRen st k sz low room c b).2.2.2.1, n', f', nI (sRen st k sz low room c b).2.1, nI (sRen st k sz low room c b).1, nI (sRen st k sz low room c b).2.2.1) ∧ rOk (sRen st k sz low room c b).2.2.2.1 n' f' (sRen st k sz low room c b).2.2.2.2 ∧ n ≤ n' ∧ DL_N3_j_8 (nI st) fuel (nI i) (nI c) n f (nI low) (nI sz) (nI room) + 3 * n ≤ 3 * n' := by
  have stay : ∀ (k i fuel sz low room c n : Nat) (f : Nat → Int32) (b : Nat → Nat), 32768 ≤ sz → sz < 65536 → 0 < fuel → rOk c n f b → PL_N3_j_8 (nI st) fuel (nI i) (nI c) n f (nI low) (nI sz) (nI room) ∧ ∃ (i' : Int32) (n' : Nat) (f' : Nat → Int32), L_N3_j_8 (nI st) fuel (nI i) (nI c) n f (nI low) (nI sz) (nI room) = (i', nI c, n', f', nI low, nI sz, nI room) ∧ rOk c n' f' b ∧ n ≤ n' ∧ DL_N3_j_8 (nI st) fuel (nI i) (nI c) n f (nI low) (nI sz) (nI room) + 3 * n ≤ 3 * n' := by
    intro k i fuel sz low room c n f b h1 h2 h3 h4
    obtain ⟨m, rfl⟩ : ∃ m, fuel = m + 1 := ⟨fuel - 1, by omega⟩
    have e : (32768 : Int32) ≤ nI sz := nI_le (a := 32768) h1 (by omega)
    rw [PL_N3_j_8, L_N3_j_8, DL_N3_j_8, if_pos e]
    refine ⟨fun _ x => absurd e x, nI i, n, f, ?_, h4, Nat.le_refl _, ?_⟩
    · split <;> rfl
    · split <;> omega
  intro k
  induction k with
  | zero =>
    intro i fuel sz low room c n f b h1 h2 h3 h4 h5 h6 h7 h8 h9 h10 h11
    exact stay 0 i fuel sz low room c n f b (by simpa using h1) h4 (by omega) h8
  | succ k ih =>
    intro i fuel sz low room c n f b h1 h2 h3 h4 h5 h6 h7 h8 h9 h10 h11
    by_cases e : 32768 ≤ sz
    · have hs : sRen st (k + 1) sz low room c b = (sz, low, room, c, b) := by rw [sRen, if_pos e]
      rw [hs]
      exact stay 0 i fuel sz low room c n f b e h4 (by omega) h8
    · obtain ⟨m, rfl⟩ : ∃ m, fuel = m + 1 := ⟨fuel - 1, by omega⟩
      have n15 : ¬ (15 : Int32) ≤ nI i := nI_ge (b := 15) (by omega) (by omega)
      have n32 : ¬ (32768 : Int32) ≤ nI sz := nI_ge (b := 32768) (by omega) (by omega)
      have hp : 2 ^ (28 - room) ≤ 2 ^ 27 := Nat.pow_le_pow_right (by omega) (by omega)
      obtain ⟨s1, n1, f1, s2, s3, s4⟩ := n3_step (low := low) (room := room) h8 (by omega) h9 h10 (by omega) h6 h7
      rw [PL_N3_j_8, L_N3_j_8, DL_N3_j_8, if_neg n15, if_neg n32, if_neg n15, if_neg n32, dbl, ← nI_succ]
      have hk : 32768 ≤ 2 * sz * 2 ^ k := by rw [Nat.pow_succ] at h1; rw [show 2 * sz * 2 ^ k = sz * (2 ^ k * 2) by rw [Nat.mul_comm (2 ^ k) 2, Nat.mul_comm 2 sz, Nat.mul_assoc]]; exact h1
      rcases s4 with ⟨r1, hJ, hr⟩ | ⟨r1, hJ, hr⟩
      · have hs : sRen st (k + 1) sz low room c b = sRen st k (2 * sz) (oLow' st c b (2 * low)) (27 - oSh st c b (2 * low)) (c + 1) (oBy' st c b (2 * low)) := by rw [sRen, if_neg e, if_pos r1]
        have hinv : oLow' st c b (2 * low) + 2 * sz ≤ 2 ^ (28 - (27 - oSh st c b (2 * low))) := by
          have hlt : oLow' st c b (2 * low) < 2 ^ oSh st c b (2 * low) := Nat.mod_lt _ (Nat.two_pow_pos _)
          rcases oSh_in st c b (2 * low) with q | q <;> rw [q] at hlt ⊢ <;> omega
        have hro : 1 ≤ 27 - oSh st c b (2 * low) ∧ 27 - oSh st c b (2 * low) ≤ 12 := by rcases oSh_in st c b (2 * low) with q | q <;> rw [q] <;> omega
        obtain ⟨t1, i', n', f', t2, t3, t4, t5⟩ := ih (i + 1) m (2 * sz) _ _ (c + 1) n1 f1 _ hk (by omega) (by omega) (by omega) hinv hro.1 hro.2 hr (by omega) (oBy_lt h10) (by omega)
        rw [hs]
        refine ⟨fun _ _ => ⟨s1, fun j ej => by rw [← ej, hJ]; exact t1⟩, i', n', f', ?_, t3, by omega, ?_⟩
        · rw [← t2, hJ]
        · rw [hJ]; exact addC s3 t5
      · have hs : sRen st (k + 1) sz low room c b = sRen st k (2 * sz) (2 * low) (room - 1) c b := by rw [sRen, if_neg e, if_neg r1]
        have hinv : 2 * low + 2 * sz ≤ 2 ^ (28 - (room - 1)) := by
          rw [show 28 - (room - 1) = (28 - room) + 1 by omega, Nat.pow_succ]; omega
        obtain ⟨t1, i', n', f', t2, t3, t4, t5⟩ := ih (i + 1) m (2 * sz) (2 * low) (room - 1) c n1 f1 b hk (by omega) (by omega) (by omega) hinv (by omega) (by omega) hr h9 h10 (by omega)
        rw [hs]
        refine ⟨fun _ _ => ⟨s1, fun j ej => by rw [← ej, hJ]; exact t1⟩, i', n', f', ?_, t3, by omega, ?_⟩
        · rw [← t2, hJ]
        · rw [hJ]; exact addC s3 t5
