/-! ===== PURE: what doubling costs in bytes ===== -/
/-- z = 1 : the last byte came behind a 255 (seven bits), and is small -/
def zOk (st c : Nat) (b : Nat → Nat) (z : Nat) : Prop := z = 0 ∨ (z = 1 ∧ st < c ∧ b (c - 1) ≤ 144)
/-- how often x is doubled until it is 32768 or more -/
def dn (x : Nat) : Nat := 15 - Nat.log2 x
theorem dn_dbl {x : Nat} (h1 : 1 ≤ x) (h2 : x < 32768) : dn x = dn (2 * x) + 1 := by
  unfold dn
  have h3 : (2 * x).log2 = x.log2 + 1 := by
    obtain ⟨e1, e2⟩ := (Nat.log2_eq_iff (show x ≠ 0 by omega)).mp rfl
    refine (Nat.log2_eq_iff (by omega)).mpr ?_
    rw [Nat.pow_succ] at e2
    rw [Nat.pow_succ, Nat.pow_succ, Nat.pow_succ]
    omega
  have h4 : x.log2 < 15 := (Nat.log2_lt (by omega)).mpr (by omega)
  omega
theorem dn_0 {x : Nat} (h1 : 32768 ≤ x) : dn x = 0 := by
  unfold dn
  have h4 : 15 ≤ x.log2 := (Nat.le_log2 (by omega)).mpr (by omega)
  omega
theorem out_inv {st c low sz z : Nat} {b : Nat → Nat} (hs : st ≤ c) (hb : ∀ j, j < c → b j < 256) (hl : low ≤ 150994944) (hz : zOk st c b z) (h2 : sz ≤ 65536) :
    (oLow' st c b low + sz) * 2 ^ (27 - oSh st c b low) ≤ 150994944 ∧ ∃ z', zOk st (c + 1) (oBy' st c b low) z' ∧ 75 + 5 * z ≤ 10 * (27 - oSh st c b low) + 5 * z' := by
  have hlt : oLow' st c b low < 2 ^ oSh st c b low := Nat.mod_lt _ (Nat.two_pow_pos _)
  have hlo : oLow st c b low ≤ 150994944 := by
    by_cases e : oCar st c b low = true
    · rw [oLow_t e]; omega
    · rw [oLow_f (by simpa using e)]; exact hl
  rcases oSh_in st c b low with q | q
  · refine ⟨?_, 0, Or.inl rfl, ?_⟩
    · rw [q] at hlt ⊢; omega
    · rw [q]
      have : z ≤ 1 := by rcases hz with h | h <;> omega
      omega
  · have hfull : st < c ∧ oBy st c b low (c - 1) = 255 := by
      unfold oSh at q
      by_cases e : st < c ∧ oBy st c b low (c - 1) = 255
      · exact e
      · rw [if_neg e] at q; omega
    have hz0 : z = 0 := by
      rcases hz with h | ⟨h, h1, h2⟩
      · exact h
      · exfalso
        have := hfull.2
        by_cases e : oCar st c b low = true
        · rw [oBy_t e] at this
          unfold nup at this
          rw [if_pos rfl] at this
          omega
        · rw [oBy_f (by simpa using e)] at this
          omega
    refine ⟨?_, 1, Or.inr ⟨rfl, by omega, ?_⟩, ?_⟩
    · rw [q] at hlt ⊢; omega
    · unfold oBy' nup
      rw [if_pos (by omega), q]
      omega
    · rw [q, hz0]; decide
theorem ren_inv (st : Nat) : ∀ (k sz low room c : Nat) (b : Nat → Nat) (z : Nat), 1 ≤ sz → sz < 65536 → 32768 ≤ sz * 2 ^ k → (low + sz) * 2 ^ room ≤ 150994944 → 1 ≤ room → room ≤ 12 → st ≤ c → (∀ j, j < c → b j < 256) → zOk st c b z →
    32768 ≤ (sRen st k sz low room c b).1 ∧ (sRen st k sz low room c b).1 < 65536 ∧ (sRen st k sz low room c b).1 = sz * 2 ^ dn sz ∧ ((sRen st k sz low room c b).2.1 + (sRen st k sz low room c b).1) * 2 ^ (sRen st k sz low room c b).2.2.1 ≤ 150994944 ∧ 1 ≤ (sRen st k sz low room c b).2.2.1 ∧ (sRen st k sz low room c b).2.2.1 ≤ 12 ∧ c ≤ (sRen st k sz low room c b).2.2.2.1 ∧ (∀ j, j < (sRen st k sz low room c b).2.2.2.1 → (sRen st k sz low room c b).2.2.2.2 j < 256) ∧ (∀ j, j < c - 1 → (sRen st k sz low room c b).2.2.2.2 j = b j) ∧ (∀ j, j < st → (sRen st k sz low room c b).2.2.2.2 j = b j) ∧
    ∃ z', zOk st (sRen st k sz low room c b).2.2.2.1 (sRen st k sz low room c b).2.2.2.2 z' ∧ 75 * (sRen st k sz low room c b).2.2.2.1 + 10 * room + 5 * z ≤ 75 * c + 10 * (sRen st k sz low room c b).2.2.1 + 5 * z' + 10 * dn sz := by
  intro k
  induction k with
  | zero =>
    intro sz low room c b z h1 h2 h3 h4 h5 h6 h7 h8 h9
    have h3' : 32768 ≤ sz := by simpa using h3
    show 32768 ≤ sz ∧ sz < 65536 ∧ sz = sz * 2 ^ dn sz ∧ (low + sz) * 2 ^ room ≤ 150994944 ∧ 1 ≤ room ∧ room ≤ 12 ∧ c ≤ c ∧ (∀ j, j < c → b j < 256) ∧ (∀ j, j < c - 1 → b j = b j) ∧ (∀ j, j < st → b j = b j) ∧ ∃ z', zOk st c b z' ∧ 75 * c + 10 * room + 5 * z ≤ 75 * c + 10 * room + 5 * z' + 10 * dn sz
    rw [dn_0 h3']
    exact ⟨h3', h2, by omega, h4, h5, h6, Nat.le_refl _, h8, fun _ _ => rfl, fun _ _ => rfl, z, h9, by omega⟩
  | succ k ih =>
    intro sz low room c b z h1 h2 h3 h4 h5 h6 h7 h8 h9
    by_cases e : 32768 ≤ sz
    · have hs : sRen st (k + 1) sz low room c b = (sz, low, room, c, b) := by rw [sRen, if_pos e]
      rw [hs, dn_0 e]
      exact ⟨e, h2, by simp, h4, h5, h6, Nat.le_refl _, h8, fun _ _ => rfl, fun _ _ => rfl, z, h9, by simp⟩
    · have hk : 32768 ≤ 2 * sz * 2 ^ k := by rw [Nat.pow_succ] at h3; rw [show 2 * sz * 2 ^ k = sz * (2 ^ k * 2) by rw [Nat.mul_comm (2 ^ k) 2, Nat.mul_comm 2 sz, Nat.mul_assoc]]; exact h3
      have hd := dn_dbl h1 (by omega)
      have hpow : sz * 2 ^ dn sz = 2 * sz * 2 ^ dn (2 * sz) := by rw [hd, Nat.pow_succ, Nat.mul_comm (2 ^ dn (2 * sz)) 2, ← Nat.mul_assoc, Nat.mul_comm sz 2]
      by_cases r1 : room = 1
      · subst r1
        have hs : sRen st (k + 1) sz low 1 c b = sRen st k (2 * sz) (oLow' st c b (2 * low)) (27 - oSh st c b (2 * low)) (c + 1) (oBy' st c b (2 * low)) := by rw [sRen, if_neg e, if_pos rfl]
        obtain ⟨o1, z1, o2, o3⟩ := out_inv (low := 2 * low) (sz := 2 * sz) h7 h8 (by omega) h9 (by omega)
        have hro : 1 ≤ 27 - oSh st c b (2 * low) ∧ 27 - oSh st c b (2 * low) ≤ 12 := by rcases oSh_in st c b (2 * low) with q | q <;> rw [q] <;> omega
        obtain ⟨t1, t2, t3, t4, t5, t6, t7, t8, t9, t10, z', t11, t12⟩ := ih (2 * sz) _ _ (c + 1) _ z1 (by omega) (by omega) hk o1 hro.1 hro.2 (by omega) (oBy_lt h8) o2
        rw [hs]
        refine ⟨t1, t2, by rw [t3, hpow], t4, t5, t6, by omega, t8, fun j hj => ?_, fun j hj => ?_, z', t11, by omega⟩
        · rw [t9 j (by omega)]
          unfold oBy' nup
          rw [if_neg (by omega)]
          by_cases e2 : oCar st c b (2 * low) = true
          · rw [oBy_t e2]; unfold nup; rw [if_neg (by omega)]
          · rw [oBy_f (by simpa using e2)]
        · rw [t10 j hj]
          unfold oBy' nup
          rw [if_neg (by omega)]
          by_cases e2 : oCar st c b (2 * low) = true
          · have := (oCar_t e2).1
            rw [oBy_t e2]; unfold nup; rw [if_neg (by omega)]
          · rw [oBy_f (by simpa using e2)]
      · have hs : sRen st (k + 1) sz low room c b = sRen st k (2 * sz) (2 * low) (room - 1) c b := by rw [sRen, if_neg e, if_neg r1]
        have hinv : (2 * low + 2 * sz) * 2 ^ (room - 1) ≤ 150994944 := by
          have : (low + sz) * 2 ^ room = (2 * low + 2 * sz) * 2 ^ (room - 1) := by
            obtain ⟨q, rfl⟩ : ∃ q, room = q + 1 := ⟨room - 1, by omega⟩
            rw [Nat.add_sub_cancel, Nat.pow_succ, ← Nat.mul_add, Nat.mul_comm 2 (low + sz), Nat.mul_assoc, Nat.mul_comm 2 (2 ^ q)]
          omega
        obtain ⟨t1, t2, t3, t4, t5, t6, t7, t8, t9, t10, z', t11, t12⟩ := ih (2 * sz) (2 * low) (room - 1) c b z (by omega) (by omega) hk hinv (by omega) (by omega) h7 h8 h9
        rw [hs]
        exact ⟨t1, t2, by rw [t3, hpow], t4, t5, t6, t7, t8, t9, t10, z', t11, by omega⟩
theorem inv28 {low sz room : Nat} (h : (low + sz) * 2 ^ room ≤ 150994944) (h2 : room ≤ 12) : low + sz ≤ 2 ^ (28 - room) := by
  have e : 2 ^ (28 - room) * 2 ^ room = 268435456 := by rw [← Nat.pow_add, show 28 - room + room = 28 by omega]
  exact Nat.le_of_mul_le_mul_right (show (low + sz) * 2 ^ room ≤ 2 ^ (28 - room) * 2 ^ room by omega) (Nat.two_pow_pos _)
