/-! ===== PURE: bits of a mark in the machine ===== -/
theorem nand_pow (n k : Nat) : n &&& 2 ^ k = n / 2 ^ k % 2 * 2 ^ k := by
  apply Nat.eq_of_testBit_eq
  intro j
  rw [Nat.testBit_and, Nat.testBit_two_pow]
  rcases Nat.mod_two_eq_zero_or_one (n / 2 ^ k) with e | e
  · rw [e, Nat.zero_mul, Nat.zero_testBit]
    by_cases c : k = j
    · subst c
      rw [Nat.testBit_eq_decide_div_mod_eq, e]; simp
    · simp [c]
  · rw [e, Nat.one_mul, Nat.testBit_two_pow]
    by_cases c : k = j
    · subst c
      rw [Nat.testBit_eq_decide_div_mod_eq, e]; simp
    · simp [c]
theorem nor_pow {n k : Nat} (h : n / 2 ^ k % 2 = 0) : n ||| 2 ^ k = n + 2 ^ k := by
  have hb : n % 2 ^ k < 2 ^ k := Nat.mod_lt _ (Nat.two_pow_pos k)
  have e0 : n = 2 ^ k * (n / 2 ^ k) + n % 2 ^ k := (Nat.div_add_mod n (2 ^ k)).symm
  have e1 : n + 2 ^ k = 2 ^ k * (n / 2 ^ k + 1) + n % 2 ^ k := by rw [Nat.mul_add, Nat.mul_one]; omega
  apply Nat.eq_of_testBit_eq
  intro j
  rw [Nat.testBit_or, Nat.testBit_two_pow, e1, Nat.testBit_two_pow_mul_add _ hb]
  have e2 : n.testBit j = if j < k then (n % 2 ^ k).testBit j else (n / 2 ^ k).testBit (j - k) := by
    rw [← Nat.testBit_two_pow_mul_add _ hb, ← e0]
  rw [e2]
  by_cases c : j < k
  · rw [if_pos c, if_pos c, decide_eq_false (by omega), Bool.or_false]
  · rw [if_neg c, if_neg c]
    by_cases c2 : k = j
    · subst c2
      rw [Nat.sub_self, Nat.testBit_zero, Nat.testBit_zero]
      have : (n / 2 ^ k + 1) % 2 = 1 := by omega
      simp [this]
    · obtain ⟨t, ht⟩ : ∃ t, j - k = t + 1 := ⟨j - k - 1, by omega⟩
      rw [ht, Nat.testBit_succ, Nat.testBit_succ, decide_eq_false c2, Bool.or_false]
      have : (n / 2 ^ k + 1) / 2 = n / 2 ^ k / 2 := by omega
      rw [this]
theorem nclr_pow {n k : Nat} (hn : n < 2 ^ 32) (hk : k < 32) (h : n / 2 ^ k % 2 = 0) : n &&& (2 ^ 32 - (2 ^ k + 1)) = n := by
  have hp : 2 ^ k < 2 ^ 32 := Nat.pow_lt_pow_right (by omega) hk
  apply Nat.eq_of_testBit_eq
  intro j
  rw [Nat.testBit_and, Nat.testBit_two_pow_sub_succ hp, Nat.testBit_two_pow]
  by_cases c : j < 32
  · by_cases c2 : k = j
    · subst c2
      rw [Nat.testBit_eq_decide_div_mod_eq, h]; simp
    · simp [c, c2]
  · have : n.testBit j = false := Nat.testBit_lt_two_pow (Nat.lt_of_lt_of_le hn (Nat.pow_le_pow_right (by omega) (by omega)))
    rw [this]; rfl
theorem i_eq {x : Int32} {n : Nat} (h : x.toBitVec.toNat = n) (hn : n < 2 ^ 32) : x = nI n := by
  apply Int32.toBitVec_inj.mp
  apply BitVec.eq_of_toNat_eq
  rw [h, pk_tn hn]
theorem i_and {a b : Nat} (ha : a < 2 ^ 32) (hb : b < 2 ^ 32) : nI a &&& nI b = nI (a &&& b) := by
  apply i_eq
  · show ((nI a).toBitVec &&& (nI b).toBitVec).toNat = _
    rw [BitVec.toNat_and, pk_tn ha, pk_tn hb]
  · exact Nat.and_lt_two_pow _ hb
theorem i_or {a b : Nat} (ha : a < 2 ^ 32) (hb : b < 2 ^ 32) : nI a ||| nI b = nI (a ||| b) := by
  apply i_eq
  · show ((nI a).toBitVec ||| (nI b).toBitVec).toNat = _
    rw [BitVec.toNat_or, pk_tn ha, pk_tn hb]
  · exact Nat.or_lt_two_pow ha hb
/-! the tests that the class makes of a mark -/
section
variable {n : Nat}
theorem mk_2048 (h : n < 2031616) : nI n &&& (2048 : Int32) = (0 : Int32) ↔ n / 2048 % 2 = 0 := by
  have e : nI n &&& (2048 : Int32) = nI (n / 2048 % 2 * 2048) := by
    have := i_and (a := n) (b := 2048) (by omega) (by omega)
    rw [show (2048 : Nat) = 2 ^ 11 by rfl, nand_pow] at this
    exact this
  rw [e]
  exact ⟨fun x => by have := (nI_eq (b := 0) (by omega) (by omega)).mp x; omega, fun x => by rw [x]; rfl⟩
theorem mk_4096 (h : n < 2031616) : nI n &&& (4096 : Int32) = (0 : Int32) ↔ n / 4096 % 2 = 0 := by
  have e : nI n &&& (4096 : Int32) = nI (n / 4096 % 2 * 4096) := by
    have := i_and (a := n) (b := 4096) (by omega) (by omega)
    rw [show (4096 : Nat) = 2 ^ 12 by rfl, nand_pow] at this
    exact this
  rw [e]
  exact ⟨fun x => by have := (nI_eq (b := 0) (by omega) (by omega)).mp x; omega, fun x => by rw [x]; rfl⟩
theorem mk_16384 (h : n < 2031616) : nI n &&& (16384 : Int32) = (0 : Int32) ↔ n / 16384 % 2 = 0 := by
  have e : nI n &&& (16384 : Int32) = nI (n / 16384 % 2 * 16384) := by
    have := i_and (a := n) (b := 16384) (by omega) (by omega)
    rw [show (16384 : Nat) = 2 ^ 14 by rfl, nand_pow] at this
    exact this
  rw [e]
  exact ⟨fun x => by have := (nI_eq (b := 0) (by omega) (by omega)).mp x; omega, fun x => by rw [x]; rfl⟩
theorem mk_127 (h : n < 2031616) : nI n &&& (127 : Int32) = nI (n % 128) := pk_andN (by omega) 7 (by decide)
theorem mk_10240 (h : n < 2031616) : nI n &&& (10240 : Int32) = nI (n / 2048 % 2 * 2048 + n / 8192 % 2 * 8192) := by
  have e := i_and (a := n) (b := 10240) (by omega) (by omega)
  rw [show (10240 : Nat) = 2 ^ 11 ||| 2 ^ 13 by rfl, Nat.and_or_distrib_left, nand_pow, nand_pow] at e
  have e2 : (10240 : Int32) = nI (2 ^ 11 ||| 2 ^ 13) := rfl
  rw [e2, e]
  rcases Nat.mod_two_eq_zero_or_one (n / 2 ^ 11) with a | a <;> rcases Nat.mod_two_eq_zero_or_one (n / 2 ^ 13) with b | b <;> rw [a, b] <;> rfl
theorem mk_10367 (h : n < 2031616) : nI n &&& (10367 : Int32) = (0 : Int32) ↔ n % 128 = 0 ∧ n / 2048 % 2 = 0 ∧ n / 8192 % 2 = 0 := by
  have e := i_and (a := n) (b := 10367) (by omega) (by omega)
  rw [show (10367 : Nat) = (2 ^ 7 - 1) ||| (2 ^ 11 ||| 2 ^ 13) by rfl, Nat.and_or_distrib_left, Nat.and_or_distrib_left, nand_pow, nand_pow, Nat.and_two_pow_sub_one_eq_mod] at e
  have e2 : (10367 : Int32) = nI (2 ^ 7 - 1 ||| (2 ^ 11 ||| 2 ^ 13)) := rfl
  rw [e2, e]
  have hlt : n % 2 ^ 7 ||| (n / 2 ^ 11 % 2 * 2 ^ 11 ||| n / 2 ^ 13 % 2 * 2 ^ 13) < 2 ^ 14 := Nat.or_lt_two_pow (by omega) (Nat.or_lt_two_pow (by omega) (by omega))
  constructor
  · intro x
    have y := (nI_eq (b := 0) (by omega) (by omega)).mp x
    have y2 := Nat.or_eq_zero_iff.mp y
    have y3 := Nat.or_eq_zero_iff.mp y2.2
    omega
  · intro x
    have a : n % 2 ^ 7 = 0 := x.1
    have b : n / 2 ^ 11 % 2 = 0 := x.2.1
    have c : n / 2 ^ 13 % 2 = 0 := x.2.2
    rw [a, b, c]; rfl
theorem mk_seen (h : n < 2031616) (h0 : n / 8192 % 2 = 0) : nI n ||| (8192 : Int32) = nI (n + 8192) := by
  have e := i_or (a := n) (b := 8192) (by omega) (by omega)
  rw [show (8192 : Nat) = 2 ^ 13 by rfl, nor_pow (k := 13) h0] at e
  exact e
theorem mk_again (h : n < 2031616) : nI n ||| (16384 : Int32) = nI (n + (1 - n / 16384 % 2) * 16384) := by
  have e := i_or (a := n) (b := 16384) (by omega) (by omega)
  rcases Nat.mod_two_eq_zero_or_one (n / 16384) with a | a
  · rw [show (16384 : Nat) = 2 ^ 14 by rfl, nor_pow (k := 14) a] at e
    rw [a]
    exact e
  · have hm : (n - 16384) / 2 ^ 14 % 2 = 0 := by omega
    have e3 := nor_pow hm
    have e4 : n = (n - 16384) ||| 2 ^ 14 := by rw [e3]; omega
    have e5 : n ||| 16384 = n := by
      have : n ||| 2 ^ 14 = n := by rw [e4, Nat.or_assoc, Nat.or_self]
      exact this
    rw [a, show n + (1 - 1) * 16384 = n by omega]
    rw [e5] at e
    exact e
theorem mk_unseen (h : n < 2031616) : nI n &&& (-8193 : Int32) = nI (n - n / 8192 % 2 * 8192) := by
  have e2 : (-8193 : Int32) = nI (2 ^ 32 - (2 ^ 13 + 1)) := by decide +kernel
  rw [e2, i_and (by omega) (by omega)]
  rcases Nat.mod_two_eq_zero_or_one (n / 8192) with a | a
  · rw [nclr_pow (by omega) (by omega) a, a]; simp
  · have hm : (n - 8192) / 2 ^ 13 % 2 = 0 := by omega
    have e3 := nor_pow hm
    have e4 : n = (n - 8192) ||| 2 ^ 13 := by rw [e3]; omega
    have e5 : n &&& (2 ^ 32 - (2 ^ 13 + 1)) = n - 8192 := by
      conv => lhs; rw [e4]
      rw [Nat.and_or_distrib_right, nclr_pow (by omega) (by omega) hm, show 2 ^ 13 &&& (2 ^ 32 - (2 ^ 13 + 1)) = 0 by decide +kernel, Nat.or_zero]
    rw [e5, a, Nat.one_mul]
theorem mk_sig0 (h : n < 2031616) (h0 : n / 2048 % 2 = 0) : nI n ||| (2048 : Int32) = nI (n + 2048) := by
  have e := i_or (a := n) (b := 2048) (by omega) (by omega)
  rw [show (2048 : Nat) = 2 ^ 11 by rfl, nor_pow (k := 11) h0] at e
  exact e
theorem mk_sig1 (h : n < 2031616) (h0 : n / 2048 % 2 = 0) (h1 : n / 4096 % 2 = 0) : nI n ||| (6144 : Int32) = nI (n + 6144) := by
  have e := i_or (a := n) (b := 6144) (by omega) (by omega)
  have hm : (n + 2 ^ 11) / 2 ^ 12 % 2 = 0 := by omega
  rw [show (6144 : Nat) = 2 ^ 11 ||| 2 ^ 12 by rfl, ← Nat.or_assoc, nor_pow (k := 11) h0, nor_pow hm] at e
  exact e
theorem mk_plane (h : n < 2031616) {p : Nat} (hp : p ≤ 30) : (nI n &&& (-2031617 : Int32)) ||| (nI p <<< ((16 : Int32) &&& 31)) = nI (n % 65536 + 65536 * p) := by
  have e2 : (-2031617 : Int32) = nI (2 ^ 32 - (2031616 + 1)) := by decide +kernel
  have e1 : nI p <<< ((16 : Int32) &&& 31) = nI (p * 65536) := pk_shlN _ 16 (by decide) (by omega)
  have e3 : n &&& (2 ^ 32 - (2031616 + 1)) = n % 2 ^ 16 := by
    apply Nat.eq_of_testBit_eq
    intro j
    rw [Nat.testBit_and, Nat.testBit_two_pow_sub_succ (by omega), Nat.testBit_mod_two_pow]
    by_cases c : j < 16
    · have h2 : (2031616).testBit j = false := by
        have : ∀ j, j < 16 → (2031616).testBit j = false := by decide +kernel
        exact this j c
      rw [h2, decide_eq_true c, decide_eq_true (show j < 32 by omega)]
      simp
    · rw [decide_eq_false c]
      by_cases c2 : j < 21
      · have h2 : (2031616).testBit j = true := by
          have : ∀ j, j < 21 → ¬ j < 16 → (2031616).testBit j = true := by decide +kernel
          exact this j c2 c
        rw [h2]; simp
      · have : n.testBit j = false := Nat.testBit_lt_two_pow (Nat.lt_of_lt_of_le (show n < 2 ^ 21 by omega) (Nat.pow_le_pow_right (by omega) (by omega)))
        rw [this]; simp
  have e4 : n % 2 ^ 16 ||| p * 65536 = n % 65536 + 65536 * p := by
    have := Nat.two_pow_add_eq_or_of_lt (i := 16) (b := n % 2 ^ 16) (Nat.mod_lt _ (by omega)) p
    rw [Nat.or_comm, Nat.mul_comm p]
    rw [show (65536 : Nat) * p = 2 ^ 16 * p by rfl, ← this]
    omega
  rw [e1, e2, i_and (by omega) (by omega), e3, i_or (by omega) (by omega), e4]
theorem mk_getPlane (h : n < 2031616) : ((nI n &&& (2031616 : Int32)) >>> ((16 : Int32) &&& 31)) = nI (n / 65536) := by
  have e3 : n &&& 2031616 = n / 65536 * 65536 := by
    apply Nat.eq_of_testBit_eq
    intro j
    have e5 : n / 65536 * 65536 = 2 ^ 16 * (n / 2 ^ 16) + 0 := by omega
    rw [e5, Nat.testBit_two_pow_mul_add _ (by omega), Nat.testBit_and]
    by_cases c : j < 16
    · have h2 : (2031616).testBit j = false := by
        have : ∀ j, j < 16 → (2031616).testBit j = false := by decide +kernel
        exact this j c
      rw [h2, if_pos c]; simp
    · rw [if_neg c]
      have e6 : (n / 2 ^ 16).testBit (j - 16) = n.testBit j := by
        rw [Nat.testBit_div_two_pow, show j - 16 + 16 = j by omega]
      rw [e6]
      by_cases c2 : j < 21
      · have h2 : (2031616).testBit j = true := by
          have : ∀ j, j < 21 → ¬ j < 16 → (2031616).testBit j = true := by decide +kernel
          exact this j c2 c
        rw [h2]; simp
      · have : n.testBit j = false := Nat.testBit_lt_two_pow (Nat.lt_of_lt_of_le (show n < 2 ^ 21 by omega) (Nat.pow_le_pow_right (by omega) (by omega)))
        rw [this]; simp
  have e4 := i_and (a := n) (b := 2031616) (by omega) (by omega)
  rw [e3] at e4
  have e7 : nI n &&& (2031616 : Int32) = nI (n / 65536 * 65536) := e4
  rw [e7, pk_shrN (by omega) _ 16 (by decide)]
  congr 1
  omega
end
theorem or_and0 {a b m : Int32} : (a ||| b) &&& m = (0 : Int32) ↔ a &&& m = (0 : Int32) ∧ b &&& m = (0 : Int32) := by
  have key : ∀ z : Int32, z = 0 ↔ z.toBitVec.toNat = 0 := fun z => ⟨fun h => by rw [h]; rfl, fun h => Int32.toBitVec_inj.mp (BitVec.eq_of_toNat_eq (by rw [h]; rfl))⟩
  rw [key, key, key]
  show (((a.toBitVec ||| b.toBitVec) &&& m.toBitVec)).toNat = 0 ↔ (a.toBitVec &&& m.toBitVec).toNat = 0 ∧ (b.toBitVec &&& m.toBitVec).toNat = 0
  rw [BitVec.toNat_and, BitVec.toNat_or, BitVec.toNat_and, BitVec.toNat_and, Nat.and_or_distrib_right, Nat.or_eq_zero_iff]
