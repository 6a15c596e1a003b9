/-! ===== PURE: no bit costs more than 18 fifths of a doubling, with what states and size lay by ===== -/
def lPhi : List Nat := [18, 18, 31, 50, 81, 124, 0, 0, 5, 0, 10, 10, 7, 25, 0, 0, 0, 5, 0, 5, 10, 10, 20, 20, 17, 30, 27, 40, 42, 55, 57, 74, 77, 94, 102, 119, 132, 149, 167, 201, 212, 251, 268, 311, 355, 399, 0]
def phi (s : Nat) : Nat := lPhi.getD s 0
def psi (a : Nat) : Nat := if a < 32784 then 31 else if a < 34816 then 30 else if a < 38912 then 18 else if a < 40960 then 17 else if a < 55296 then 13 else if a < 57344 then 12 else 0
def pcs : List (Nat × Nat × Nat) := [(32768, 32783, 31), (32784, 34815, 30), (34816, 38911, 18), (38912, 40959, 17), (40960, 55295, 13), (55296, 57343, 12), (57344, 65535, 0)]
theorem pz {a : Nat} (h1 : 32768 ≤ a) (h2 : a < 65536) : ∃ q, q ∈ pcs ∧ q.1 ≤ a ∧ a ≤ q.2.1 ∧ psi a = q.2.2 := by
  unfold psi
  by_cases c1 : a < 32784
  · exact ⟨(32768, 32783, 31), by simp [pcs], h1, by simp; omega, if_pos c1⟩
  · rw [if_neg c1]
    by_cases c2 : a < 34816
    · exact ⟨(32784, 34815, 30), by simp [pcs], by simp; omega, by simp; omega, if_pos c2⟩
    · rw [if_neg c2]
      by_cases c3 : a < 38912
      · exact ⟨(34816, 38911, 18), by simp [pcs], by simp; omega, by simp; omega, if_pos c3⟩
      · rw [if_neg c3]
        by_cases c4 : a < 40960
        · exact ⟨(38912, 40959, 17), by simp [pcs], by simp; omega, by simp; omega, if_pos c4⟩
        · rw [if_neg c4]
          by_cases c5 : a < 55296
          · exact ⟨(40960, 55295, 13), by simp [pcs], by simp; omega, by simp; omega, if_pos c5⟩
          · rw [if_neg c5]
            by_cases c6 : a < 57344
            · exact ⟨(55296, 57343, 12), by simp [pcs], by simp; omega, by simp; omega, if_pos c6⟩
            · exact ⟨(57344, 65535, 0), by simp [pcs], by simp; omega, by simp; omega, if_neg c6⟩
/-- checks over pieces: A between L and U goes to m * (A - p), after d doublings -/
def gChk (p L U m d f' f : Nat) : Bool := pcs.all fun q => pcs.all fun r =>
  !(Nat.ble (max q.1 L) (min q.2.1 U) && Nat.ble (m * (max q.1 L - p)) r.2.1 && Nat.ble r.1 (m * (min q.2.1 U - p))) || Nat.ble (5 * d + f' + r.2.2) (18 + f + q.2.2)
def hChk (L U d f' f w : Nat) : Bool := pcs.all fun q => !(Nat.ble (max q.1 L) (min q.2.1 U)) || Nat.ble (5 * d + f' + w) (18 + f + q.2.2)
theorem gSound {p L U m d f' f a : Nat} (h : gChk p L U m d f' f = true) (h1 : 32768 ≤ a) (h2 : a < 65536) (h3 : L ≤ a) (h4 : a ≤ U) (h5 : 32768 ≤ m * (a - p)) (h6 : m * (a - p) < 65536) : 5 * d + f' + psi (m * (a - p)) ≤ 18 + f + psi a := by
  obtain ⟨q, q1, q2, q3, q4⟩ := pz h1 h2
  obtain ⟨r, r1, r2, r3, r4⟩ := pz h5 h6
  unfold gChk at h
  rw [List.all_eq_true] at h
  have h7 := h q q1
  rw [List.all_eq_true] at h7
  have h8 := h7 r r1
  have e1 : max q.1 L ≤ a := by omega
  have e2 : a ≤ min q.2.1 U := by omega
  have e3 : m * (max q.1 L - p) ≤ m * (a - p) := Nat.mul_le_mul_left _ (by omega)
  have e4 : m * (a - p) ≤ m * (min q.2.1 U - p) := Nat.mul_le_mul_left _ (by omega)
  have b1 : Nat.ble (max q.1 L) (min q.2.1 U) = true := Nat.ble_eq_true_of_le (by omega)
  have b2 : Nat.ble (m * (max q.1 L - p)) r.2.1 = true := Nat.ble_eq_true_of_le (by omega)
  have b3 : Nat.ble r.1 (m * (min q.2.1 U - p)) = true := Nat.ble_eq_true_of_le (by omega)
  rw [b1, b2, b3] at h8
  have h9 : Nat.ble (5 * d + f' + r.2.2) (18 + f + q.2.2) = true := by simpa using h8
  have := Nat.le_of_ble_eq_true h9
  omega
theorem hSound {L U d f' f w a : Nat} (h : hChk L U d f' f w = true) (h1 : 32768 ≤ a) (h2 : a < 65536) (h3 : L ≤ a) (h4 : a ≤ U) : 5 * d + f' + w ≤ 18 + f + psi a := by
  obtain ⟨q, q1, q2, q3, q4⟩ := pz h1 h2
  unfold hChk at h
  rw [List.all_eq_true] at h
  have h8 := h q q1
  have b1 : Nat.ble (max q.1 L) (min q.2.1 U) = true := Nat.ble_eq_true_of_le (by omega)
  rw [b1] at h8
  have h9 : Nat.ble (5 * d + f' + w) (18 + f + q.2.2) = true := by simpa using h8
  have := Nat.le_of_ble_eq_true h9
  omega
def pChk (s : Nat) : Bool :=
  gChk (nP s) (32768 + nP s) 65535 1 0 (phi s) (phi s) && (gChk (nP s) (2 * nP s) (32767 + nP s) 2 1 (phi (nN s)) (phi s) && (hChk 0 (min (2 * nP s - 1) (32767 + nP s)) (dn (nP s)) (phi (nN s)) (phi s) (psi (nP s * 2 ^ dn (nP s))) &&
  (hChk (2 * nP s) 65535 (dn (nP s)) (phi (nO s)) (phi s) (psi (nP s * 2 ^ dn (nP s))) && (gChk (nP s) (16384 + nP s) (2 * nP s - 1) 2 1 (phi (nO s)) (phi s) && gChk (nP s) 0 (min (2 * nP s - 1) (16383 + nP s)) 4 2 (phi (nO s)) (phi s)))))
theorem pChk_all : ∀ s, s < 47 → pChk s = true := by decide +kernel
theorem dn_1 {z : Nat} (h1 : 16384 ≤ z) (h2 : z < 32768) : dn z = 1 := by rw [dn_dbl (by omega) h2, dn_0 (by omega)]
theorem dn_2 {z : Nat} (h1 : 8192 ≤ z) (h2 : z < 16384) : dn z = 2 := by rw [dn_dbl (by omega) (by omega), dn_1 (by omega) (by omega)]
section
variable {s a low : Nat}
theorem pot_stay (hs : s < 47) (h1 : 32768 ≤ a) (h2 : a < 65536) (h : 32768 ≤ a - nP s) : psi (a - nP s) ≤ 18 + psi a := by
  have hc := pChk_all s hs
  simp only [pChk, Bool.and_eq_true] at hc
  have := gSound hc.1 h1 h2 (by omega) (by omega) (by omega) (by omega)
  rw [Nat.one_mul] at this
  omega
theorem pot_like (hs : s < 47) (h1 : 32768 ≤ a) (h2 : a < 65536) (h : a - nP s < 32768) : 5 * dn (shLike low a (nP s)).2 + phi (nN s) + psi ((shLike low a (nP s)).2 * 2 ^ dn (shLike low a (nP s)).2) ≤ 18 + phi s + psi a := by
  have hc := pChk_all s hs
  have hp := nP_in s hs
  simp only [pChk, Bool.and_eq_true] at hc
  unfold shLike
  by_cases e : a - nP s < nP s
  · rw [if_pos e]
    exact hSound hc.2.2.1 h1 h2 (by omega) (by omega)
  · rw [if_neg e]
    show 5 * dn (a - nP s) + phi (nN s) + psi ((a - nP s) * 2 ^ dn (a - nP s)) ≤ _
    rw [dn_1 (by omega) h, show (a - nP s) * 2 ^ 1 = 2 * (a - nP s) by omega]
    exact gSound hc.2.1 h1 h2 (by omega) (by omega) (by omega) (by omega)
theorem pot_oth (hs : s < 47) (h1 : 32768 ≤ a) (h2 : a < 65536) : 5 * dn (shOth low a (nP s)).2 + phi (nO s) + psi ((shOth low a (nP s)).2 * 2 ^ dn (shOth low a (nP s)).2) ≤ 18 + phi s + psi a := by
  have hc := pChk_all s hs
  have hp := nP_in s hs
  simp only [pChk, Bool.and_eq_true] at hc
  unfold shOth
  by_cases e : a - nP s < nP s
  · rw [if_pos e]
    show 5 * dn (a - nP s) + phi (nO s) + psi ((a - nP s) * 2 ^ dn (a - nP s)) ≤ _
    by_cases e2 : 16384 ≤ a - nP s
    · rw [dn_1 (by omega) (by omega), show (a - nP s) * 2 ^ 1 = 2 * (a - nP s) by omega]
      exact gSound hc.2.2.2.2.1 h1 h2 (by omega) (by omega) (by omega) (by omega)
    · rw [dn_2 (by omega) (by omega), show (a - nP s) * 2 ^ 2 = 4 * (a - nP s) by omega]
      exact gSound hc.2.2.2.2.2 h1 h2 (by omega) (by omega) (by omega) (by omega)
  · rw [if_neg e]
    exact hSound hc.2.2.2.1 h1 h2 (by omega) (by omega)
end
/-- what the 19 contexts lay by -/
def phiS (cs : Nat → Nat) : Nat → Nat
  | 0 => 0
  | n + 1 => phiS cs n + phi (cs n)
theorem phiS_up (cs : Nat → Nat) (k x : Nat) : ∀ n, phiS (nup cs k x) n + (if k < n then phi (cs k) else 0) = phiS cs n + (if k < n then phi x else 0) := by
  intro n
  induction n with
  | zero => simp [phiS]
  | succ n ih =>
    show phiS (nup cs k x) n + phi (nup cs k x n) + _ = phiS cs n + phi (cs n) + _
    unfold nup at ih ⊢
    by_cases e : n = k
    · subst e
      rw [if_pos rfl, if_pos (by omega), if_pos (by omega)]
      rw [if_neg (by omega), if_neg (by omega)] at ih
      omega
    · rw [if_neg e]
      by_cases e2 : k < n
      · rw [if_pos e2, if_pos e2] at ih
        rw [if_pos (by omega), if_pos (by omega)]
        omega
      · rw [if_neg e2, if_neg e2] at ih
        rw [if_neg (by omega), if_neg (by omega)]
        omega
theorem phiS_19 (cs : Nat → Nat) {k : Nat} (hk : k < 19) (x : Nat) : phiS (nup cs k x) 19 + phi (cs k) = phiS cs 19 + phi x := by
  have := phiS_up cs k x 19
  rw [if_pos hk, if_pos hk] at this
  exact this
/-- a bit in a context: sizes, bytes and what was laid by -/
theorem next_inv {st k bit sz low room c z : Nat} {b cs cl : Nat → Nat} (hk : k < 19) (ho : cOk cs cl) (h3 : 32768 ≤ sz) (h4 : sz < 65536) (h5 : (low + sz) * 2 ^ room ≤ 150994944) (h6 : 1 ≤ room) (h7 : room ≤ 12) (h9 : st ≤ c) (h10 : ∀ j, j < c → b j < 256) (hz : zOk st c b z) :
    cOk (sNext st k bit cs cl sz low room c b).1.1 (sNext st k bit cs cl sz low room c b).1.2 ∧ 32768 ≤ (sNext st k bit cs cl sz low room c b).2.1 ∧ (sNext st k bit cs cl sz low room c b).2.1 < 65536 ∧ ((sNext st k bit cs cl sz low room c b).2.2.1 + (sNext st k bit cs cl sz low room c b).2.1) * 2 ^ (sNext st k bit cs cl sz low room c b).2.2.2.1 ≤ 150994944 ∧ 1 ≤ (sNext st k bit cs cl sz low room c b).2.2.2.1 ∧ (sNext st k bit cs cl sz low room c b).2.2.2.1 ≤ 12 ∧ c ≤ (sNext st k bit cs cl sz low room c b).2.2.2.2.1 ∧ (∀ j, j < (sNext st k bit cs cl sz low room c b).2.2.2.2.1 → (sNext st k bit cs cl sz low room c b).2.2.2.2.2 j < 256) ∧ (∀ j, j < st → (sNext st k bit cs cl sz low room c b).2.2.2.2.2 j = b j) ∧
    ∃ z', zOk st (sNext st k bit cs cl sz low room c b).2.2.2.2.1 (sNext st k bit cs cl sz low room c b).2.2.2.2.2 z' ∧ 75 * (sNext st k bit cs cl sz low room c b).2.2.2.2.1 + 2 * phiS (sNext st k bit cs cl sz low room c b).1.1 19 + 2 * psi (sNext st k bit cs cl sz low room c b).2.1 + 10 * room + 5 * z ≤ 75 * c + 2 * phiS cs 19 + 2 * psi sz + 10 * (sNext st k bit cs cl sz low room c b).2.2.2.1 + 5 * z' + 36 := by
  have h47 := ho.1 k hk
  have hp := nP_in _ h47
  by_cases e : bit = cl k
  · by_cases e2 : 32768 ≤ sz - nP (cs k)
    · have hs : sNext st k bit cs cl sz low room c b = ((cs, cl), (sz - nP (cs k), low + nP (cs k), room, c, b)) := by unfold sNext; rw [if_pos e, if_pos e2]
      have hq := pot_stay h47 h3 h4 e2
      rw [hs]
      refine ⟨ho, e2, by show sz - nP (cs k) < 65536; omega, ?_, h6, h7, Nat.le_refl _, h10, fun _ _ => rfl, z, hz, ?_⟩
      · show (low + nP (cs k) + (sz - nP (cs k))) * 2 ^ room ≤ _
        rw [show low + nP (cs k) + (sz - nP (cs k)) = low + sz by omega]; exact h5
      · show 75 * c + 2 * phiS cs 19 + 2 * psi (sz - nP (cs k)) + 10 * room + 5 * z ≤ 75 * c + 2 * phiS cs 19 + 2 * psi sz + 10 * room + 5 * z + 36
        omega
    · have hs : sNext st k bit cs cl sz low room c b = ((sLike cs k, cl), sRen st 15 (shLike low sz (nP (cs k))).2 (shLike low sz (nP (cs k))).1 room c b) := by unfold sNext; rw [if_pos e, if_neg e2]
      obtain ⟨q1, q2, q3⟩ := shLike_in (low := low) hp.1 hp.2 h3 h4
      have q4 : ((shLike low sz (nP (cs k))).1 + (shLike low sz (nP (cs k))).2) * 2 ^ room ≤ 150994944 := Nat.le_trans (Nat.mul_le_mul_right _ q3) h5
      obtain ⟨t1, t2, t3, t4, t5, t6, t7, t8, t9, t10, z', t11, t12⟩ := ren_inv st 15 _ _ room c b z q1 q2 (p15 q1) q4 h6 h7 h9 h10 hz
      have hq := pot_like (low := low) h47 h3 h4 (by omega)
      rw [← t3] at hq
      have hphi := phiS_19 cs hk (nN (cs k))
      rw [hs]
      refine ⟨cOk_like ho hk, t1, t2, t4, t5, t6, t7, t8, t10, z', t11, ?_⟩
      show 75 * (sRen st 15 (shLike low sz (nP (cs k))).2 (shLike low sz (nP (cs k))).1 room c b).2.2.2.1 + 2 * phiS (nup cs k (nN (cs k))) 19 + 2 * psi (sRen st 15 (shLike low sz (nP (cs k))).2 (shLike low sz (nP (cs k))).1 room c b).1 + 10 * room + 5 * z ≤ 75 * c + 2 * phiS cs 19 + 2 * psi sz + 10 * (sRen st 15 (shLike low sz (nP (cs k))).2 (shLike low sz (nP (cs k))).1 room c b).2.2.1 + 5 * z' + 36
      omega
  · have hs : sNext st k bit cs cl sz low room c b = ((sOth cs k, sFlip cs cl k), sRen st 15 (shOth low sz (nP (cs k))).2 (shOth low sz (nP (cs k))).1 room c b) := by unfold sNext; rw [if_neg e]
    obtain ⟨q1, q2, q3⟩ := shOth_in (low := low) hp.1 hp.2 h3 h4
    have q4 : ((shOth low sz (nP (cs k))).1 + (shOth low sz (nP (cs k))).2) * 2 ^ room ≤ 150994944 := Nat.le_trans (Nat.mul_le_mul_right _ q3) h5
    obtain ⟨t1, t2, t3, t4, t5, t6, t7, t8, t9, t10, z', t11, t12⟩ := ren_inv st 15 _ _ room c b z q1 q2 (p15 q1) q4 h6 h7 h9 h10 hz
    have hq := pot_oth (low := low) h47 h3 h4
    rw [← t3] at hq
    have hphi := phiS_19 cs hk (nO (cs k))
    rw [hs]
    refine ⟨cOk_oth ho hk, t1, t2, t4, t5, t6, t7, t8, t10, z', t11, ?_⟩
    show 75 * (sRen st 15 (shOth low sz (nP (cs k))).2 (shOth low sz (nP (cs k))).1 room c b).2.2.2.1 + 2 * phiS (nup cs k (nO (cs k))) 19 + 2 * psi (sRen st 15 (shOth low sz (nP (cs k))).2 (shOth low sz (nP (cs k))).1 room c b).1 + 10 * room + 5 * z ≤ 75 * c + 2 * phiS cs 19 + 2 * psi sz + 10 * (sRen st 15 (shOth low sz (nP (cs k))).2 (shOth low sz (nP (cs k))).1 room c b).2.2.1 + 5 * z' + 36
    omega
