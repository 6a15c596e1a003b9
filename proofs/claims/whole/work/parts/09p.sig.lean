/-! ===== PURE: a coefficient becomes significant: the marks around it ===== -/
theorem holds_ok {W H : Nat} (hW : W ≤ 64) (hH : H ≤ 64) {p1 p2 : Int32} {a b : Int} (h1 : p1.toInt = a) (h2 : p2.toInt = b) : F_X5_holds p1 p2 (nI W) (nI H) = if 0 ≤ a ∧ a < W ∧ 0 ≤ b ∧ b < H then 1 else 0 := by
  have tW : (nI W).toInt = W := nI_toInt (by omega)
  have tH : (nI H).toInt = H := nI_toInt (by omega)
  unfold F_X5_holds
  have c1 : p1 < (0 : Int32) ↔ a < 0 := by rw [Int32.lt_iff_toInt_lt, h1]; rfl
  have c2 : nI W ≤ p1 ↔ (W : Int) ≤ a := by rw [Int32.le_iff_toInt_le, h1, tW]
  have c3 : p2 < (0 : Int32) ↔ b < 0 := by rw [Int32.lt_iff_toInt_lt, h2]; rfl
  have c4 : nI H ≤ p2 ↔ (H : Int) ≤ b := by rw [Int32.le_iff_toInt_le, h2, tH]
  by_cases q1 : a < 0
  · rw [if_pos (c1.mpr q1), if_neg (by omega)]
  · rw [if_neg (fun z => q1 (c1.mp z))]
    by_cases q2 : (W : Int) ≤ a
    · rw [if_pos (c2.mpr q2), if_neg (by omega)]
    · rw [if_neg (fun z => q2 (c2.mp z))]
      by_cases q3 : b < 0
      · rw [if_pos (c3.mpr q3), if_neg (by omega)]
      · rw [if_neg (fun z => q3 (c3.mp z))]
        by_cases q4 : (H : Int) ≤ b
        · rw [if_pos (c4.mpr q4), if_neg (by omega)]
        · rw [if_neg (fun z => q4 (c4.mp z)), if_pos ⟨by omega, by omega, by omega, by omega⟩]
theorem tell_ok {W H N : Nat} (hW : W ≤ 64) (hH : H ≤ 64) (hN : W * H ≤ N) (hN2 : N ≤ 4096) {p1 p2 w : Int32} {a b : Int} (f : Nat → Int32) (h1 : p1.toInt = a) (h2 : p2.toInt = b) :
    P_X5_tell p1 p2 (nI W) (nI H) N ∧ ∀ x y, x < W → y < H → F_X5_tell p1 p2 w (nI W) (nI H) f (y * W + x) = f (y * W + x) + (if (x : Int) = a ∧ (y : Int) = b then w else 0) := by
  have hh := holds_ok hW hH h1 h2
  by_cases c : 0 ≤ a ∧ a < W ∧ 0 ≤ b ∧ b < H
  · rw [if_pos c] at hh
    obtain ⟨x0, rfl⟩ : ∃ x : Nat, a = x := ⟨a.toNat, by omega⟩
    obtain ⟨y0, rfl⟩ : ∃ y : Nat, b = y := ⟨b.toNat, by omega⟩
    have ex : p1 = nI x0 := Int32.toInt_inj.mp (by rw [h1, nI_toInt (by omega)])
    have ey : p2 = nI y0 := Int32.toInt_inj.mp (by rw [h2, nI_toInt (by omega)])
    subst ex ey
    have hx0 : x0 < W := by omega
    have hy0 : y0 < H := by omega
    have hp := plc hx0 hy0
    refine ⟨?_, ?_⟩
    · intro r er _ r3 er3
      rw [← er3, place_ok]
      exact vp_in_nI (by omega) (by omega)
    · intro x y hx hy
      unfold F_X5_tell
      rw [hh, if_neg (by decide), place_ok, nI_clamp (by omega)]
      show upd f (y0 * W + x0) (f (y0 * W + x0) + w) (y * W + x) = _
      by_cases e : x = x0 ∧ y = y0
      · obtain ⟨rfl, rfl⟩ := e
        rw [pk_us, if_pos ⟨rfl, rfl⟩]
      · have hne : y * W + x ≠ y0 * W + x0 := fun z => e (plc_inj hx hx0 z)
        rw [pk_un hne, if_neg (by omega), Int32.add_zero]
  · rw [if_neg c] at hh
    refine ⟨?_, ?_⟩
    · intro r er hr
      rw [hh] at er
      exact absurd er.symm hr
    · intro x y hx hy
      unfold F_X5_tell
      rw [hh, if_pos rfl, if_neg (by omega), Int32.add_zero]
/-- the field once (x0, y0) is significant -/
def gSig (G : GF) (x0 y0 : Nat) (mi : Bool) : GF := (fun x y => if x = x0 ∧ y = y0 then true else G.sg x y, fun x y => if x = x0 ∧ y = y0 then mi else G.ng x y, G.kn, G.lt, G.sn, G.ag)
section
variable {G : GF} {x0 y0 : Nat} {mi : Bool}
theorem s1_sig (h : G.sg x0 y0 = false) (x y : Nat) : s1 (gSig G x0 y0 mi) x y = s1 G x y + (if x = x0 ∧ y = y0 then 1 else 0) := by
  show (if (if x = x0 ∧ y = y0 then true else G.sg x y) = true then 1 else 0) = (if G.sg x y = true then 1 else 0) + _
  by_cases c : x = x0 ∧ y = y0
  · obtain ⟨rfl, rfl⟩ := c
    simp [h]
  · simp [c]
theorem m1_sig (h : G.sg x0 y0 = false) (x y : Nat) : m1 (gSig G x0 y0 mi) x y = m1 G x y + (if x = x0 ∧ y = y0 then bN mi else 0) := by
  show (if ((if x = x0 ∧ y = y0 then true else G.sg x y) && (if x = x0 ∧ y = y0 then mi else G.ng x y)) = true then 1 else 0) = (if (G.sg x y && G.ng x y) = true then 1 else 0) + (if x = x0 ∧ y = y0 then (if mi = true then 1 else 0) else 0)
  by_cases c : x = x0 ∧ y = y0
  · obtain ⟨rfl, rfl⟩ := c
    simp [h]
  · simp [c]
/-- beside, above or below (as far as it is seen), across -/
def nbH (x0 y0 x y : Nat) : Bool := decide (y = y0 ∧ (x = x0 + 1 ∨ x + 1 = x0))
def nbV (cz : Bool) (x0 y0 x y : Nat) : Bool := decide (x = x0 ∧ (y = y0 + 1 ∨ (y + 1 = y0 ∧ vis cz y = true)))
def nbD (cz : Bool) (x0 y0 x y : Nat) : Bool := decide ((x = x0 + 1 ∨ x + 1 = x0) ∧ (y = y0 + 1 ∨ (y + 1 = y0 ∧ vis cz y = true)))
theorem hC_sig (h : G.sg x0 y0 = false) (x y : Nat) : hC (gSig G x0 y0 mi) x y = hC G x y + bN (nbH x0 y0 x y) := by
  unfold hC nbH bN
  rw [s1_sig h, s1_sig h]
  simp only [decide_eq_true_eq]
  repeat' split
  all_goals omega
theorem hM_sig (h : G.sg x0 y0 = false) (x y : Nat) : hM (gSig G x0 y0 mi) x y = hM G x y + bN (nbH x0 y0 x y) * bN mi := by
  unfold hM nbH
  rw [m1_sig h, m1_sig h]
  generalize bN mi = t
  unfold bN
  simp only [decide_eq_true_eq]
  repeat' split
  all_goals omega
theorem vC_sig (cz : Bool) (h : G.sg x0 y0 = false) (x y : Nat) : vC cz (gSig G x0 y0 mi) x y = vC cz G x y + bN (nbV cz x0 y0 x y) := by
  unfold vC nbV bN
  rw [s1_sig h, s1_sig h]
  cases vis cz y <;> simp only [decide_eq_true_eq, Bool.false_eq_true, if_false, if_true, and_false, or_false, and_true]
  all_goals repeat' split
  all_goals omega
theorem vM_sig (cz : Bool) (h : G.sg x0 y0 = false) (x y : Nat) : vM cz (gSig G x0 y0 mi) x y = vM cz G x y + bN (nbV cz x0 y0 x y) * bN mi := by
  unfold vM nbV
  rw [m1_sig h, m1_sig h]
  generalize bN mi = t
  unfold bN
  cases vis cz y <;> simp only [decide_eq_true_eq, Bool.false_eq_true, if_false, if_true, and_false, or_false, and_true]
  all_goals repeat' split
  all_goals omega
theorem dC_sig (cz : Bool) (h : G.sg x0 y0 = false) (x y : Nat) : dC cz (gSig G x0 y0 mi) x y = dC cz G x y + bN (nbD cz x0 y0 x y) := by
  unfold dC nbD bN
  rw [s1_sig h, s1_sig h, s1_sig h, s1_sig h]
  cases vis cz y <;> simp only [decide_eq_true_eq, Bool.false_eq_true, if_false, if_true, and_false, or_false, and_true]
  all_goals repeat' split
  all_goals omega
/-- what a mark gains by it -/
def gainN (cz : Bool) (x0 y0 : Nat) (mi : Bool) (x y : Nat) : Nat := (1 + 128 * bN mi) * bN (nbH x0 y0 x y) + (4 + 512 * bN mi) * bN (nbV cz x0 y0 x y) + 16 * bN (nbD cz x0 y0 x y)
theorem mark_sig (cz : Bool) (h : G.sg x0 y0 = false) (hn : G.ng x0 y0 = false) (x y : Nat) : markN cz (gSig G x0 y0 mi) x y = markN cz G x y + gainN cz x0 y0 mi x y + (if x = x0 ∧ y = y0 then 2048 + 4096 * bN mi else 0) := by
  unfold markN gainN
  rw [hC_sig h, hM_sig h, vC_sig cz h, vM_sig cz h, dC_sig cz h]
  have e1 : 128 * (hM G x y + bN (nbH x0 y0 x y) * bN mi) = 128 * hM G x y + 128 * bN mi * bN (nbH x0 y0 x y) := by rw [Nat.mul_add, Nat.mul_assoc 128, Nat.mul_comm (bN mi)]
  have e2 : 512 * (vM cz G x y + bN (nbV cz x0 y0 x y) * bN mi) = 512 * vM cz G x y + 512 * bN mi * bN (nbV cz x0 y0 x y) := by rw [Nat.mul_add, Nat.mul_assoc 512, Nat.mul_comm (bN mi)]
  rw [e1, e2, Nat.add_mul, Nat.add_mul]
  have e3 : (gSig G x0 y0 mi).sg x y = if x = x0 ∧ y = y0 then true else G.sg x y := rfl
  have e4 : (gSig G x0 y0 mi).ng x y = if x = x0 ∧ y = y0 then mi else G.ng x y := rfl
  have e5 : (gSig G x0 y0 mi).sn x y = G.sn x y := rfl
  have e6 : (gSig G x0 y0 mi).ag x y = G.ag x y := rfl
  have e7 : (gSig G x0 y0 mi).lt x y = G.lt x y := rfl
  rw [e3, e4, e5, e6, e7]
  by_cases c : x = x0 ∧ y = y0
  · obtain ⟨rfl, rfl⟩ := c
    rw [if_pos ⟨rfl, rfl⟩, if_pos ⟨rfl, rfl⟩, if_pos ⟨rfl, rfl⟩, h, hn]
    have f0 : bN false = 0 := rfl
    have f1 : bN true = 1 := rfl
    rw [f0, f1]
    omega
  · rw [if_neg c, if_neg c, if_neg c]
    omega
end
theorem vis_sub {cz : Bool} {y0 : Nat} (h : 1 ≤ y0) : vis cz (y0 - 1) = true ↔ (cz = false ∨ y0 % 4 ≠ 0) := by
  unfold vis
  rw [show y0 - 1 + 1 = y0 by omega]
  cases cz <;> simp
theorem m7 : ∀ b : Bool, (1 : Int32) + (bI b <<< ((7 : Int32) &&& 31)) = nI (1 + 128 * bN b) := by decide
theorem m9 : ∀ b : Bool, (4 : Int32) + (bI b <<< ((9 : Int32) &&& 31)) = nI (4 + 512 * bN b) := by decide
theorem ite_nI {c : Prop} [Decidable c] (a : Nat) : (if c then nI a else (0 : Int32)) = nI (if c then a else 0) := by split <;> rfl
theorem tsum8 (t m k : Nat) (cz : Bool) {x y x0 y0 : Nat} (hv : y + 1 = y0 → vis cz y = true) : m + k + (if (x : Int) = x0 - 1 ∧ (y : Int) = y0 then 1 + 128 * t else 0) + (if (x : Int) = x0 + 1 ∧ (y : Int) = y0 then 1 + 128 * t else 0) + (if (x : Int) = x0 - 1 ∧ (y : Int) = y0 + 1 then 16 else 0) + (if (x : Int) = x0 ∧ (y : Int) = y0 + 1 then 4 + 512 * t else 0) + (if (x : Int) = x0 + 1 ∧ (y : Int) = y0 + 1 then 16 else 0) + (if (x : Int) = x0 - 1 ∧ (y : Int) = y0 - 1 then 16 else 0) + (if (x : Int) = x0 ∧ (y : Int) = y0 - 1 then 4 + 512 * t else 0) + (if (x : Int) = x0 + 1 ∧ (y : Int) = y0 - 1 then 16 else 0) = m + ((1 + 128 * t) * bN (nbH x0 y0 x y) + (4 + 512 * t) * bN (nbV cz x0 y0 x y) + 16 * bN (nbD cz x0 y0 x y)) + k := by
  have e1 : bN (nbH x0 y0 x y) = if y = y0 ∧ (x = x0 + 1 ∨ x + 1 = x0) then 1 else 0 := by unfold nbH bN; simp only [decide_eq_true_eq]
  have e2 : bN (nbV cz x0 y0 x y) = if x = x0 ∧ (y = y0 + 1 ∨ (y + 1 = y0)) then 1 else 0 := by
    unfold nbV bN
    simp only [decide_eq_true_eq]
    by_cases c : y + 1 = y0
    · rw [hv c]; simp [c]
    · simp [c]
  have e3 : bN (nbD cz x0 y0 x y) = if (x = x0 + 1 ∨ x + 1 = x0) ∧ (y = y0 + 1 ∨ (y + 1 = y0)) then 1 else 0 := by
    unfold nbD bN
    simp only [decide_eq_true_eq]
    by_cases c : y + 1 = y0
    · rw [hv c]; simp [c]
    · simp [c]
  rw [e1, e2, e3]
  by_cases a1 : x = x0
  · by_cases b1 : y = y0
    · repeat (first | rw [if_pos (by omega)] | rw [if_neg (by omega)])
      omega
    · by_cases b2 : y + 1 = y0
      · repeat (first | rw [if_pos (by omega)] | rw [if_neg (by omega)])
        omega
      · by_cases b3 : y = y0 + 1
        · repeat (first | rw [if_pos (by omega)] | rw [if_neg (by omega)])
          omega
        · repeat (first | rw [if_pos (by omega)] | rw [if_neg (by omega)])
          omega
  · by_cases a2 : x + 1 = x0
    · by_cases b1 : y = y0
      · repeat (first | rw [if_pos (by omega)] | rw [if_neg (by omega)])
        omega
      · by_cases b2 : y + 1 = y0
        · repeat (first | rw [if_pos (by omega)] | rw [if_neg (by omega)])
          omega
        · by_cases b3 : y = y0 + 1
          · repeat (first | rw [if_pos (by omega)] | rw [if_neg (by omega)])
            omega
          · repeat (first | rw [if_pos (by omega)] | rw [if_neg (by omega)])
            omega
    · by_cases a3 : x = x0 + 1
      · by_cases b1 : y = y0
        · repeat (first | rw [if_pos (by omega)] | rw [if_neg (by omega)])
          omega
        · by_cases b2 : y + 1 = y0
          · repeat (first | rw [if_pos (by omega)] | rw [if_neg (by omega)])
            omega
          · by_cases b3 : y = y0 + 1
            · repeat (first | rw [if_pos (by omega)] | rw [if_neg (by omega)])
              omega
            · repeat (first | rw [if_pos (by omega)] | rw [if_neg (by omega)])
              omega
      · repeat (first | rw [if_pos (by omega)] | rw [if_neg (by omega)])
        omega
theorem tsum5 (t m k : Nat) (cz : Bool) {x y x0 y0 : Nat} (hv : y + 1 = y0 → vis cz y = false) : m + k + (if (x : Int) = x0 - 1 ∧ (y : Int) = y0 then 1 + 128 * t else 0) + (if (x : Int) = x0 + 1 ∧ (y : Int) = y0 then 1 + 128 * t else 0) + (if (x : Int) = x0 - 1 ∧ (y : Int) = y0 + 1 then 16 else 0) + (if (x : Int) = x0 ∧ (y : Int) = y0 + 1 then 4 + 512 * t else 0) + (if (x : Int) = x0 + 1 ∧ (y : Int) = y0 + 1 then 16 else 0) = m + ((1 + 128 * t) * bN (nbH x0 y0 x y) + (4 + 512 * t) * bN (nbV cz x0 y0 x y) + 16 * bN (nbD cz x0 y0 x y)) + k := by
  have e1 : bN (nbH x0 y0 x y) = if y = y0 ∧ (x = x0 + 1 ∨ x + 1 = x0) then 1 else 0 := by unfold nbH bN; simp only [decide_eq_true_eq]
  have e2 : bN (nbV cz x0 y0 x y) = if x = x0 ∧ y = y0 + 1 then 1 else 0 := by
    unfold nbV bN
    simp only [decide_eq_true_eq]
    by_cases c : y + 1 = y0
    · rw [hv c]; simp [c]
    · simp [c]
  have e3 : bN (nbD cz x0 y0 x y) = if (x = x0 + 1 ∨ x + 1 = x0) ∧ y = y0 + 1 then 1 else 0 := by
    unfold nbD bN
    simp only [decide_eq_true_eq]
    by_cases c : y + 1 = y0
    · rw [hv c]; simp [c]
    · simp [c]
  rw [e1, e2, e3]
  by_cases a1 : x = x0
  · by_cases b1 : y = y0
    · repeat (first | rw [if_pos (by omega)] | rw [if_neg (by omega)])
      omega
    · by_cases b2 : y + 1 = y0
      · repeat (first | rw [if_pos (by omega)] | rw [if_neg (by omega)])
        omega
      · by_cases b3 : y = y0 + 1
        · repeat (first | rw [if_pos (by omega)] | rw [if_neg (by omega)])
          omega
        · repeat (first | rw [if_pos (by omega)] | rw [if_neg (by omega)])
          omega
  · by_cases a2 : x + 1 = x0
    · by_cases b1 : y = y0
      · repeat (first | rw [if_pos (by omega)] | rw [if_neg (by omega)])
        omega
      · by_cases b2 : y + 1 = y0
        · repeat (first | rw [if_pos (by omega)] | rw [if_neg (by omega)])
          omega
        · by_cases b3 : y = y0 + 1
          · repeat (first | rw [if_pos (by omega)] | rw [if_neg (by omega)])
            omega
          · repeat (first | rw [if_pos (by omega)] | rw [if_neg (by omega)])
            omega
    · by_cases a3 : x = x0 + 1
      · by_cases b1 : y = y0
        · repeat (first | rw [if_pos (by omega)] | rw [if_neg (by omega)])
          omega
        · by_cases b2 : y + 1 = y0
          · repeat (first | rw [if_pos (by omega)] | rw [if_neg (by omega)])
            omega
          · by_cases b3 : y = y0 + 1
            · repeat (first | rw [if_pos (by omega)] | rw [if_neg (by omega)])
              omega
            · repeat (first | rw [if_pos (by omega)] | rw [if_neg (by omega)])
              omega
      · repeat (first | rw [if_pos (by omega)] | rw [if_neg (by omega)])
        omega
theorem signify_ok {W H N : Nat} {cz : Bool} {G : GF} {x0 y0 : Nat} {mi : Bool} {marks : Nat → Int32} (hW : W ≤ 64) (hH : H ≤ 64) (hN : W * H ≤ N) (hN2 : N ≤ 4096) (hx0 : x0 < W) (hy0 : y0 < H) (hs : G.sg x0 y0 = false) (hn : G.ng x0 y0 = false) (hl : G.lt x0 y0 ≤ 30) (hm : ∀ x y, x < W → y < H → marks (y * W + x) = nI (markN cz G x y)) :
    P_X5_signify (nI x0) (nI y0) (bI mi) (nI W) (nI H) (bI cz) N marks ∧ ∀ x y, x < W → y < H → F_X5_signify (nI x0) (nI y0) (bI mi) (nI W) (nI H) (bI cz) marks (y * W + x) = nI (markN cz (gSig G x0 y0 mi) x y) := by
  have hp := plc hx0 hy0
  have hpc : (nI (y0 * W + x0)).toNatClampNeg = y0 * W + x0 := nI_clamp (by omega)
  obtain ⟨-, -, -, -, -, q6, q7, -, -, -⟩ := mark_bits cz G x0 y0
  rw [hs] at q6
  rw [hn] at q7
  have hlt := markN_lt (cz := cz) hl
  -- the mark itself
  have f0 : ∀ x y, x < W → y < H → upd marks (y0 * W + x0) (marks (y0 * W + x0) ||| J_X5_signify_j_4 (bI mi)) (y * W + x) = nI (markN cz G x y + (if x = x0 ∧ y = y0 then 2048 + 4096 * bN mi else 0)) := by
    intro x y hx hy
    by_cases e : x = x0 ∧ y = y0
    · obtain ⟨rfl, rfl⟩ := e
      rw [pk_us, if_pos ⟨rfl, rfl⟩, hm _ _ hx hy]
      cases mi with
      | true => exact mk_sig1 hlt q6 q7
      | false => exact mk_sig0 hlt q6
    · have hne : y * W + x ≠ y0 * W + x0 := fun z => e (plc_inj hx hx0 z)
      rw [pk_un hne, if_neg e, hm _ _ hx hy, Nat.add_zero]
  have tx1 := tI_sub1 (show x0 < 2 ^ 20 by omega)
  have tx2 := tI_add1 (show x0 < 2 ^ 20 by omega)
  have tx0 : (nI x0).toInt = (x0 : Int) := nI_toInt (by omega)
  have ty1 := tI_sub1 (show y0 < 2 ^ 20 by omega)
  have ty2 := tI_add1 (show y0 < 2 ^ 20 by omega)
  have ty0 : (nI y0).toInt = (y0 : Int) := nI_toInt (by omega)
  have T := @tell_ok W H N hW hH hN hN2
  unfold P_X5_signify F_X5_signify
  rw [place_ok, hpc, m7, m9]
  generalize upd marks (y0 * W + x0) (marks (y0 * W + x0) ||| J_X5_signify_j_4 (bI mi)) = g0 at f0 ⊢
  obtain ⟨p1, f1⟩ := T (w := nI (1 + 128 * bN mi)) g0 tx1 ty0
  obtain ⟨g1, e1⟩ : ∃ g, F_X5_tell (nI x0 - 1) (nI y0) (nI (1 + 128 * bN mi)) (nI W) (nI H) g0 = g := ⟨_, rfl⟩
  obtain ⟨p2, f2⟩ := T (w := nI (1 + 128 * bN mi)) g1 tx2 ty0
  obtain ⟨g2, e2⟩ : ∃ g, F_X5_tell (nI x0 + 1) (nI y0) (nI (1 + 128 * bN mi)) (nI W) (nI H) g1 = g := ⟨_, rfl⟩
  obtain ⟨p3, f3⟩ := T (w := nI 16) g2 tx1 ty2
  obtain ⟨g3, e3⟩ : ∃ g, F_X5_tell (nI x0 - 1) (nI y0 + 1) (nI 16) (nI W) (nI H) g2 = g := ⟨_, rfl⟩
  obtain ⟨p4, f4⟩ := T (w := nI (4 + 512 * bN mi)) g3 tx0 ty2
  obtain ⟨g4, e4⟩ : ∃ g, F_X5_tell (nI x0) (nI y0 + 1) (nI (4 + 512 * bN mi)) (nI W) (nI H) g3 = g := ⟨_, rfl⟩
  obtain ⟨p5, f5⟩ := T (w := nI 16) g4 tx2 ty2
  obtain ⟨g5, e5⟩ : ∃ g, F_X5_tell (nI x0 + 1) (nI y0 + 1) (nI 16) (nI W) (nI H) g4 = g := ⟨_, rfl⟩
  obtain ⟨p6, f6⟩ := T (w := nI 16) g5 tx1 ty1
  obtain ⟨g6, e6⟩ : ∃ g, F_X5_tell (nI x0 - 1) (nI y0 - 1) (nI 16) (nI W) (nI H) g5 = g := ⟨_, rfl⟩
  obtain ⟨p7, f7⟩ := T (w := nI (4 + 512 * bN mi)) g6 tx0 ty1
  obtain ⟨g7, e7⟩ : ∃ g, F_X5_tell (nI x0) (nI y0 - 1) (nI (4 + 512 * bN mi)) (nI W) (nI H) g6 = g := ⟨_, rfl⟩
  obtain ⟨p8, f8⟩ := T (w := nI 16) g7 tx2 ty1
  rw [e1] at f1
  rw [e2] at f2
  rw [e3] at f3
  rw [e4] at f4
  rw [e5] at f5
  rw [e6] at f6
  rw [e7] at f7
  have i16 : (16 : Int32) = nI 16 := rfl
  refine ⟨?_, ?_⟩
  · intro r er
    rw [← er, ]
    exact ⟨vp_in_nI (by omega) (by omega), fun _ _ => ⟨p1, fun _ _ => ⟨p2, fun _ _ => ⟨p3, fun _ _ => ⟨p4, fun _ _ => ⟨p5, fun _ _ => ⟨fun _ => ⟨p6, fun _ _ => ⟨p7, fun _ _ => p8⟩⟩, fun _ _ => ⟨p6, fun _ _ => ⟨p7, fun _ _ => p8⟩⟩⟩⟩⟩⟩⟩⟩⟩
  · intro x y hx hy
    have up : g5 (y * W + x) = nI (markN cz G x y + (if x = x0 ∧ y = y0 then 2048 + 4096 * bN mi else 0) + (if (x : Int) = x0 - 1 ∧ (y : Int) = y0 then 1 + 128 * bN mi else 0) + (if (x : Int) = x0 + 1 ∧ (y : Int) = y0 then 1 + 128 * bN mi else 0) + (if (x : Int) = x0 - 1 ∧ (y : Int) = y0 + 1 then 16 else 0) + (if (x : Int) = x0 ∧ (y : Int) = y0 + 1 then 4 + 512 * bN mi else 0) + (if (x : Int) = x0 + 1 ∧ (y : Int) = y0 + 1 then 16 else 0)) := by
      rw [f5 x y hx hy, f4 x y hx hy, f3 x y hx hy, f2 x y hx hy, f1 x y hx hy, f0 x y hx hy, ite_nI, ite_nI, ite_nI, ite_nI, ite_nI, nI_add, nI_add, nI_add, nI_add, nI_add]
    have dn : F_X5_tell (nI x0 + 1) (nI y0 - 1) (nI 16) (nI W) (nI H) g7 (y * W + x) = nI (markN cz G x y + (if x = x0 ∧ y = y0 then 2048 + 4096 * bN mi else 0) + (if (x : Int) = x0 - 1 ∧ (y : Int) = y0 then 1 + 128 * bN mi else 0) + (if (x : Int) = x0 + 1 ∧ (y : Int) = y0 then 1 + 128 * bN mi else 0) + (if (x : Int) = x0 - 1 ∧ (y : Int) = y0 + 1 then 16 else 0) + (if (x : Int) = x0 ∧ (y : Int) = y0 + 1 then 4 + 512 * bN mi else 0) + (if (x : Int) = x0 + 1 ∧ (y : Int) = y0 + 1 then 16 else 0) + (if (x : Int) = x0 - 1 ∧ (y : Int) = y0 - 1 then 16 else 0) + (if (x : Int) = x0 ∧ (y : Int) = y0 - 1 then 4 + 512 * bN mi else 0) + (if (x : Int) = x0 + 1 ∧ (y : Int) = y0 - 1 then 16 else 0)) := by
      rw [f8 x y hx hy, f7 x y hx hy, f6 x y hx hy, up, ite_nI, ite_nI, ite_nI, nI_add, nI_add, nI_add]
    have hrem : nI y0 - nI y0 / (4 : Int32) * (4 : Int32) = nI (y0 % 4) := pk_rem (d := 4) (by omega) (by omega) (by omega)
    rw [mark_sig cz hs hn]
    unfold gainN
    by_cases full : cz = false ∨ y0 % 4 ≠ 0
    · have hyv : y + 1 = y0 → vis cz y = true := by
        intro hy1
        rw [show y = y0 - 1 by omega]
        exact (vis_sub (by omega)).mpr full
      rw [tsum8 _ _ _ cz hyv] at dn
      rcases full with h0 | h0
      · have hc : bI cz = 0 := by rw [h0]; rfl
        rw [if_pos hc]
        simp only [e1, e2, i16, e3, e4, e5, e6, e7]
        exact dn
      · by_cases hc : bI cz = 0
        · rw [if_pos hc]
          simp only [e1, e2, i16, e3, e4, e5, e6, e7]
          exact dn
        · have hr : ¬ nI (y0 % 4) = (0 : Int32) := nI_ne0 (by omega) (by omega)
          rw [if_neg hc, hrem, if_neg hr]
          simp only [e1, e2, i16, e3, e4, e5, e6, e7]
          exact dn
    · have hcz : cz = true := by cases hq : cz with | true => rfl | false => exact absurd (Or.inl hq) full
      have hy4 : y0 % 4 = 0 := by
        by_cases z : y0 % 4 = 0
        · exact z
        · exact absurd (Or.inr z) full
      subst hcz
      have hc : ¬ bI true = 0 := by decide
      have hr : nI (y0 % 4) = (0 : Int32) := by rw [hy4]; rfl
      have hyv : y + 1 = y0 → vis true y = false := by
        intro hy1
        unfold vis
        rw [hy1, hy4]; rfl
      rw [tsum5 _ _ _ true hyv] at up
      rw [if_neg hc, hrem, if_pos hr]
      simp only [e1, e2, i16, e3, e4, e5]
      exact up
