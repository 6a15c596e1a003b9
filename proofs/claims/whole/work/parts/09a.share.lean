/-! ===== PURE: what a bit takes of the interval, class ===== -/
def shLike (low sz p : Nat) : Nat × Nat := if sz - p < p then (low, p) else (low + p, sz - p)
def shOth (low sz p : Nat) : Nat × Nat := if sz - p < p then (low + p, sz - p) else (low, p)
theorem share_like {low sz p : Nat} (hp : p ≤ sz) (hs : sz < 2 ^ 31) : F_X3_takeShare (J_N3_j_17 (nI sz) (nI p)) (nI p) (nI low) (nI sz - nI p) = (nI (shLike low sz p).1, nI (shLike low sz p).2) := by
  unfold J_N3_j_17 F_X3_takeShare shLike
  rw [pk_sub hp]
  by_cases e : sz - p < p
  · have e1 : ¬ nI p ≤ nI (sz - p) := nI_ge e (by omega)
    rw [if_neg e1, if_neg (by decide), if_pos e]
  · have e1 : nI p ≤ nI (sz - p) := nI_le (by omega) (by omega)
    rw [if_pos e1, if_pos rfl, if_neg e, nI_add]
theorem share_oth {low sz p : Nat} (hp : p ≤ sz) (hs : sz < 2 ^ 31) : F_X3_takeShare (J_N3_j_5 (nI sz) (nI p)) (nI p) (nI low) (nI sz - nI p) = (nI (shOth low sz p).1, nI (shOth low sz p).2) := by
  unfold J_N3_j_5 F_X3_takeShare shOth
  rw [pk_sub hp]
  by_cases e : sz - p < p
  · have e1 : nI (sz - p) < nI p := nI_lt e (by omega)
    rw [if_pos e1, if_pos rfl, if_pos e, nI_add]
  · have e1 : ¬ nI (sz - p) < nI p := nI_nlt (by omega) (by omega)
    rw [if_neg e1, if_neg (by decide), if_neg e]
theorem shLike_in {low sz p : Nat} (hp : 1 ≤ p) (h2 : p ≤ 22017) (h3 : 32768 ≤ sz) (h4 : sz < 65536) : 1 ≤ (shLike low sz p).2 ∧ (shLike low sz p).2 < 65536 ∧ (shLike low sz p).1 + (shLike low sz p).2 ≤ low + sz := by
  unfold shLike
  split <;> (refine ⟨?_, ?_, ?_⟩ <;> simp <;> omega)
theorem shOth_in {low sz p : Nat} (hp : 1 ≤ p) (h2 : p ≤ 22017) (h3 : 32768 ≤ sz) (h4 : sz < 65536) : 1 ≤ (shOth low sz p).2 ∧ (shOth low sz p).2 < 65536 ∧ (shOth low sz p).1 + (shOth low sz p).2 ≤ low + sz := by
  unfold shOth
  split <;> (refine ⟨?_, ?_, ?_⟩ <;> simp <;> omega)
theorem p15 {z : Nat} (h : 1 ≤ z) : 32768 ≤ z * 2 ^ 15 := by omega
