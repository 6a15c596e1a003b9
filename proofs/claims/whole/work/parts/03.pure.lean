/-! ===== PURE: Arrays.fill, the contexts ===== -/
theorem fill_loop (p2 : Int32) (N : Nat) (hN : N < 2 ^ 31) : ∀ (k i n : Nat) (f : Nat → Int32), i + k = N → k < n → PL_J7_fill_53178_j_1 p2 N n (nI i) f ∧ L_J7_fill_53178_j_1 p2 N n (nI i) f = (nI N, fun j => if i ≤ j ∧ j < N then p2 else f j) := by
  intro k
  induction k with
  | zero =>
    intro i n f h hn
    obtain ⟨n, rfl⟩ : ∃ m, n = m + 1 := ⟨n - 1, by omega⟩
    have hi : i = N := by omega
    subst hi
    have hle : nI i ≤ nI i := nI_le (Nat.le_refl _) hN
    rw [PL_J7_fill_53178_j_1, L_J7_fill_53178_j_1, if_pos hle]
    refine ⟨fun h9 => absurd hle h9, ?_⟩
    congr 1
    funext j
    rw [if_neg (by omega)]
  | succ k ih =>
    intro i n f h hn
    obtain ⟨n, rfl⟩ : ∃ m, n = m + 1 := ⟨n - 1, by omega⟩
    have hlt : i < N := by omega
    have hnle : ¬ nI N ≤ nI i := nI_ge hlt hN
    obtain ⟨h1, h2⟩ := ih (i + 1) n (upd f i p2) (by omega) (by omega)
    rw [PL_J7_fill_53178_j_1, L_J7_fill_53178_j_1, if_neg hnle, nI_clamp (by omega), ← nI_succ]
    refine ⟨fun _ => ⟨vp_in_nI hlt hN, h1⟩, ?_⟩
    rw [h2]
    congr 1
    funext j
    by_cases hj : i + 1 ≤ j ∧ j < N
    · rw [if_pos hj, if_pos (by omega)]
    · rw [if_neg hj]
      by_cases hji : j = i
      · subst hji
        rw [pk_us, if_pos (by omega)]
      · rw [pk_un hji, if_neg (by omega)]
theorem fill_ok (p2 : Int32) {N : Nat} (hN : N < 100000) (f : Nat → Int32) : P_J7_fill_53178 p2 N f ∧ F_J7_fill_53178 p2 N f = fun j => if j < N then p2 else f j := by
  have hf := fu_ge
  obtain ⟨h1, h2⟩ := fill_loop p2 N (by omega) N 0 fu f (by omega) (by omega)
  rw [nI_0] at h1 h2
  refine ⟨h1, ?_⟩
  unfold F_J7_fill_53178
  rw [h2]
  funext j
  simp
/-- the contexts as they begin -/
def ctx0 (j : Nat) : Int32 := if j = 0 then 4 else if j = 17 then 3 else if j = 18 then 46 else 0
theorem restart_ok {n1 n2 : Nat} (h1 : n1 = 19) (h2 : n2 = 19) (sf lf : Nat → Int32) : P_X4_restart n1 sf n2 lf ∧ (∀ j, j < 19 → (F_X4_restart n1 sf n2 lf).1 j = ctx0 j) ∧ ∀ j, j < 19 → (F_X4_restart n1 sf n2 lf).2 j = 0 := by
  subst h1 h2
  obtain ⟨a1, a2⟩ := fill_ok 0 (show 19 < 100000 by omega) sf
  obtain ⟨b1, b2⟩ := fill_ok 0 (show 19 < 100000 by omega) lf
  refine ⟨⟨a1, fun r _ => ⟨b1, fun r2 _ => ⟨by unfold vp_in; decide, by unfold vp_in; decide, by unfold vp_in; decide⟩⟩⟩, ?_, ?_⟩
  · intro j hj
    unfold F_X4_restart
    rw [a2, b2]
    show upd (upd (upd _ _ _) _ _) _ _ j = ctx0 j
    unfold upd ctx0
    have e0 : (0 : Int32).toNatClampNeg = 0 := by decide
    have e17 : (17 : Int32).toNatClampNeg = 17 := by decide
    have e18 : (18 : Int32).toNatClampNeg = 18 := by decide
    rw [e0, e17, e18]
    by_cases c18 : j = 18
    · subst c18; rfl
    · by_cases c17 : j = 17
      · subst c17; rfl
      · by_cases c0 : j = 0
        · subst c0; rfl
        · simp [c18, c17, c0, hj]
  · intro j hj
    unfold F_X4_restart
    rw [a2, b2]
    show (if j < 19 then (0 : Int32) else lf j) = 0
    rw [if_pos hj]
