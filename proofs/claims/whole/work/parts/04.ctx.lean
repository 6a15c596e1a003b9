/-! ===== PURE: the contexts of both sides, tied to numbers ===== -/
def lP : List Nat := [22017, 13313, 6145, 2753, 1313, 545, 22017, 21505, 18433, 14337, 12289, 9217, 7169, 5633, 22017, 21505, 20737, 18433, 14337, 13313, 12289, 10241, 9217, 8705, 7169, 6145, 5633, 5121, 4609, 4353, 2753, 2497, 2209, 1313, 1089, 673, 545, 321, 273, 133, 73, 37, 21, 9, 5, 1, 22017]
def lN' : List Nat := [1, 2, 3, 4, 5, 38, 7, 8, 9, 10, 11, 12, 13, 29, 15, 16, 17, 18, 19, 20, 21, 22, 23, 24, 25, 26, 27, 28, 29, 30, 31, 32, 33, 34, 35, 36, 37, 38, 39, 40, 41, 42, 43, 44, 45, 45, 46]
def lO : List Nat := [1, 6, 9, 12, 29, 33, 6, 14, 14, 14, 17, 18, 20, 21, 14, 14, 15, 16, 17, 18, 19, 19, 20, 21, 22, 23, 24, 25, 26, 27, 28, 29, 30, 31, 32, 33, 34, 35, 36, 37, 38, 39, 40, 41, 42, 43, 46]
def nP (s : Nat) : Nat := lP.getD s 0
def nN (s : Nat) : Nat := lN'.getD s 0
def nO (s : Nat) : Nat := lO.getD s 0
theorem tabP_n : ∀ s, s < 47 → tabP s = nI (nP s) := by decide +kernel
theorem tabN_n : ∀ s, s < 47 → tabN s = nI (nN s) := by decide +kernel
theorem tabO_n : ∀ s, s < 47 → tabO s = nI (nO s) := by decide +kernel
theorem nN_lt : ∀ s, s < 47 → nN s < 47 := by decide +kernel
theorem nO_lt : ∀ s, s < 47 → nO s < 47 := by decide +kernel
theorem nP_in : ∀ s, s < 47 → 1 ≤ nP s ∧ nP s ≤ 22017 := by decide +kernel
/-- a row of numbers as the machine has it, on its first N places -/
def cEq (N : Nat) (f : Nat → Int32) (g : Nat → Nat) : Prop := ∀ j, j < N → f j = nI (g j)
def nup (g : Nat → Nat) (k x : Nat) : Nat → Nat := fun j => if j = k then x else g j
theorem cEq_up {N : Nat} {f : Nat → Int32} {g : Nat → Nat} (h : cEq N f g) (k x : Nat) : cEq N (upd f k (nI x)) (nup g k x) := by
  intro j hj
  unfold upd nup
  by_cases c : j = k
  · rw [if_pos c, if_pos c]
  · rw [if_neg c, if_neg c]; exact h j hj
/-- the contexts hold: states 0 .. 46, likely bits 0 or 1 -/
def cOk (cs cl : Nat → Nat) : Prop := (∀ j, j < 19 → cs j < 47) ∧ ∀ j, j < 19 → cl j < 2
def sTurn (s : Nat) : Bool := s == 0 || s == 6 || s == 14
def sLike (cs : Nat → Nat) (k : Nat) : Nat → Nat := nup cs k (nN (cs k))
def sOth (cs : Nat → Nat) (k : Nat) : Nat → Nat := nup cs k (nO (cs k))
def sFlip (cs cl : Nat → Nat) (k : Nat) : Nat → Nat := if sTurn (cs k) then nup cl k (1 - cl k) else cl
theorem cOk_like {cs cl : Nat → Nat} (h : cOk cs cl) {k : Nat} (hk : k < 19) : cOk (sLike cs k) cl := by
  refine ⟨fun j hj => ?_, h.2⟩
  unfold sLike nup
  by_cases c : j = k
  · rw [if_pos c]; exact nN_lt _ (h.1 k hk)
  · rw [if_neg c]; exact h.1 j hj
theorem cOk_oth {cs cl : Nat → Nat} (h : cOk cs cl) {k : Nat} (hk : k < 19) : cOk (sOth cs k) (sFlip cs cl k) := by
  refine ⟨fun j hj => ?_, fun j hj => ?_⟩
  · unfold sOth nup
    by_cases c : j = k
    · rw [if_pos c]; exact nO_lt _ (h.1 k hk)
    · rw [if_neg c]; exact h.1 j hj
  · unfold sFlip
    split
    · unfold nup
      by_cases c : j = k
      · rw [if_pos c]; have := h.2 k hk; omega
      · rw [if_neg c]; exact h.2 j hj
    · exact h.2 j hj
section Ctx
variable {sf lf : Nat → Int32} {cs cl : Nat → Nat}
theorem x4_part (h : cEq 19 sf cs) (ho : cOk cs cl) {k : Nat} (hk : k < 19) : P_X4_part (nI k) 19 sf ∧ F_X4_part (nI k) sf = nI (nP (cs k)) := by
  have h1 := ho.1 k hk
  unfold P_X4_part F_X4_part
  rw [nI_clamp (by omega), h k hk, nI_clamp (by omega), tabP_n _ h1]
  exact ⟨⟨vp_in_nI hk (by decide), vp_in_nI h1 (by decide)⟩, rfl⟩
theorem x4_bit (h : cEq 19 lf cl) {k : Nat} (hk : k < 19) : P_X4_likelyBit (nI k) 19 ∧ F_X4_likelyBit (nI k) lf = nI (cl k) := by
  unfold P_X4_likelyBit F_X4_likelyBit
  rw [nI_clamp (by omega), h k hk]
  exact ⟨vp_in_nI hk (by decide), rfl⟩
theorem x4_like (h : cEq 19 sf cs) (ho : cOk cs cl) {k : Nat} (hk : k < 19) : P_X4_likelyCame (nI k) 19 sf ∧ cEq 19 (F_X4_likelyCame (nI k) sf) (sLike cs k) := by
  have h1 := ho.1 k hk
  unfold P_X4_likelyCame F_X4_likelyCame
  rw [nI_clamp (by omega), h k hk, nI_clamp (by omega), tabN_n _ h1]
  exact ⟨⟨vp_in_nI hk (by decide), vp_in_nI h1 (by decide)⟩, cEq_up h k _⟩
theorem one_sub {b : Nat} (h : b < 2) : (1 : Int32) - nI b = nI (1 - b) := by
  rcases (show b = 0 ∨ b = 1 by omega) with rfl | rfl <;> rfl
theorem flipEq (h : cEq 19 sf cs) (hl : cEq 19 lf cl) (ho : cOk cs cl) {k : Nat} (hk : k < 19) : cEq 19 (if sf k = (0 : Int32) then upd lf k ((1 : Int32) - lf k) else (if sf k = (6 : Int32) then upd lf k ((1 : Int32) - lf k) else (if sf k = (14 : Int32) then upd lf k ((1 : Int32) - lf k) else lf))) (sFlip cs cl k) := by
  have h1 := ho.1 k hk
  have e : ∀ c : Nat, c < 47 → (sf k = nI c ↔ cs k = c) := fun c hc => by rw [h k hk]; exact nI_eq (by omega) (by omega)
  have e0 : sf k = (0 : Int32) ↔ cs k = 0 := e 0 (by omega)
  have e6 : sf k = (6 : Int32) ↔ cs k = 6 := e 6 (by omega)
  have e14 : sf k = (14 : Int32) ↔ cs k = 14 := e 14 (by omega)
  have hu : cEq 19 (upd lf k ((1 : Int32) - lf k)) (nup cl k (1 - cl k)) := by rw [hl k hk, one_sub (ho.2 k hk)]; exact cEq_up hl k _
  unfold sFlip sTurn
  by_cases c0 : cs k = 0
  · rw [if_pos (e0.mpr c0), if_pos (by simp [c0])]; exact hu
  · rw [if_neg (fun x => c0 (e0.mp x))]
    by_cases c6 : cs k = 6
    · rw [if_pos (e6.mpr c6), if_pos (by simp [c6])]; exact hu
    · rw [if_neg (fun x => c6 (e6.mp x))]
      by_cases c14 : cs k = 14
      · rw [if_pos (e14.mpr c14), if_pos (by simp [c14])]; exact hu
      · rw [if_neg (fun x => c14 (e14.mp x)), if_neg (by simp [c0, c6, c14])]; exact hl
theorem x4_oth (h : cEq 19 sf cs) (hl : cEq 19 lf cl) (ho : cOk cs cl) {k : Nat} (hk : k < 19) : P_X4_otherCame (nI k) 19 sf 19 lf ∧ cEq 19 (F_X4_otherCame (nI k) sf lf).1 (sOth cs k) ∧ cEq 19 (F_X4_otherCame (nI k) sf lf).2 (sFlip cs cl k) := by
  have h1 := ho.1 k hk
  have hin := vp_in_nI hk (show 19 < 2 ^ 31 by decide)
  refine ⟨?_, ?_, ?_⟩
  · unfold P_X4_otherCame PJ_X4_otherCame_j_11
    rw [nI_clamp (by omega), h k hk]
    exact ⟨hin, ⟨fun _ => hin, fun _ => ⟨fun _ => hin, fun _ _ => hin⟩⟩, fun _ _ => vp_in_nI h1 (by decide)⟩
  · show cEq 19 (upd sf (nI k).toNatClampNeg (tabO (sf (nI k).toNatClampNeg).toNatClampNeg)) _
    rw [nI_clamp (by omega), h k hk, nI_clamp (by omega), tabO_n _ h1]
    exact cEq_up h k _
  · show cEq 19 (J_X4_otherCame_j_11 (nI k) sf lf) _
    unfold J_X4_otherCame_j_11
    rw [nI_clamp (by omega)]
    exact flipEq h hl ho hk
/-- the reference's row 'other' -/
theorem x11_oth {mo : Nat → Int32} (hm : cEq 47 mo nO) (h : cEq 19 sf cs) (hl : cEq 19 lf cl) (ho : cOk cs cl) {k : Nat} (hk : k < 19) : P_X11_changeContext (nI k) 0 47 19 sf 19 lf ∧ cEq 19 (F_X11_changeContext (nI k) 0 mo sf lf).1 (sOth cs k) ∧ cEq 19 (F_X11_changeContext (nI k) 0 mo sf lf).2 (sFlip cs cl k) := by
  have h1 := ho.1 k hk
  have hin := vp_in_nI hk (show 19 < 2 ^ 31 by decide)
  have hF : F_X11_changeContext (nI k) 0 mo sf lf = (upd sf (nI k).toNatClampNeg (mo (sf (nI k).toNatClampNeg).toNatClampNeg), J_X11_changeContext_j_12 (nI k) 0 sf lf) := by unfold F_X11_changeContext; rw [if_pos rfl]
  refine ⟨?_, ?_, ?_⟩
  · unfold P_X11_changeContext PJ_X11_changeContext_j_12
    rw [nI_clamp (by omega), h k hk]
    exact ⟨hin, fun _ => ⟨fun _ => hin, fun _ => ⟨fun _ => hin, fun _ _ => hin⟩⟩, fun _ _ _ => vp_in_nI h1 (by decide)⟩
  · rw [hF]
    show cEq 19 (upd sf (nI k).toNatClampNeg (mo (sf (nI k).toNatClampNeg).toNatClampNeg)) _
    rw [nI_clamp (by omega), h k hk, nI_clamp (by omega), hm _ h1]
    exact cEq_up h k _
  · rw [hF]
    show cEq 19 (J_X11_changeContext_j_12 (nI k) 0 sf lf) _
    unfold J_X11_changeContext_j_12
    rw [if_pos rfl, nI_clamp (by omega)]
    exact flipEq h hl ho hk
theorem nN_val : ∀ s, s < 47 → nN s = if 45 ≤ s then s else if s = 5 then 38 else if s = 13 then 29 else s + 1 := by decide +kernel
theorem x11_like {mo : Nat → Int32} (h : cEq 19 sf cs) (ho : cOk cs cl) {k : Nat} (hk : k < 19) : P_X11_changeContext (nI k) 1 47 19 sf 19 lf ∧ cEq 19 (F_X11_changeContext (nI k) 1 mo sf lf).1 (sLike cs k) ∧ (F_X11_changeContext (nI k) 1 mo sf lf).2 = lf := by
  have h1 := ho.1 k hk
  have hin := vp_in_nI hk (show 19 < 2 ^ 31 by decide)
  have n1 : ¬ (1 : Int32) = 0 := by decide
  have hj : J_X11_changeContext_j_12 (nI k) 1 sf lf = lf := by unfold J_X11_changeContext_j_12; rw [if_neg n1]
  refine ⟨?_, ?_⟩
  · unfold P_X11_changeContext PJ_X11_changeContext_j_12
    exact ⟨hin, fun c => absurd c n1, fun _ _ c => absurd c n1⟩
  · unfold F_X11_changeContext sLike
    rw [hj, nN_val _ h1]
    simp only [nI_clamp (show k < 2 ^ 31 by omega), h k hk]
    rw [if_neg n1]
    have e45 : (45 : Int32) ≤ nI (cs k) ↔ 45 ≤ cs k := nI_leI (a := 45) (by omega) (by omega)
    have e5 : nI (cs k) = (5 : Int32) ↔ cs k = 5 := nI_eq (b := 5) (by omega) (by omega)
    have e13 : nI (cs k) = (13 : Int32) ↔ cs k = 13 := nI_eq (b := 13) (by omega) (by omega)
    by_cases c45 : 45 ≤ cs k
    · rw [if_pos (e45.mpr c45), if_pos c45]
      refine ⟨fun j hj => ?_, rfl⟩
      show sf j = nI (if j = k then cs k else cs j)
      by_cases c : j = k
      · rw [if_pos c, c]; exact h k hk
      · rw [if_neg c]; exact h j hj
    · rw [if_neg (fun x => c45 (e45.mp x)), if_neg c45]
      by_cases c5 : cs k = 5
      · rw [if_pos (e5.mpr c5), if_pos c5]; exact ⟨cEq_up h k 38, rfl⟩
      · rw [if_neg (fun x => c5 (e5.mp x)), if_neg c5]
        by_cases c13 : cs k = 13
        · rw [if_pos (e13.mpr c13), if_pos c13]; exact ⟨cEq_up h k 29, rfl⟩
        · rw [if_neg (fun x => c13 (e13.mp x)), if_neg c13, ← nI_succ]; exact ⟨cEq_up h k _, rfl⟩
end Ctx
