/-! ===== PURE: the row of bytes of the class ===== -/
/-- c bytes in a row of n places that hold b -/
def rOk (c n : Nat) (f : Nat → Int32) (b : Nat → Nat) : Prop := c ≤ n ∧ 16 ≤ n ∧ n ≤ 131072 ∧ cEq c f b
theorem i2 : (2 : Int32) = nI 2 := rfl
theorem z0c : (0 : Int32).toNatClampNeg = 0 := by decide
theorem copy_ok {n : Nat} (h1 : 16 ≤ n) (h2 : n < 65536 + 1) (f : Nat → Int32) : P_J7_copyOf_59c91 (nI (2 * n)) n ∧ (F_J7_copyOf_59c91 (nI (2 * n)) n f).1 = 2 * n ∧ (∀ j, j < n → (F_J7_copyOf_59c91 (nI (2 * n)) n f).2 j = f j) ∧ D_J7_copyOf_59c91 (nI (2 * n)) n = 2 * n + 1 := by
  have hne : ¬ nI (2 * n) = nI n := fun e => by have := (nI_eq (by omega) (by omega)).mp e; omega
  have hmin : (if nI (2 * n) < nI n then nI (2 * n) else nI n) = nI n := if_neg (nI_nlt (by omega) (by omega))
  have hcl : (nI (2 * n)).toNatClampNeg = 2 * n := nI_clamp (by omega)
  have hcn : (nI n).toNatClampNeg = n := nI_clamp (by omega)
  refine ⟨?_, ?_, ?_, ?_⟩
  · unfold P_J7_copyOf_59c91
    refine ⟨fun e => hne e, fun _ => ?_⟩
    rw [hmin, hcl, hcn, z0c]
    exact ⟨nI_pos (by omega), by omega, nI_pos (by omega), by omega, by omega⟩
  · unfold F_J7_copyOf_59c91
    rw [if_neg hne, hcl]
  · intro j hj
    unfold F_J7_copyOf_59c91
    rw [if_neg hne, hmin, hcn, z0c]
    have e := pk_cpy_in (f := f) (g := fun _ => (0 : Int32)) (sp := 0) (dp := 0) (n := n) (j := j) (by omega) (by omega)
    rw [show 0 + (j - 0) = j by omega] at e
    exact e
  · unfold D_J7_copyOf_59c91
    rw [if_neg hne, hcl]
theorem append_ok {c n x : Nat} {f : Nat → Int32} {b : Nat → Nat} (h : rOk c n f b) (hc : c < 65536) : P_X1_append (nI c) n f ∧ (F_X1_append (nI x) (nI c) n f).1 = nI (c + 1) ∧ rOk (c + 1) (F_X1_append (nI x) (nI c) n f).2.1 (F_X1_append (nI x) (nI c) n f).2.2 (nup b c x) ∧ n ≤ (F_X1_append (nI x) (nI c) n f).2.1 ∧ D_X1_append (nI c) n f + 3 * n ≤ 3 * (F_X1_append (nI x) (nI c) n f).2.1 := by
  obtain ⟨h1, h2, h3, h4⟩ := h
  have hcl : (nI c).toNatClampNeg = c := nI_clamp (by omega)
  have key : ∀ (n' : Nat) (f' : Nat → Int32), c < n' → 16 ≤ n' → n' ≤ 131072 → (∀ j, j < c → f' j = f j) → rOk (c + 1) n' (upd f' c (nI x)) (nup b c x) := by
    intro n' f' a1 a2 a3 a4
    refine ⟨by omega, a2, a3, fun j hj => ?_⟩
    unfold upd nup
    by_cases e : j = c
    · rw [if_pos e, if_pos e]
    · rw [if_neg e, if_neg e, a4 j (by omega)]; exact h4 j (by omega)
  by_cases e : c = n
  · subst e
    obtain ⟨k1, k2, k3, k4⟩ := copy_ok h2 (by omega) f
    have hj : J_X1_append_j_4 (nI c) c f = F_J7_copyOf_59c91 (nI (2 * c)) c f := by
      unfold J_X1_append_j_4
      rw [if_pos rfl, i2, pk_mul]
    have hd : D_X1_append (nI c) c f = 2 * c + 1 := by
      unfold D_X1_append DJ_X1_append_j_4
      rw [if_pos rfl, i2, pk_mul, k4]
      rfl
    have hF : F_X1_append (nI x) (nI c) c f = (nI c + 1, (F_J7_copyOf_59c91 (nI (2 * c)) c f).1, upd (F_J7_copyOf_59c91 (nI (2 * c)) c f).2 c (nI x)) := by
      unfold F_X1_append
      rw [hj, hcl]
    rw [hF, hd, k2]
    refine ⟨?_, (nI_succ c).symm, key _ _ (by omega) (by omega) (by omega) k3, by omega, by omega⟩
    unfold P_X1_append PJ_X1_append_j_4
    rw [hj, i2, pk_mul]
    refine ⟨fun _ => k1, fun j e => ?_⟩
    rw [← e, k2]
    exact vp_in_nI (by omega) (by omega)
  · have hne : ¬ nI c = nI n := fun x => e ((nI_eq (by omega) (by omega)).mp x)
    have hj : J_X1_append_j_4 (nI c) n f = (n, f) := by
      unfold J_X1_append_j_4
      rw [if_neg hne]
    have hd : D_X1_append (nI c) n f = 0 := by
      unfold D_X1_append DJ_X1_append_j_4
      rw [if_neg hne]
      rfl
    have hF : F_X1_append (nI x) (nI c) n f = (nI c + 1, n, upd f c (nI x)) := by
      unfold F_X1_append
      rw [hj, hcl]
    rw [hF, hd]
    refine ⟨?_, (nI_succ c).symm, key n f (by omega) h2 h3 (fun _ _ => rfl), Nat.le_refl _, by show 0 + 3 * n ≤ 3 * n; omega⟩
    unfold P_X1_append PJ_X1_append_j_4
    rw [hj]
    refine ⟨fun x => absurd x hne, fun j e => ?_⟩
    rw [← e]
    exact vp_in_nI (by omega) (by omega)
