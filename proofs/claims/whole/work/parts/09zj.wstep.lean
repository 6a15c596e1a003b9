/-! ===== PURE: one pass of write, with its plan ===== -/
def sgo (sty : Int32) (T : Nat) : Nat → Nat
  | 0 => 0
  | k + 1 => sgo sty T k + bN (endB sty T k)
theorem sgo_le (sty : Int32) (T : Nat) : ∀ k, sgo sty T k ≤ k := by
  intro k
  induction k with
  | zero => exact Nat.le_refl _
  | succ k ih => show sgo sty T k + bN (endB sty T k) ≤ k + 1; have := bN_le (endB sty T k); omega
theorem sgo_mono (sty : Int32) (T : Nat) : ∀ k j, j ≤ k → sgo sty T j ≤ sgo sty T k := by
  intro k
  induction k with
  | zero => intro j h; rw [show j = 0 by omega]; exact Nat.le_refl _
  | succ k ih =>
    intro j h
    by_cases c : j = k + 1
    · rw [c]; exact Nat.le_refl _
    · have := ih j (by omega)
      show _ ≤ sgo sty T k + bN (endB sty T k)
      omega
theorem raw_next {sty : Int32} {T k : Nat} (h : endB sty T k = false) : rawB sty (k + 1) = rawB sty k := by
  unfold endB at h
  unfold rawB
  by_cases c : (sty &&& (1 : Int32)) = (0 : Int32)
  · rw [decide_eq_true c]; rfl
  · rw [decide_eq_false c] at h ⊢
    simp only [Bool.or_eq_false_iff, Bool.not_false, Bool.true_and, Bool.and_eq_false_iff, decide_eq_false_iff_not] at h ⊢
    obtain ⟨-, -, h2, h3⟩ := h
    have e1 : (10 ≤ k + 1 ∧ kdN (k + 1) ≠ 2) ↔ (10 ≤ k ∧ kdN k ≠ 2) := by unfold kdN at *; omega
    by_cases q : 10 ≤ k ∧ kdN k ≠ 2
    · have q2 := e1.mpr q
      rw [decide_eq_true q.1, decide_eq_true q.2, decide_eq_true q2.1, decide_eq_true q2.2]
    · have q2 : ¬ (10 ≤ k + 1 ∧ kdN (k + 1) ≠ 2) := fun z => q (e1.mp z)
      have a1 : (decide (10 ≤ k + 1) && decide (kdN (k + 1) ≠ 2)) = false := by
        cases h5 : (decide (10 ≤ k + 1) && decide (kdN (k + 1) ≠ 2)) with
        | false => rfl
        | true => simp only [Bool.and_eq_true, decide_eq_true_eq] at h5; exact absurd h5 q2
      have a2 : (decide (10 ≤ k) && decide (kdN k ≠ 2)) = false := by
        cases h5 : (decide (10 ≤ k) && decide (kdN k ≠ 2)) with
        | false => rfl
        | true => simp only [Bool.and_eq_true, decide_eq_true_eq] at h5; exact absurd h5 q
      rw [a1, a2]
/-- what is written down of the passes ahead of k: rc bytes reach, sb where its segment begins -/
def Rch (sty : Int32) (T k : Nat) (rc sb : Nat → Nat) (rch mrch mso mbg mln : Nat → Int32) : Prop :=
  (∀ j, j < k → rch j = nI (rc j)) ∧ (∀ j, j < k → mrch j = nI (rc j)) ∧ (∀ j, j < k → rc j ≤ 65541) ∧ (∀ j, j < k → mso j = nI (sgo sty T j)) ∧ (∀ j, j < k → mbg (sgo sty T j) = nI (sb j)) ∧ (∀ j, j < k → sb j ≤ rc j) ∧ (∀ j, j < k → endB sty T j = true → mln (sgo sty T j) = nI (rc j - sb j)) ∧ (∀ j, j + 1 < k → sb (j + 1) = if endB sty T j then rc j else sb j) ∧ (0 < k → sb 0 = 0)
/-- both sides ahead of pass k of T: st where the open segment begins (or the next one will), f0 its first pass -/
def WRel (b : EnvB) (P T k M f0 st : Nat) (G : GF) (g gc rc sb : Nat → Nat) (c : CS) (m : MS) (mags marks known below latest early again rch mrch mso mbg mln : Nat → Int32) (seg mseg fst : Int32) (gns mgns : Nat → Int64) (bef : Int64) : Prop :=
  M ≤ 4 * qN k ∧ (staB b.sty T k = true → Seg (nT b g gc M) (838 + 1113 * k) st c m ∧ f0 = k ∧ st = (if k = 0 then 0 else rc (k - 1))) ∧ (staB b.sty T k = false → Cod (bN (rawB b.sty k)) (nT b g gc M) (838 + 1113 * k) c m ∧ c.start = nI st ∧ f0 < k ∧ sb (k - 1) = st) ∧ st ≤ 65536 ∧
  Fld b.W b.H (czOf b.sty) (if k < T then pW P k else 0) G mags marks known below latest early again ∧ ChW b k G g gc ∧ bef = errS b G ∧ f0 ≤ k ∧ (∀ j, j < f0 → rc j ≤ st) ∧ (∀ j, f0 ≤ j → j < k → sb j = st) ∧ Rch b.sty T k rc sb rch mrch mso mbg mln ∧ seg = nI (sgo b.sty T k) ∧ mseg = nI (sgo b.sty T k) ∧ fst = nI f0 ∧ (∀ j, j < k → gns j = mgns j)
theorem bkI (r : Bool) : wrI (bN r) = 1 ∧ rawI (bN r) = bI r ∧ J_X10_write_j_14 (bI r) = bN r := by cases r <;> exact ⟨rfl, rfl, rfl⟩
theorem Cod.count {r : Bool} {N K : Nat} {c : CS} {m : MS} {st : Nat} (h : Cod (bN r) N K c m) (hst : c.start = nI st) (h2 : st ≤ 65536) : ∃ n, c.count = nI n ∧ m.size = nI n ∧ n ≤ 65536 ∧ st ≤ n ∧ m.begin = nI st := by
  cases r with
  | false =>
    obtain ⟨cs, cl, b, n, st', lw, sz, rm, z, t, e1, e2, e3, rest⟩ := h
    have htop := t.top
    have hs : st' = st := (nI_eq (by omega) (by omega)).mp (e1.symm.trans hst)
    subst hs
    exact ⟨n, t.cnt, t.siz, t.top, e3, e2⟩
  | true =>
    obtain ⟨cs, cl, b, n, st', fr, t, e1, e2, e3, rest⟩ := h
    have htop := t.top
    have h3 := e3.1
    have hs : st' = st := (nI_eq (by omega) (by omega)).mp (e1.symm.trans hst)
    subst hs
    exact ⟨n, t.cnt, t.siz, t.top, e3.1, e2⟩
