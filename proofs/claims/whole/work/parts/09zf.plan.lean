/-! ===== PURE: the plan of both sides ===== -/
def kdN (k : Nat) : Nat := (k + 2) % 3
def plN (P k : Nat) : Nat := P - 1 - (k + 2) / 3
theorem kd_all : ∀ k, k < 91 → F_X6_kindOf (nI k) = nI (kdN k) ∧ F_X11_kindOf (nI k) = nI (kdN k) := by decide +kernel
theorem pl_all : ((List.range 32).all fun P => (List.range 91).all fun k => !(Nat.blt (k + 2) (3 * P)) || (F_X6_planeOf (nI k) (nI P) == nI (plN P k) && F_X11_planeOf (nI k) (nI P) == nI (plN P k))) = true := by decide +kernel
theorem pl_ok {P k : Nat} (hP : P < 32) (h : k + 2 < 3 * P) : F_X6_planeOf (nI k) (nI P) = nI (plN P k) ∧ F_X11_planeOf (nI k) (nI P) = nI (plN P k) := by
  have a := pl_all
  rw [List.all_eq_true] at a
  have a := a P (List.mem_range.mpr hP)
  rw [List.all_eq_true] at a
  have a := a k (List.mem_range.mpr (by omega))
  have e1 : Nat.blt (k + 2) (3 * P) = true := by simpa using h
  rw [e1] at a
  simpa using a
def rawB (sty : Int32) (k : Nat) : Bool := !decide ((sty &&& (1 : Int32)) = (0 : Int32)) && (decide (10 ≤ k) && decide (kdN k ≠ 2))
def endB (sty : Int32) (T k : Nat) : Bool := decide (k + 1 = T) || (!decide ((sty &&& (4 : Int32)) = (0 : Int32)) || (!decide ((sty &&& (1 : Int32)) = (0 : Int32)) && ((decide (kdN k = 2) && decide (9 ≤ k)) || (decide (kdN k = 1) && decide (10 ≤ k)))))
theorem raw_ok (sty : Int32) {k : Nat} (h : k < 91) : F_X6_isRaw (nI k) sty = bI (rawB sty k) ∧ F_X11_isRaw (nI k) sty = bI (rawB sty k) := by
  obtain ⟨k1, k2⟩ := kd_all k h
  have hk : kdN k < 3 := Nat.mod_lt _ (by omega)
  unfold F_X6_isRaw F_X11_isRaw rawB
  rw [k1, k2]
  by_cases c : (sty &&& (1 : Int32)) = (0 : Int32)
  · rw [if_pos c, if_pos c, decide_eq_true c]; exact ⟨rfl, rfl⟩
  · rw [if_neg c, if_neg c, decide_eq_false c]
    by_cases c2 : 10 ≤ k
    · have d1 : ¬ nI k < (10 : Int32) := nI_nlt (b := 10) c2 (by omega)
      have d2 : ¬ nI k ≤ (9 : Int32) := nI_ge (a := 9) (by omega) (by omega)
      rw [if_neg d1, if_neg d2, decide_eq_true c2]
      by_cases c3 : kdN k = 2
      · have d3 : nI (kdN k) = (2 : Int32) := by rw [c3]; rfl
        have d4 : (2 : Int32) ≤ nI (kdN k) := nI_le (a := 2) (by omega) (by omega)
        simp only [d3, if_true, decide_eq_false (show ¬ kdN k ≠ 2 by omega)]
        exact ⟨rfl, by rw [if_pos (show (2 : Int32) ≤ 2 by decide)]; rfl⟩
      · have d3 : ¬ nI (kdN k) = (2 : Int32) := fun z => c3 ((nI_eq (b := 2) (by omega) (by omega)).mp z)
        have d4 : ¬ (2 : Int32) ≤ nI (kdN k) := nI_ge (b := 2) (by omega) (by omega)
        simp only [d3, d4, if_false, decide_eq_true (show kdN k ≠ 2 by omega)]
        exact ⟨rfl, rfl⟩
    · have d1 : nI k < (10 : Int32) := nI_lt (b := 10) (by omega) (by omega)
      have d2 : nI k ≤ (9 : Int32) := nI_le (b := 9) (by omega) (by omega)
      rw [if_pos d1, if_pos d2, decide_eq_false c2]; exact ⟨rfl, rfl⟩
theorem end_ok (sty : Int32) {T k : Nat} (h : k < T) (hT : T ≤ 91) : F_X6_endsSegment (nI k) (nI T) sty = bI (endB sty T k) ∧ F_X11_ends (nI k) sty (nI T) = bI (endB sty T k) := by
  obtain ⟨k1, k2⟩ := kd_all k (by omega)
  have hk : kdN k < 3 := Nat.mod_lt _ (by omega)
  have hT1 : nI T - (1 : Int32) = nI (T - 1) := pred_ok (by omega)
  unfold F_X6_endsSegment F_X11_ends endB
  rw [hT1, k1, k2]
  by_cases c0 : k + 1 = T
  · have d0 : nI k = nI (T - 1) := by rw [show T - 1 = k by omega]
    rw [if_pos d0, if_pos d0, decide_eq_true c0]; exact ⟨rfl, rfl⟩
  · have d0 : ¬ nI k = nI (T - 1) := fun z => by have := (nI_eq (by omega) (by omega)).mp z; omega
    rw [if_neg d0, if_neg d0, decide_eq_false c0]
    by_cases c4 : (sty &&& (4 : Int32)) = (0 : Int32)
    · rw [if_pos c4, if_pos c4, decide_eq_true c4]
      by_cases c : (sty &&& (1 : Int32)) = (0 : Int32)
      · rw [if_pos c, if_pos c, decide_eq_true c]; exact ⟨rfl, rfl⟩
      · rw [if_neg c, if_neg c, decide_eq_false c]
        have a9 : (9 : Int32) ≤ nI k ↔ 9 ≤ k := nI_leI (a := 9) (by omega) (by omega)
        have a8 : (8 : Int32) < nI k ↔ 8 < k := nI_ltI (a := 8) (by omega) (by omega)
        have a10 : nI k < (10 : Int32) ↔ k < 10 := nI_ltI (b := 10) (by omega) (by omega)
        have b9 : nI k ≤ (9 : Int32) ↔ k ≤ 9 := nI_leI (b := 9) (by omega) (by omega)
        have e2 : nI (kdN k) = (2 : Int32) ↔ kdN k = 2 := nI_eq (b := 2) (by omega) (by omega)
        have e1 : nI (kdN k) = (1 : Int32) ↔ kdN k = 1 := nI_eq (b := 1) (by omega) (by omega)
        simp only [a9, a8, a10, b9, e2, e1]
        by_cases f2 : kdN k = 2
        · have f1 : ¬ kdN k = 1 := by omega
          by_cases g9 : 9 ≤ k
          · have g8 : 8 < k := by omega
            simp only [f2, g9, g8, if_true, decide_true]; exact ⟨rfl, rfl⟩
          · have g8 : ¬ 8 < k := by omega
            simp [f2, g9, g8]
            first | exact ⟨rfl, rfl⟩ | rfl
        · by_cases f1 : kdN k = 1
          · by_cases g10 : 10 ≤ k
            · have g : ¬ k < 10 := by omega
              have g9 : ¬ k ≤ 9 := by omega
              simp [f1, g10, g, g9]
              first | exact ⟨rfl, rfl⟩ | rfl
            · have g : k < 10 := by omega
              have g9 : k ≤ 9 := by omega
              simp [f1, g10, g, g9]
              first | exact ⟨rfl, rfl⟩ | rfl
          · simp [f2, f1]
            first | exact ⟨rfl, rfl⟩ | rfl
    · rw [if_neg c4, if_neg c4, decide_eq_false c4]; exact ⟨rfl, rfl⟩
def staB (sty : Int32) (T k : Nat) : Bool := decide (k = 0) || endB sty T (k - 1)
theorem sta_ok (sty : Int32) {T k : Nat} (h : k < T) (hT : T ≤ 91) : F_X6_startsSegment (nI k) (nI T) sty = bI (staB sty T k) := by
  unfold F_X6_startsSegment staB
  by_cases c : k = 0
  · have d : nI k = (0 : Int32) := by rw [c]; rfl
    rw [if_pos d, decide_eq_true c]; rfl
  · have d : ¬ nI k = (0 : Int32) := nI_ne0 (by omega) (by omega)
    rw [if_neg d, decide_eq_false c, pred_ok (by omega), (end_ok sty (k := k - 1) (by omega) hT).1]
    cases endB sty T (k - 1) <;> rfl
/-- reaches once a segment of bytes up to n is closed at pass k -/
def rcEnd (rc : Nat → Nat) (f0 k n : Nat) : Nat → Nat := fun j => if j = k then n else if f0 ≤ j ∧ j < k then min (rc j) n else rc j
theorem close_loop {k n : Nat} (hk : k < 91) (hn : n ≤ 65536) (rc0 : Nat → Nat) : ∀ (d i fuel : Nat) (f : Nat → Int32), i + d = k → d < fuel → (∀ j, j < k → rc0 j ≤ 65541) → (∀ j, i ≤ j → j < k → f j = nI (rc0 j)) → PL_X6_closeSegment_j_1 (nI k) (nI n) 91 fuel (nI i) f ∧ ∀ j, (L_X6_closeSegment_j_1 (nI k) (nI n) fuel (nI i) f).2 j = if i ≤ j ∧ j < k then nI (min (rc0 j) n) else f j := by
  intro d
  induction d with
  | zero =>
    intro i fuel f h1 h2 h3 h4
    obtain ⟨m, rfl⟩ : ∃ m, fuel = m + 1 := ⟨fuel - 1, by omega⟩
    have q : nI k ≤ nI i := nI_le (by omega) (by omega)
    rw [PL_X6_closeSegment_j_1, L_X6_closeSegment_j_1, if_pos q]
    exact ⟨fun z => absurd q z, fun j => by rw [if_neg (by omega)]⟩
  | succ d ih =>
    intro i fuel f h1 h2 h3 h4
    obtain ⟨m, rfl⟩ : ∃ m, fuel = m + 1 := ⟨fuel - 1, by omega⟩
    have q : ¬ nI k ≤ nI i := nI_ge (by omega) (by omega)
    have hv : (if nI n < f (nI i).toNatClampNeg then nI n else f (nI i).toNatClampNeg) = nI (min (rc0 i) n) := by
      have := h3 i (by omega)
      rw [nI_clamp (by omega), h4 i (Nat.le_refl _) (by omega)]
      by_cases c : n < rc0 i
      · rw [if_pos (nI_lt c (by omega)), show min (rc0 i) n = n by omega]
      · rw [if_neg (nI_nlt (by omega) (by omega)), show min (rc0 i) n = rc0 i by omega]
    obtain ⟨t1, t2⟩ := ih (i + 1) m (upd f i (nI (min (rc0 i) n))) (by omega) (by omega) h3 (fun j hj hj2 => by rw [pk_un (by omega)]; exact h4 j (by omega) hj2)
    rw [nI_succ] at t1 t2
    rw [PL_X6_closeSegment_j_1, L_X6_closeSegment_j_1, if_neg q, hv, nI_clamp (by omega)]
    refine ⟨fun _ => ⟨vp_in_nI (by omega) (by omega), t1⟩, fun j => ?_⟩
    rw [t2]
    by_cases c : j = i
    · subst c
      rw [if_neg (by omega), if_pos (by omega), pk_us]
    · rw [pk_un c]
      by_cases c2 : i + 1 ≤ j ∧ j < k
      · rw [if_pos c2, if_pos (by omega)]
      · rw [if_neg c2, if_neg (by omega)]
theorem close_c {k n f0 : Nat} {rc : Nat → Nat} {f : Nat → Int32} {sg : Int32} (hk : k < 91) (hn : n ≤ 65536) (hf : f0 ≤ k) (h3 : ∀ j, j < k → rc j ≤ 65541) (h4 : ∀ j, j < k → f j = nI (rc j)) : P_X6_closeSegment (nI k) (nI n) (nI f0) 91 f ∧ ∃ f' : Nat → Int32, F_X6_closeSegment (nI k) (nI n) sg (nI f0) f = (sg + 1, nI (k + 1), f') ∧ ∀ j, j < k + 1 → f' j = nI (rcEnd rc f0 k n j) := by
  have hfu := fu_ge
  obtain ⟨t1, t2⟩ := close_loop hk hn rc (k - f0) f0 fu f (by omega) (by omega) h3 (fun j _ hj => h4 j hj)
  refine ⟨⟨t1, fun _ _ => vp_in_nI hk (by omega)⟩, upd (L_X6_closeSegment_j_1 (nI k) (nI n) fu (nI f0) f).2 k (nI n), ?_, fun j hj => ?_⟩
  · unfold F_X6_closeSegment
    rw [nI_clamp (by omega), nI_succ]
  · unfold rcEnd
    by_cases c : j = k
    · subst c; rw [pk_us, if_pos rfl]
    · rw [pk_un c, if_neg c, t2]
      by_cases c2 : f0 ≤ j ∧ j < k
      · rw [if_pos c2, if_pos c2]
      · rw [if_neg c2, if_neg c2]; exact h4 j (by omega)
theorem reach_loop {k n : Nat} (hk : k < 91) (hn : n ≤ 65536) (rc0 : Nat → Nat) (r26 : (Int32 × Int32 × Int32 × Int32 × (Nat → Int32))) (hr : r26.1 = nI n) : ∀ (d i fuel : Nat) (f : Nat → Int32), i + d = k + 1 → d < fuel → (∀ j, j < k + 1 → rc0 j ≤ 65541) → (∀ j, i ≤ j → j < k + 1 → f j = nI (rc0 j)) → PL_X11_write_j_28 96 (nI k) r26 fuel (nI i) f ∧ ∀ j, (L_X11_write_j_28 (nI k) r26 fuel (nI i) f).2 j = if i ≤ j ∧ j < k + 1 then (if j = k then nI n else nI (min (rc0 j) n)) else f j := by
  intro d
  induction d with
  | zero =>
    intro i fuel f h1 h2 h3 h4
    obtain ⟨m, rfl⟩ : ∃ m, fuel = m + 1 := ⟨fuel - 1, by omega⟩
    have q : nI k < nI i := nI_lt (by omega) (by omega)
    rw [PL_X11_write_j_28, L_X11_write_j_28, if_pos q]
    exact ⟨fun z => absurd q z, fun j => by rw [if_neg (by omega)]⟩
  | succ d ih =>
    intro i fuel f h1 h2 h3 h4
    obtain ⟨m, rfl⟩ : ∃ m, fuel = m + 1 := ⟨fuel - 1, by omega⟩
    have q : ¬ nI k < nI i := nI_nlt (by omega) (by omega)
    have hv : ∃ g : Nat → Int32, J_X11_write_j_35 (nI k) r26 (nI i) f = g ∧ ∀ j, g j = if j = i then (if j = k then nI n else nI (min (rc0 j) n)) else f j := by
      have h5 := h3 i (by omega)
      unfold J_X11_write_j_35
      rw [hr, nI_clamp (by omega), h4 i (Nat.le_refl _) (by omega)]
      by_cases c : n < rc0 i
      · rw [if_pos (nI_lt c (by omega))]
        refine ⟨_, rfl, fun j => ?_⟩
        by_cases cj : j = i
        · subst cj
          rw [pk_us, if_pos rfl]
          by_cases ck : j = k
          · rw [if_pos ck]
          · rw [if_neg ck, show min (rc0 j) n = n by omega]
        · rw [pk_un cj, if_neg cj]
      · rw [if_neg (nI_nlt (by omega) (by omega))]
        by_cases ck : i = k
        · rw [if_pos (by rw [ck])]
          refine ⟨_, rfl, fun j => ?_⟩
          by_cases cj : j = i
          · subst cj; rw [pk_us, if_pos rfl, if_pos ck]
          · rw [pk_un cj, if_neg cj]
        · rw [if_neg (fun z => ck ((nI_eq (by omega) (by omega)).mp z))]
          refine ⟨_, rfl, fun j => ?_⟩
          by_cases cj : j = i
          · subst cj
            rw [if_pos rfl, if_neg ck, show min (rc0 j) n = rc0 j by omega]; exact h4 j (Nat.le_refl _) (by omega)
          · rw [if_neg cj]
    obtain ⟨g, hg1, hg2⟩ := hv
    obtain ⟨t1, t2⟩ := ih (i + 1) m g (by omega) (by omega) h3 (fun j hj hj2 => by rw [hg2, if_neg (by omega)]; exact h4 j (by omega) hj2)
    rw [nI_succ] at t1 t2
    rw [PL_X11_write_j_28, L_X11_write_j_28, if_neg q, hg1]
    refine ⟨fun _ => ⟨vp_in_nI (by omega) (by omega), fun j ej => by rw [← ej]; exact t1⟩, fun j => ?_⟩
    show (L_X11_write_j_28 (nI k) r26 m (nI i + 1) g).2 j = _
    rw [t2, hg2]
    by_cases c : j = i
    · subst c
      rw [if_neg (show ¬ (j + 1 ≤ j ∧ j < k + 1) by omega), if_pos (show j ≤ j ∧ j < k + 1 by omega), if_pos (show j = j from rfl)]
    · rw [if_neg c]
      by_cases c2 : i + 1 ≤ j ∧ j < k + 1
      · rw [if_pos c2, if_pos (show i ≤ j ∧ j < k + 1 by omega)]
      · rw [if_neg c2, if_neg (show ¬ (i ≤ j ∧ j < k + 1) by omega)]
theorem close_m {k n f0 : Nat} {rc : Nat → Nat} {f : Nat → Int32} {r26 : (Int32 × Int32 × Int32 × Int32 × (Nat → Int32))} (hk : k < 91) (hn : n ≤ 65536) (hr : r26.1 = nI n) (h3 : ∀ j, j < k + 1 → rc j ≤ 65541) (h4 : ∀ j, j < k + 1 → f j = nI (rc j)) (h5 : ∀ j, j < f0 → rc j ≤ n) (hf : f0 ≤ k) : PL_X11_write_j_28 96 (nI k) r26 fu 0 f ∧ ∀ j, j < k + 1 → (L_X11_write_j_28 (nI k) r26 fu 0 f).2 j = nI (rcEnd rc f0 k n j) := by
  have hfu := fu_ge
  obtain ⟨t1, t2⟩ := reach_loop hk hn rc r26 hr (k + 1) 0 fu f (by omega) (by omega) h3 (fun j _ hj => h4 j hj)
  rw [nI_0] at t1 t2
  refine ⟨t1, fun j hj => ?_⟩
  rw [t2, if_pos (by omega)]
  unfold rcEnd
  by_cases c : j = k
  · rw [if_pos c, if_pos c]
  · rw [if_neg c, if_neg c]
    by_cases c2 : f0 ≤ j ∧ j < k
    · rw [if_pos c2]
    · rw [if_neg c2]
      have := h5 j (by omega)
      rw [show min (rc j) n = rc j by omega]
