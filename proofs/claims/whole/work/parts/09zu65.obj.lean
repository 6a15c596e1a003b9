/-! ===== PURE: both objects ===== -/
abbrev XS : Type := CS × Int32 × Int32 × Int32 × Int32 × Nat × (Nat → Int32) × Nat × (Nat → Int32) × Nat × (Nat → Int32) × Int32 × Int32 × Int32 × Int32 × Int32 × (Nat → Int32) × (Nat → Int64) × Int64 × Int32 × Nat × Int32 × Int32 × Int32 × Int32 × Int32
def XS.c (s : XS) : CS := s.1
def XS.wide (s : XS) : Int32 := s.2.1
def XS.high (s : XS) : Int32 := s.2.2.1
def XS.band (s : XS) : Int32 := s.2.2.2.1
def XS.causal (s : XS) : Int32 := s.2.2.2.2.1
def XS.cn (s : XS) : Nat := s.2.2.2.2.2.1
def XS.coef (s : XS) : (Nat → Int32) := s.2.2.2.2.2.2.1
def XS.gn (s : XS) : Nat := s.2.2.2.2.2.2.2.1
def XS.mags (s : XS) : (Nat → Int32) := s.2.2.2.2.2.2.2.2.1
def XS.kn (s : XS) : Nat := s.2.2.2.2.2.2.2.2.2.1
def XS.marks (s : XS) : (Nat → Int32) := s.2.2.2.2.2.2.2.2.2.2.1
def XS.planes (s : XS) : Int32 := s.2.2.2.2.2.2.2.2.2.2.2.1
def XS.passes (s : XS) : Int32 := s.2.2.2.2.2.2.2.2.2.2.2.2.1
def XS.segs (s : XS) : Int32 := s.2.2.2.2.2.2.2.2.2.2.2.2.2.1
def XS.psty (s : XS) : Int32 := s.2.2.2.2.2.2.2.2.2.2.2.2.2.2.1
def XS.first (s : XS) : Int32 := s.2.2.2.2.2.2.2.2.2.2.2.2.2.2.2.1
def XS.rch (s : XS) : (Nat → Int32) := s.2.2.2.2.2.2.2.2.2.2.2.2.2.2.2.2.1
def XS.gns (s : XS) : (Nat → Int64) := s.2.2.2.2.2.2.2.2.2.2.2.2.2.2.2.2.2.1
def XS.less (s : XS) : Int64 := s.2.2.2.2.2.2.2.2.2.2.2.2.2.2.2.2.2.2.1
def XS.fl (s : XS) : Int32 := s.2.2.2.2.2.2.2.2.2.2.2.2.2.2.2.2.2.2.2.1
def XS.bk (s : XS) : Nat := s.2.2.2.2.2.2.2.2.2.2.2.2.2.2.2.2.2.2.2.2.1
def XS.rw (s : XS) : Int32 := s.2.2.2.2.2.2.2.2.2.2.2.2.2.2.2.2.2.2.2.2.2.1
def XS.pl (s : XS) : Int32 := s.2.2.2.2.2.2.2.2.2.2.2.2.2.2.2.2.2.2.2.2.2.2.1
def XS.sty (s : XS) : Int32 := s.2.2.2.2.2.2.2.2.2.2.2.2.2.2.2.2.2.2.2.2.2.2.2.1
def XS.wr (s : XS) : Int32 := s.2.2.2.2.2.2.2.2.2.2.2.2.2.2.2.2.2.2.2.2.2.2.2.2.1
def XS.rd (s : XS) : Int32 := s.2.2.2.2.2.2.2.2.2.2.2.2.2.2.2.2.2.2.2.2.2.2.2.2.2
abbrev YS : Type := MS × Int32 × Int32 × Int32 × Int32 × Int32 × Int32 × Int32 × Int32 × Int32 × Int32 × Int32 × Int32 × Int32 × Int32 × (Nat → Int32) × (Nat → Int32) × (Nat → Int32) × (Nat → Int32) × (Nat → Int32) × (Nat → Int64) × (Nat → Int32) × (Nat → Int32) × (Nat → Int32) × (Nat → Int32) × (Nat → Int32) × (Nat → Int32) × (Nat → Int32) × (Nat → Int32)
def YS.m (s : YS) : MS := s.1
def YS.thrown (s : YS) : Int32 := s.2.1
def YS.wide (s : YS) : Int32 := s.2.2.1
def YS.high (s : YS) : Int32 := s.2.2.2.1
def YS.band (s : YS) : Int32 := s.2.2.2.2.1
def YS.sty (s : YS) : Int32 := s.2.2.2.2.2.1
def YS.wr (s : YS) : Int32 := s.2.2.2.2.2.2.1
def YS.rd (s : YS) : Int32 := s.2.2.2.2.2.2.2.1
def YS.planes (s : YS) : Int32 := s.2.2.2.2.2.2.2.2.1
def YS.passes (s : YS) : Int32 := s.2.2.2.2.2.2.2.2.2.1
def YS.segs (s : YS) : Int32 := s.2.2.2.2.2.2.2.2.2.2.1
def YS.wri (s : YS) : Int32 := s.2.2.2.2.2.2.2.2.2.2.2.1
def YS.plane (s : YS) : Int32 := s.2.2.2.2.2.2.2.2.2.2.2.2.1
def YS.raw (s : YS) : Int32 := s.2.2.2.2.2.2.2.2.2.2.2.2.2.1
def YS.fl (s : YS) : Int32 := s.2.2.2.2.2.2.2.2.2.2.2.2.2.2.1
def YS.mp (s : YS) : (Nat → Int32) := s.2.2.2.2.2.2.2.2.2.2.2.2.2.2.2.1
def YS.mo (s : YS) : (Nat → Int32) := s.2.2.2.2.2.2.2.2.2.2.2.2.2.2.2.2.1
def YS.mag (s : YS) : (Nat → Int32) := s.2.2.2.2.2.2.2.2.2.2.2.2.2.2.2.2.2.1
def YS.min (s : YS) : (Nat → Int32) := s.2.2.2.2.2.2.2.2.2.2.2.2.2.2.2.2.2.2.1
def YS.rch (s : YS) : (Nat → Int32) := s.2.2.2.2.2.2.2.2.2.2.2.2.2.2.2.2.2.2.2.1
def YS.gns (s : YS) : (Nat → Int64) := s.2.2.2.2.2.2.2.2.2.2.2.2.2.2.2.2.2.2.2.2.1
def YS.mso (s : YS) : (Nat → Int32) := s.2.2.2.2.2.2.2.2.2.2.2.2.2.2.2.2.2.2.2.2.2.1
def YS.mbg (s : YS) : (Nat → Int32) := s.2.2.2.2.2.2.2.2.2.2.2.2.2.2.2.2.2.2.2.2.2.2.1
def YS.mln (s : YS) : (Nat → Int32) := s.2.2.2.2.2.2.2.2.2.2.2.2.2.2.2.2.2.2.2.2.2.2.2.1
def YS.known (s : YS) : (Nat → Int32) := s.2.2.2.2.2.2.2.2.2.2.2.2.2.2.2.2.2.2.2.2.2.2.2.2.1
def YS.below (s : YS) : (Nat → Int32) := s.2.2.2.2.2.2.2.2.2.2.2.2.2.2.2.2.2.2.2.2.2.2.2.2.2.1
def YS.latest (s : YS) : (Nat → Int32) := s.2.2.2.2.2.2.2.2.2.2.2.2.2.2.2.2.2.2.2.2.2.2.2.2.2.2.1
def YS.early (s : YS) : (Nat → Int32) := s.2.2.2.2.2.2.2.2.2.2.2.2.2.2.2.2.2.2.2.2.2.2.2.2.2.2.2.1
def YS.again (s : YS) : (Nat → Int32) := s.2.2.2.2.2.2.2.2.2.2.2.2.2.2.2.2.2.2.2.2.2.2.2.2.2.2.2.2
def YS.thr (y : YS) (t : Int32) : YS := (y.m, t, y.wide, y.high, y.band, y.sty, y.wr, y.rd, y.planes, y.passes, y.segs, y.wri, y.plane, y.raw, y.fl, y.mp, y.mo, y.mag, y.min, y.rch, y.gns, y.mso, y.mbg, y.mln, y.known, y.below, y.latest, y.early, y.again)
/-- both hold the same block -/
def Lnk (e : EnvB) (x : XS) (y : YS) : Prop := x.wide = nI e.W ∧ x.high = nI e.H ∧ x.band = nI e.band ∧ x.causal = bI (czOf e.sty) ∧ x.cn = e.cn ∧ x.coef = e.coef ∧ x.gn = e.gn ∧ x.kn = e.kn ∧ x.sty = e.sty ∧ y.wide = nI e.W ∧ y.high = nI e.H ∧ y.band = nI e.band ∧ y.sty = e.sty ∧ y.mag = e.mag ∧ y.min = e.min ∧ y.mp = e.mp ∧ y.mo = e.mo ∧ e.gn = e.cn ∧ e.kn = e.cn
/-- both have written it alike -/
def Wrt (sty : Int32) (x : XS) (y : YS) : Prop := ∃ (P T N : Nat) (rc sb bb : Nat → Nat), P < 32 ∧ (T = 0 ∨ T + 2 = 3 * P) ∧ (x.planes = nI P ∧ x.passes = nI T ∧ x.psty = sty ∧ y.planes = nI P ∧ y.passes = nI T) ∧ (x.c.count = nI N ∧ rOk N x.c.bn x.c.bf bb ∧ y.m.size = nI N ∧ cEq N y.m.bf bb ∧ (∀ j, j < N → bb j < 256) ∧ N ≤ 65536) ∧ Rch sty T T rc sb x.rch y.rch y.mso y.mbg y.mln ∧ (∀ j, j < T → rc j ≤ N) ∧ x.segs = y.segs ∧ (∀ j, j < T → x.gns j = y.gns j)
/-- both know the same of it -/
def Rdd (e : EnvB) (x : XS) (y : YS) : Prop := ∃ (p : Nat) (G : GF), Fld e.W e.H (czOf e.sty) p G x.mags x.marks y.known y.below y.latest y.early y.again
def OR (x : XS) (y : YS) : Prop := ∃ (e : EnvB) (w r : Bool), e.Ok ∧ Lnk e x y ∧ (16 ≤ x.c.bn ∧ x.c.bn ≤ 131072 ∧ x.bk < 4 ∧ vz x.rw ∧ vz y.raw) ∧ (x.wr = bI w ∧ y.wr = bI w ∧ x.rd = bI r ∧ y.rd = bI r) ∧ (w = true → Wrt e.sty x y) ∧ (r = true → Rdd e x y)
theorem OR.thr {x : XS} {y : YS} (h : OR x y) (t : Int32) : OR x (y.thr t) := h
/-- what rows of x may still cost -/
def fiN (n : Nat) : Nat := 9 * n + (if n = 4096 then 12291 else 0)
def mu (x : XS) : Nat := 3 * x.c.bn + fiN x.cn
theorem mu_le {x : XS} {y : YS} (h : OR x y) : mu x ≤ 442371 := by
  obtain ⟨e, w, r, ok, L, ⟨h1, h2, -⟩, -⟩ := h
  have h3 := ok.cnu
  have h4 : x.cn = e.cn := L.2.2.2.2.1
  unfold mu fiN
  rw [h4]
  split <;> omega
/-! which calls throw: 1 the state, 2 an index, 3 an argument -/
def T_needWritten (wr : Int32) : Nat := if wr = (0 : Int32) then 1 else 0
def T_needPass (p1 n wr : Int32) : Nat := if wr = (0 : Int32) then 1 else if p1 < (0 : Int32) then 2 else if p1 < n then 0 else 2
def T_needRead (rd : Int32) : Nat := if rd = (0 : Int32) then 1 else 0
def T_needReadAt (p1 p2 w h rd : Int32) : Nat := if F_X5_holds p1 p2 w h = (0 : Int32) then 3 else if rd = (0 : Int32) then 1 else 0
def T_begin (p1 p2 p3 p4 : Int32) : Nat := if p1 < (1 : Int32) then 3 else if (64 : Int32) < p1 then 3 else if p2 < (1 : Int32) then 3 else if p2 ≤ (64 : Int32) then (if p3 < (0 : Int32) then 3 else if p3 ≤ (3 : Int32) then (if p4 < (0 : Int32) then 3 else if p4 ≤ (63 : Int32) then 0 else 3) else 3) else 3
def T_set (p1 p2 p3 w h : Int32) : Nat := if F_X5_holds p1 p2 w h = (0 : Int32) then 3 else if (-2147483647 : Int32) ≤ p3 then 0 else 3
def T_fill (p4 : Int32) : Nat := if p4 < (0 : Int32) then 3 else if p4 ≤ (31 : Int32) then 0 else 3
def T_written (p1 wr : Int32) : Nat := if wr = (0 : Int32) then 1 else if p1 = (0 : Int32) then 0 else if p1 = (1 : Int32) then 0 else if p1 = (2 : Int32) then 0 else if p1 = (3 : Int32) then 0 else 3
def T_pass (p1 p2 n wr : Int32) : Nat := if wr = (0 : Int32) then 1 else if p1 < (0 : Int32) then 2 else if p1 < n then (if p2 = (0 : Int32) then 0 else if p2 = (1 : Int32) then 0 else if p2 = (2 : Int32) then 0 else if p2 = (3 : Int32) then 0 else if p2 = (4 : Int32) then 0 else 3) else 2
def T_read (p1 n wr : Int32) : Nat := if wr = (0 : Int32) then 1 else if p1 < (0 : Int32) then 3 else if p1 ≤ n then 0 else 3
/-! the reference throws -/
theorem thr0 : F_X11_throwing 0 0 0 = (0, 0) := rfl
theorem thr1 (b c : Int32) : F_X11_throwing 1 b c = (1, 1) := rfl
theorem thr2 (c : Int32) : F_X11_throwing 0 1 c = (1, 2) := rfl
theorem thr3 : F_X11_throwing 0 0 1 = (1, 3) := rfl
theorem out_lo {p a b : Int32} (h : p < a) : F_X11_out p a b = 1 := if_pos h
theorem out_in {p a b : Int32} (h : ¬ p < a) (h2 : p ≤ b) : F_X11_out p a b = 0 := by unfold F_X11_out; rw [if_neg h, if_pos h2]
theorem out_hi {p a b : Int32} (h : ¬ p < a) (h2 : ¬ p ≤ b) : F_X11_out p a b = 1 := by unfold F_X11_out; rw [if_neg h, if_neg h2]
theorem le_pred {p : Int32} {n : Nat} (h0 : ¬ p < 0) (hn : n < 2 ^ 31) : (p ≤ nI n - 1) ↔ p < nI n := by
  obtain ⟨j, hj, rfl⟩ := nI_of h0
  by_cases c : n = 0
  · subst c
    rw [nI_0]
    constructor
    · intro z
      exfalso
      have : (nI j).toInt ≤ ((0 : Int32) - 1).toInt := Int32.le_iff_toInt_le.mp z
      rw [nI_toInt hj] at this
      have e : ((0 : Int32) - 1).toInt = -1 := by decide
      omega
    · intro z
      exact absurd z (nI_pos hj)
  · rw [pred_ok (by omega), nI_leI hj (by omega), nI_ltI hj hn]
    omega
theorem holds_there {p1 p2 : Int32} {W H : Nat} (hW : 1 ≤ W) (hW2 : W ≤ 64) (hH : 1 ≤ H) (hH2 : H ≤ 64) : (F_X5_holds p1 p2 (nI W) (nI H) = 0 ∧ F_X11_isThere p1 p2 (nI W) (nI H) = 0) ∨ (F_X5_holds p1 p2 (nI W) (nI H) = 1 ∧ F_X11_isThere p1 p2 (nI W) (nI H) = 1 ∧ ∃ a b, a < W ∧ b < H ∧ p1 = nI a ∧ p2 = nI b) := by
  unfold F_X5_holds F_X11_isThere
  by_cases c1 : p1 < 0
  · left
    rw [if_pos c1]
    simp only [out_lo c1]
    exact ⟨trivial, rfl⟩
  · obtain ⟨a, ha, rfl⟩ := nI_of c1
    rw [if_neg c1]
    by_cases c2 : a < W
    · have q2 : ¬ nI W ≤ nI a := nI_ge c2 (by omega)
      have o1 : F_X11_out (nI a) 0 (nI W - 1) = 0 := out_in c1 ((le_pred c1 (by omega)).mpr (nI_lt c2 (by omega)))
      rw [if_neg q2]
      simp only [o1, if_true]
      by_cases c3 : p2 < 0
      · left
        rw [if_pos c3]
        simp only [out_lo c3]
        exact ⟨trivial, rfl⟩
      · obtain ⟨b, hb, rfl⟩ := nI_of c3
        rw [if_neg c3]
        by_cases c4 : b < H
        · right
          have q4 : ¬ nI H ≤ nI b := nI_ge c4 (by omega)
          have o2 : F_X11_out (nI b) 0 (nI H - 1) = 0 := out_in c3 ((le_pred c3 (by omega)).mpr (nI_lt c4 (by omega)))
          rw [if_neg q4]
          simp only [o2, if_true]
          exact ⟨trivial, trivial, a, b, c2, c4, rfl, rfl⟩
        · left
          have q4 : nI H ≤ nI b := nI_le (by omega) hb
          have o2 : F_X11_out (nI b) 0 (nI H - 1) = 1 := out_hi c3 (fun z => nI_nlt (show H ≤ b by omega) hb ((le_pred c3 (by omega)).mp z))
          rw [if_pos q4]
          simp only [o2]
          exact ⟨trivial, rfl⟩
    · left
      have q2 : nI W ≤ nI a := nI_le (by omega) ha
      have o1 : F_X11_out (nI a) 0 (nI W - 1) = 1 := out_hi c1 (fun z => nI_nlt (show W ≤ a by omega) ha ((le_pred c1 (by omega)).mp z))
      rw [if_pos q2]
      simp only [o1]
      exact ⟨trivial, rfl⟩
