/-! ===== PURE: between segments; contexts begin anew ===== -/
def Seg (N K n : Nat) (c : CS) (m : MS) : Prop := ∃ (cs cl b : Nat → Nat), Tie c m cs cl b n ∧ 75 * n + 2 * phiS cs 19 ≤ 36 * N + K
def c0N (j : Nat) : Nat := if j = 0 then 4 else if j = 17 then 3 else if j = 18 then 46 else 0
theorem phi_c0 : phiS c0N 19 = 419 := by decide +kernel
theorem c0_ok : cOk c0N (fun _ => 0) := ⟨by unfold c0N; intro j hj; split <;> (try split) <;> (try split) <;> omega, fun _ _ => (by show (0 : Nat) < 2; omega)⟩
theorem ctx0_n : ∀ j, j < 19 → ctx0 j = nI (c0N j) := by decide +kernel
theorem c0_eq {f : Nat → Int32} (h : ∀ j, j < 19 → f j = ctx0 j) : cEq 19 f c0N := fun j hj => by rw [h j hj, ctx0_n j hj]
theorem l0_eq {f : Nat → Int32} (h : ∀ j, j < 19 → f j = 0) : cEq 19 f (fun _ => 0) := fun j hj => by rw [h j hj]; rfl
/-- with other contexts -/
def CS.ctx (c : CS) (s l : Nat → Int32) : CS := (c.count, c.start, c.bn, c.bf, s, l, c.low, c.size, c.room, c.free, c.place, c.cend, c.window, c.csize, c.croom, c.rplace, c.rend, c.cur, c.left)
def MS.ctx (m : MS) (s l : Nat → Int32) : MS := (m.size, m.begin, m.low, m.carried, m.span, m.room, m.place, m.limit, m.next, m.last, m.upper, s, l, m.bf)
theorem Tie.anew {c : CS} {m : MS} {cs cl b : Nat → Nat} {n : Nat} {s l s' l' : Nat → Int32} (h : Tie c m cs cl b n) (h1 : cEq 19 s c0N) (h2 : cEq 19 l (fun _ => 0)) (h3 : cEq 19 s' c0N) (h4 : cEq 19 l' (fun _ => 0)) : Tie (c.ctx s l) (m.ctx s' l') c0N (fun _ => 0) b n :=
  ⟨h1, h2, h3, h4, c0_ok, h.cnt, h.row, h.siz, h.mb, h.by8, h.top⟩
theorem Seg.anew {N K n : Nat} {c : CS} {m : MS} {s l s' l' : Nat → Int32} (h : Seg N K n c m) (h1 : cEq 19 s c0N) (h2 : cEq 19 l (fun _ => 0)) (h3 : cEq 19 s' c0N) (h4 : cEq 19 l' (fun _ => 0)) : Seg N (K + 838) n (c.ctx s l) (m.ctx s' l') := by
  obtain ⟨cs, cl, b, t, e⟩ := h
  refine ⟨c0N, fun _ => 0, b, t.anew h1 h2 h3 h4, ?_⟩
  rw [phi_c0]; omega
theorem Cod.anew {bk N K : Nat} {c : CS} {m : MS} {s l s' l' : Nat → Int32} (h : Cod bk N K c m) (hbk : bk < 4) (h1 : cEq 19 s c0N) (h2 : cEq 19 l (fun _ => 0)) (h3 : cEq 19 s' c0N) (h4 : cEq 19 l' (fun _ => 0)) : Cod bk N (K + 838) (c.ctx s l) (m.ctx s' l') := by
  rcases (show bk = 0 ∨ bk = 1 ∨ bk = 2 ∨ bk = 3 by omega) with rfl | rfl | rfl | rfl
  · obtain ⟨cs, cl, b, n, st, lw, sz, rm, z, t, e1, e2, e3, e4, e5, e6, e7, e8, e9, e10, e11, e12, e13, e14, e15, e16, e17⟩ := h
    refine ⟨c0N, fun _ => 0, b, n, st, lw, sz, rm, z, t.anew h1 h2 h3 h4, e1, e2, e3, e4, e5, e6, e7, e8, e9, e10, e11, e12, e13, e14, e15, e16, ?_⟩
    rw [phi_c0]; omega
  · obtain ⟨cs, cl, b, n, st, fr, t, e1, e2, e3, e4, e5, e6⟩ := h
    refine ⟨c0N, fun _ => 0, b, n, st, fr, t.anew h1 h2 h3 h4, e1, e2, e3, e4, e5, ?_⟩
    rw [phi_c0]; omega
  · obtain ⟨cs, cl, b, n, e, fr, sz, w, rm, pl, t, r⟩ := h
    exact ⟨c0N, fun _ => 0, b, n, e, fr, sz, w, rm, pl, t.anew h1 h2 h3 h4, r⟩
  · obtain ⟨cs, cl, b, n, e, fr, lt, cu, pl, t, r⟩ := h
    exact ⟨c0N, fun _ => 0, b, n, e, fr, lt, cu, pl, t.anew h1 h2 h3 h4, r⟩
theorem Cod.more {bk N K K' : Nat} {c : CS} {m : MS} (h : Cod bk N K c m) (hbk : bk < 4) (hK : K ≤ K') : Cod bk N K' c m := by
  rcases (show bk = 0 ∨ bk = 1 ∨ bk = 2 ∨ bk = 3 by omega) with rfl | rfl | rfl | rfl
  · obtain ⟨cs, cl, b, n, st, lw, sz, rm, z, t, e1, e2, e3, e4, e5, e6, e7, e8, e9, e10, e11, e12, e13, e14, e15, e16, e17⟩ := h
    exact ⟨cs, cl, b, n, st, lw, sz, rm, z, t, e1, e2, e3, e4, e5, e6, e7, e8, e9, e10, e11, e12, e13, e14, e15, e16, by omega⟩
  · obtain ⟨cs, cl, b, n, st, fr, t, e1, e2, e3, e4, e5, e6⟩ := h
    exact ⟨cs, cl, b, n, st, fr, t, e1, e2, e3, e4, e5, by omega⟩
  · exact h
  · exact h
theorem Seg.more {N K K' n : Nat} {c : CS} {m : MS} (h : Seg N K n c m) (hK : K ≤ K') : Seg N K' n c m := by
  obtain ⟨cs, cl, b, t, e⟩ := h
  exact ⟨cs, cl, b, t, by omega⟩
theorem has_iff (q sty : Int32) : F_X10_has q sty = (0 : Int32) ↔ (sty &&& q) = (0 : Int32) := by
  unfold F_X10_has
  by_cases c : (sty &&& q) = (0 : Int32)
  · rw [if_pos c]; exact ⟨fun _ => c, fun _ => rfl⟩
  · rw [if_neg c]; exact ⟨fun z => absurd z (by decide), fun z => absurd z c⟩
/-- the contexts of both sides where a pass has ended: as they are, or anew -/
theorem reset_both (sty : Int32) (sf lf ms ml : Nat → Int32) : P_X10_resetIfAsked 19 sf 19 lf sty ∧ (((F_X10_resetIfAsked 19 sf 19 lf sty = (sf, lf)) ∧ rst sty ms ml = (ms, ml)) ∨ (cEq 19 (F_X10_resetIfAsked 19 sf 19 lf sty).1 c0N ∧ cEq 19 (F_X10_resetIfAsked 19 sf 19 lf sty).2 (fun _ => 0) ∧ cEq 19 (rst sty ms ml).1 c0N ∧ cEq 19 (rst sty ms ml).2 (fun _ => 0))) := by
  obtain ⟨a1, a2, a3⟩ := restart_ok (n1 := 19) (n2 := 19) rfl rfl sf lf
  obtain ⟨b1, b2, b3⟩ := reset_ok ms ml
  have hi := has_iff 2 sty
  refine ⟨fun _ _ _ => a1, ?_⟩
  unfold F_X10_resetIfAsked rst
  by_cases c : (sty &&& (2 : Int32)) = (0 : Int32)
  · left
    have h0 := hi.mpr c
    simp only [h0, if_true, c]
    exact ⟨trivial, trivial⟩
  · right
    have h0 : ¬ F_X10_has 2 sty = 0 := fun z => c (hi.mp z)
    simp only [h0, if_false, c]
    exact ⟨c0_eq a2, l0_eq a3, c0_eq b2, l0_eq b3⟩
/-! a segment opens -/
def CS.opn (c : CS) (raw : Bool) : CS := (c.count, c.count, c.bn, c.bf, c.sf, c.lf, if raw then c.low else 0, if raw then c.size else 32768, if raw then c.room else 12, if raw then 0 else c.free, c.place, c.cend, c.window, c.csize, c.croom, c.rplace, c.rend, c.cur, c.left)
def MS.opn (m : MS) (raw : Bool) : MS := (m.size, m.size, 0, 0, 32768, if raw then 0 else 12, m.place, m.limit, m.next, m.last, m.upper, m.sf, m.lf, m.bf)
theorem open_sim {N K n : Nat} {c : CS} {m : MS} (raw : Bool) (h : Seg N K n c m) : F_X10_openForWriting (bI raw) c.count c.low c.size c.room c.free = ((c.opn raw).start, (c.opn raw).low, (c.opn raw).size, (c.opn raw).room, (c.opn raw).free) ∧ F_X11_open (bI raw) m.size = ((m.opn raw).begin, (m.opn raw).low, (m.opn raw).carried, (m.opn raw).span, (m.opn raw).room) ∧ Cod (bN raw) N K (c.opn raw) (m.opn raw) ∧ (c.opn raw).start = nI n := by
  obtain ⟨cs, cl, b, t, e⟩ := h
  have tt : Tie (c.opn raw) (m.opn raw) cs cl b n := ⟨t.hcs, t.hcl, t.hms, t.hml, t.ok, t.cnt, t.row, t.siz, t.mb, t.by8, t.top⟩
  cases raw with
  | false =>
    have hc0 : rCar n n b 0 12 = false := by unfold rCar; rw [decide_eq_false (by omega)]; rfl
    have hp : psi 32768 = 31 := by decide
    exact ⟨rfl, rfl, ⟨cs, cl, b, n, n, 0, 32768, 12, 0, tt, t.cnt, t.siz, Nat.le_refl _, Nat.le_refl _, by omega, by decide, by omega, Nat.le_refl _, Or.inl rfl, rfl, rfl, rfl, by rw [rLow_f hc0]; rfl, by rw [hc0]; rfl, rfl, rfl, by rw [hp]; omega⟩, t.cnt⟩
  | true =>
    exact ⟨rfl, rfl, ⟨cs, cl, b, n, n, 0, tt, t.cnt, t.siz, ⟨Nat.le_refl _, by omega, fun z => absurd z (by omega), t.by8⟩, rfl, rfl, by omega⟩, t.cnt⟩
/-! a segment ends -/
def CS.fin (c : CS) (ct : Int32) (bn : Nat) (bf : Nat → Int32) (lw rm fr : Int32) : CS := (ct, c.start, bn, bf, c.sf, c.lf, lw, c.size, rm, fr, c.place, c.cend, c.window, c.csize, c.croom, c.rplace, c.rend, c.cur, c.left)
def MS.fin (m : MS) (sz lw ca rm : Int32) (bf : Nat → Int32) : MS := (sz, m.begin, lw, ca, m.span, rm, m.place, m.limit, m.next, m.last, m.upper, m.sf, m.lf, bf)
theorem end_sim {N K st : Nat} {c : CS} {m : MS} {sty : Int32} (raw : Bool) (h : Cod (bN raw) N K c m) (hst : c.start = nI st) (hst2 : st ≤ 65536) (hL : 36 * N + K ≤ 4913000) :
    ∃ (n' bn' : Nat) (f' mf' : Nat → Int32) (lw rm fr ml mc mr : Int32), F_X10_endWriting (bI raw) c.count c.start c.bn c.bf c.low c.size c.room c.free sty = (nI n', bn', f', lw, rm, fr) ∧ P_X10_endWriting (bI raw) c.count c.start c.bn c.bf c.low c.size c.room c.free sty ∧ D_X10_endWriting (bI raw) c.count c.start c.bn c.bf c.low c.size c.room c.free sty + 3 * c.bn ≤ 3 * bn' ∧ c.bn ≤ bn' ∧
    F_X11_close sty (bI raw) m.size m.begin m.low m.carried m.span m.room m.bf = (nI n', ml, mc, mr, mf') ∧ P_X11_close sty (bI raw) m.size m.begin m.low m.carried m.span m.room 65536 m.bf ∧ st ≤ n' ∧ n' ≤ 65536 ∧ m.begin = nI st ∧ Seg N (K + 275) n' (c.fin (nI n') bn' f' lw rm fr) (m.fin (nI n') ml mc mr mf') := by
  have fin : ∀ {cs cl b : Nat → Nat} {n : Nat}, Tie c m cs cl b n → m.begin = nI st → PJ_X10_endWriting_j_10 (bI raw) c.count c.start c.bn c.bf c.low c.size c.room c.free sty → P_X11_close sty (bI raw) m.size m.begin m.low m.carried m.span m.room 65536 m.bf → n + 2 ≤ 65536 → 75 * n + 2 * phiS cs 19 ≤ 36 * N + K + 125 →
      EndOk c.bn st (J_X10_endWriting_j_10 (bI raw) c.count c.start c.bn c.bf c.low c.size c.room c.free sty) (DJ_X10_endWriting_j_10 (bI raw) c.count c.start c.bn c.bf c.low c.size c.room c.free sty) (F_X11_close sty (bI raw) m.size m.begin m.low m.carried m.span m.room m.bf) n →
      ∃ (n' bn' : Nat) (f' mf' : Nat → Int32) (lw rm fr ml mc mr : Int32), F_X10_endWriting (bI raw) c.count c.start c.bn c.bf c.low c.size c.room c.free sty = (nI n', bn', f', lw, rm, fr) ∧ P_X10_endWriting (bI raw) c.count c.start c.bn c.bf c.low c.size c.room c.free sty ∧ D_X10_endWriting (bI raw) c.count c.start c.bn c.bf c.low c.size c.room c.free sty + 3 * c.bn ≤ 3 * bn' ∧ c.bn ≤ bn' ∧
      F_X11_close sty (bI raw) m.size m.begin m.low m.carried m.span m.room m.bf = (nI n', ml, mc, mr, mf') ∧ P_X11_close sty (bI raw) m.size m.begin m.low m.carried m.span m.room 65536 m.bf ∧ st ≤ n' ∧ n' ≤ 65536 ∧ m.begin = nI st ∧ Seg N (K + 275) n' (c.fin (nI n') bn' f' lw rm fr) (m.fin (nI n') ml mc mr mf') := by
    intro cs cl b n t hb a1 a2 a3 a4 ⟨n', b', bn', f', lw, rm, fr, ml, mc, mr, mf', o1, o2, o3, o4, o5, o6, o7, o8, o9⟩
    obtain ⟨d1, d2⟩ := drop_c (st := st) o3 o7 o9
    obtain ⟨d3, d4⟩ := dN_le (b := b') o7
    have r3 : rOk (dN st n' b') bn' f' b' := ⟨by have := o3.1; omega, o3.2.1, o3.2.2.1, fun j hj => o3.2.2.2 j (by omega)⟩
    refine ⟨dN st n' b', bn', f', mf', lw, rm, fr, ml, mc, mr, ?_, ?_, ?_, o4, o5, a2, d3, by omega, hb, cs, cl, b', ⟨t.hcs, t.hcl, t.hms, t.hml, t.ok, rfl, r3, rfl, fun j hj => o6 j (by omega), fun j hj => o9 j (by omega), by omega⟩, by omega⟩
    · unfold F_X10_endWriting
      simp only [o1]
      rw [hst, d2]
    · refine ⟨a1, fun j e => ?_⟩
      rw [o1] at e
      subst e
      rw [hst]
      exact d1
    · unfold D_X10_endWriting
      simp only [Nat.add_zero]
      exact o2
  cases raw with
  | false =>
    obtain ⟨cs, cl, b, n, st', lw, sz, rm, z, t, e1, e2, e3, e4, e5, e6, e7, e8, e9, e10, e11, e12, e13, e14, e15, e16, e17⟩ := h
    have htop := t.top
    have hs : st' = st := (nI_eq (by omega) (by omega)).mp (e1.symm.trans hst)
    subst hs
    have hz1 : z ≤ 1 := by rcases e9 with q | q <;> omega
    have hn : n + 2 < 65536 := by omega
    have hbnd : 75 * n + 2 * phiS cs 19 ≤ 36 * N + K + 125 := by omega
    by_cases c16 : (sty &&& (16 : Int32)) = (0 : Int32)
    · obtain ⟨a1, a2, a3⟩ := end_two (sty := sty) c.free t.row t.mb hn e3 t.by8 e6 e4 e5 e7 e8 c16
      rw [← t.cnt, ← e1, ← e10, ← e11, ← e12] at a1
      rw [← t.siz, ← e2, ← e13, ← e14, ← e15, ← e16] at a2
      have a3' : EndOk c.bn st' (J_X10_endWriting_j_10 (bI false) c.count c.start c.bn c.bf c.low c.size c.room c.free sty) (DJ_X10_endWriting_j_10 (bI false) c.count c.start c.bn c.bf c.low c.size c.room c.free sty) (F_X11_close sty (bI false) m.size m.begin m.low m.carried m.span m.room m.bf) n := by
        rw [t.cnt, e1, e10, e11, e12, t.siz, e2, e13, e14, e15, e16]
        exact a3
      exact fin t e2 a1 a2 (by omega) hbnd a3'
    · obtain ⟨a1, a2, a3⟩ := end_plain (sty := sty) (sz := sz) c.free t.row t.mb hn e3 t.by8 e6 e7 e8 c16
      rw [← t.cnt, ← e1, ← e10, ← e11, ← e12] at a1
      rw [← t.siz, ← e2, ← e13, ← e14, ← e15, ← e16] at a2
      have a3' : EndOk c.bn st' (J_X10_endWriting_j_10 (bI false) c.count c.start c.bn c.bf c.low c.size c.room c.free sty) (DJ_X10_endWriting_j_10 (bI false) c.count c.start c.bn c.bf c.low c.size c.room c.free sty) (F_X11_close sty (bI false) m.size m.begin m.low m.carried m.span m.room m.bf) n := by
        rw [t.cnt, e1, e10, e11, e12, t.siz, e2, e13, e14, e15, e16]
        exact a3
      exact fin t e2 a1 a2 (by omega) hbnd a3'
  | true =>
    obtain ⟨cs, cl, b, n, st', fr, t, e1, e2, e3, e4, e5, e6⟩ := h
    have htop := t.top
    have hst' : st' ≤ n := e3.1
    have hs : st' = st := (nI_eq (by omega) (by omega)).mp (e1.symm.trans hst)
    subst hs
    have hfr := e3.2.1
    have hn : n + 2 < 65536 := by omega
    obtain ⟨a1, a2, a3⟩ := end_raw (sty := sty) (low := c.low) (sz := c.size) (room := c.room) (mlow := m.low) (mcar := m.carried) (msp := m.span) t.row t.mb (by omega) e3
    have a1' : PJ_X10_endWriting_j_10 (bI true) c.count c.start c.bn c.bf c.low c.size c.room c.free sty := by rw [t.cnt, e1, e4]; exact a1
    have a2' : P_X11_close sty (bI true) m.size m.begin m.low m.carried m.span m.room 65536 m.bf := by rw [t.siz, e2, e5]; exact a2
    have a3' : EndOk c.bn st' (J_X10_endWriting_j_10 (bI true) c.count c.start c.bn c.bf c.low c.size c.room c.free sty) (DJ_X10_endWriting_j_10 (bI true) c.count c.start c.bn c.bf c.low c.size c.room c.free sty) (F_X11_close sty (bI true) m.size m.begin m.low m.carried m.span m.room m.bf) n := by
      rw [t.cnt, e1, e4, t.siz, e2, e5]
      exact a3
    exact fin t e2 a1' a2' (by omega) (by omega) a3'
