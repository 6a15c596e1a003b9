/-! ===== PURE: write opens a segment where one starts ===== -/
def SameX (c c0 : CS) : Prop := c0.count = c.count ∧ c0.bn = c.bn ∧ c0.bf = c.bf ∧ c0.sf = c.sf ∧ c0.lf = c.lf ∧ c0.place = c.place ∧ c0.cend = c.cend ∧ c0.window = c.window ∧ c0.csize = c.csize ∧ c0.croom = c.croom ∧ c0.rplace = c.rplace ∧ c0.rend = c.rend ∧ c0.cur = c.cur ∧ c0.left = c.left
def SameM (m m0 : MS) : Prop := m0.size = m.size ∧ m0.place = m.place ∧ m0.limit = m.limit ∧ m0.next = m.next ∧ m0.last = m.last ∧ m0.upper = m.upper ∧ m0.sf = m.sf ∧ m0.lf = m.lf ∧ m0.bf = m.bf
theorem w_open {b : EnvB} {P T k M f0 st : Nat} {G : GF} {g gc rc sb : Nat → Nat} {c : CS} {m : MS} {mags marks known below latest early again rch mrch mso mbg mln : Nat → Int32} {seg mseg fst : Int32} {gns mgns : Nat → Int64} {bef : Int64} (hT : T ≤ 91) (hk : k < T)
    (h : WRel b P T k M f0 st G g gc rc sb c m mags marks known below latest early again rch mrch mso mbg mln seg mseg fst gns mgns bef) :
    ∃ (c0 : CS) (m0 : MS) (mbg' : Nat → Int32), J_X10_write_j_12 c.count c.start c.low c.size c.room c.free (bI (rawB b.sty k)) (bI (staB b.sty T k)) = (c0.start, c0.low, c0.size, c0.room, c0.free) ∧ J_X11_write_j_16 b.sty (nI P, nI T) (nI k) mseg m.size m.begin m.low m.carried m.span m.room mbg (bI (rawB b.sty k)) = (m0.begin, m0.low, m0.carried, m0.span, m0.room, mbg') ∧
    PJ_X11_write_j_16 b.sty 96 (nI P, nI T) (nI k) mseg m.size (bI (rawB b.sty k)) ∧ SameX c c0 ∧ SameM m m0 ∧ Cod (bN (rawB b.sty k)) (nT b g gc M) (838 + 1113 * k) c0 m0 ∧ c0.start = nI st ∧ (∀ j, j < k → mbg' (sgo b.sty T j) = nI (sb j)) ∧ mbg' (sgo b.sty T k) = nI st := by
  obtain ⟨h1, h2, h3, h4, h5, h6, h7, h8, h9, h10, h11, h12, h13, h14, h15⟩ := h
  obtain ⟨r1, r2, r3, r4, r5, r6, r7, r8, r9⟩ := h11
  have hsg := sgo_le b.sty T k
  have hin : vp_in mseg 96 := by rw [h13]; exact vp_in_nI (by omega) (by omega)
  cases hs : staB b.sty T k with
  | true =>
    obtain ⟨a1, a2, a3⟩ := h2 hs
    obtain ⟨o1, o2, o3, o4⟩ := open_sim (rawB b.sty k) a1
    have hmg : ∀ j, j < k → sgo b.sty T j ≠ sgo b.sty T k := by
      intro j hj
      have hk0 : k ≠ 0 := by omega
      have he : endB b.sty T (k - 1) = true := by unfold staB at hs; rw [decide_eq_false hk0] at hs; simpa using hs
      have e1 : sgo b.sty T k = sgo b.sty T (k - 1) + 1 := by
        obtain ⟨q, rfl⟩ : ∃ q, k = q + 1 := ⟨k - 1, by omega⟩
        show sgo b.sty T q + bN (endB b.sty T q) = _
        rw [Nat.add_sub_cancel] at he ⊢
        rw [he]; rfl
      have := sgo_mono b.sty T (k - 1) j (by omega)
      omega
    refine ⟨c.opn (rawB b.sty k), m.opn (rawB b.sty k), upd mbg (sgo b.sty T k) m.size, ?_, ?_, ⟨fun _ _ _ => hin, fun _ _ _ _ _ _ => hin⟩, ⟨rfl, rfl, rfl, rfl, rfl, rfl, rfl, rfl, rfl, rfl, rfl, rfl, rfl, rfl⟩, ⟨rfl, rfl, rfl, rfl, rfl, rfl, rfl, rfl, rfl⟩, o3, o4, fun j hj => ?_, ?_⟩
    · unfold J_X10_write_j_12
      rw [if_neg (show ¬ bI true = 0 by decide), o1]
    · have hcl : mseg.toNatClampNeg = sgo b.sty T k := by rw [h13, nI_clamp (by omega)]
      unfold J_X11_write_j_16
      by_cases ck : k = 0
      · have d : nI k = (0 : Int32) := by rw [ck]; rfl
        rw [if_pos d, o2, hcl]
      · have d : ¬ nI k = (0 : Int32) := nI_ne0 (by omega) (by omega)
        have he : endB b.sty T (k - 1) = true := by unfold staB at hs; rw [decide_eq_false ck] at hs; simpa using hs
        rw [if_neg d, pred_ok (by omega)]
        have e2 := (end_ok b.sty (k := k - 1) (T := T) (by omega) hT).2
        rw [he] at e2
        simp only [e2]
        rw [if_neg (show ¬ bI true = 0 by decide), o2, hcl]
    · rw [pk_un (hmg j hj)]; exact r5 j hj
    · rw [pk_us]
      obtain ⟨cs, cl, bb, t, -⟩ := a1
      exact t.siz
  | false =>
    obtain ⟨a1, a2, a3, a4⟩ := h3 hs
    have hk0 : k ≠ 0 := by omega
    have he : endB b.sty T (k - 1) = false := by unfold staB at hs; rw [decide_eq_false hk0] at hs; simpa using hs
    have e1 : sgo b.sty T k = sgo b.sty T (k - 1) := by
      obtain ⟨q, rfl⟩ : ∃ q, k = q + 1 := ⟨k - 1, by omega⟩
      show sgo b.sty T q + bN (endB b.sty T q) = _
      rw [Nat.add_sub_cancel] at he ⊢
      rw [he]; rfl
    refine ⟨c, m, mbg, ?_, ?_, ⟨fun _ _ _ => hin, fun _ _ _ _ _ _ => hin⟩, ⟨rfl, rfl, rfl, rfl, rfl, rfl, rfl, rfl, rfl, rfl, rfl, rfl, rfl, rfl⟩, ⟨rfl, rfl, rfl, rfl, rfl, rfl, rfl, rfl, rfl⟩, a1, a2, r5, ?_⟩
    · unfold J_X10_write_j_12
      rw [if_pos (show bI false = 0 from rfl)]
    · unfold J_X11_write_j_16
      have d : ¬ nI k = (0 : Int32) := nI_ne0 (by omega) (by omega)
      rw [if_neg d, pred_ok (by omega)]
      have e2 := (end_ok b.sty (k := k - 1) (T := T) (by omega) hT).2
      rw [he] at e2
      simp only [e2]
      rw [if_pos (show bI false = 0 from rfl)]
    · rw [e1, r5 (k - 1) (by omega), a4]
