/-! ===== PURE: read opens its segments ===== -/
theorem last_loop {sty : Int32} {T n : Nat} (hn : n ≤ T) (hT : T ≤ 91) (hn1 : 1 ≤ n) : ∀ (d k fuel : Nat), k + d + 1 = n → d < fuel → PL_X6_endOf_j_1 (nI n) (nI T) sty fuel (nI k) ∧ ∃ la, L_X6_endOf_j_1 (nI n) (nI T) sty fuel (nI k) = nI la ∧ k ≤ la ∧ la < n ∧ (la + 1 = n ∨ endB sty T la = true) ∧ ∀ j, k ≤ j → j < la → endB sty T j = false := by
  intro d
  induction d with
  | zero =>
    intro k fuel h1 h2
    obtain ⟨m, rfl⟩ : ∃ m, fuel = m + 1 := ⟨fuel - 1, by omega⟩
    have q : nI (n - 1) ≤ nI k := nI_le (by omega) (by omega)
    rw [PL_X6_endOf_j_1, L_X6_endOf_j_1, pred_ok hn1, if_pos q]
    exact ⟨fun z => absurd q z, k, rfl, Nat.le_refl _, by omega, Or.inl (by omega), fun j a c => absurd a (by omega)⟩
  | succ d ih =>
    intro k fuel h1 h2
    obtain ⟨m, rfl⟩ : ∃ m, fuel = m + 1 := ⟨fuel - 1, by omega⟩
    have q : ¬ nI (n - 1) ≤ nI k := nI_ge (by omega) (by omega)
    have e1 := (end_ok sty (k := k) (T := T) (by omega) hT).1
    rw [PL_X6_endOf_j_1, L_X6_endOf_j_1, pred_ok hn1, if_neg q]
    simp only [e1, forall_eq']
    cases he : endB sty T k with
    | true =>
      rw [if_neg (show ¬ bI true = 0 by decide)]
      exact ⟨fun _ z => absurd z (by decide), k, rfl, Nat.le_refl _, by omega, Or.inr he, fun j a c => absurd a (by omega)⟩
    | false =>
      rw [if_pos (show bI false = 0 from rfl)]
      obtain ⟨t1, la, t2, t3, t4, t5, t6⟩ := ih (k + 1) m (by omega) (by omega)
      rw [nI_succ] at t1 t2
      refine ⟨fun _ _ => t1, la, t2, by omega, t4, t5, fun j a c => ?_⟩
      by_cases cj : j = k
      · rw [cj]; exact he
      · exact t6 j (by omega) c
theorem sgo_same {sty : Int32} {T k : Nat} {sb rc : Nat → Nat} (h8 : ∀ j, j + 1 < T → sb (j + 1) = if endB sty T j then rc j else sb j) : ∀ d, k + d < T → (∀ j, k ≤ j → j < k + d → endB sty T j = false) → sgo sty T (k + d) = sgo sty T k ∧ sb (k + d) = sb k := by
  intro d
  induction d with
  | zero => intro _ _; exact ⟨rfl, rfl⟩
  | succ d ih =>
    intro hT h
    obtain ⟨a1, a2⟩ := ih (by omega) (fun j x y => h j x (by omega))
    have he := h (k + d) (by omega) (by omega)
    have e8 := h8 (k + d) (by omega)
    rw [he, if_neg (by decide)] at e8
    refine ⟨?_, by rw [← a2]; exact e8⟩
    show sgo sty T (k + d) + bN (endB sty T (k + d)) = _
    rw [he, a1]; rfl
/-- where the segment that pass k starts begins and ends, if n passes are read -/
theorem seg_ok {sty : Int32} {T n k N : Nat} {rc sb : Nat → Nat} {rch mrch mso mbg mln : Nat → Int32} (hn : n ≤ T) (hT : T ≤ 91) (hk : k < n) (hs : staB sty T k = true) (h : Rch sty T T rc sb rch mrch mso mbg mln) (hN : ∀ j, j < T → rc j ≤ N) (hN2 : N ≤ 65536) :
    ∃ fr e, fr ≤ e ∧ e ≤ N ∧ P_X6_startOf (nI k) 91 ∧ F_X6_startOf (nI k) rch = nI fr ∧ P_X6_endOf (nI k) (nI n) (nI T) sty 91 ∧ F_X6_endOf (nI k) (nI n) (nI T) sty rch = nI e ∧
    vp_in (nI k) 96 ∧ vp_in (nI n - 1) 96 ∧ PJ_X11_read_j_22 (nI n) sty (nI T) 96 mso 96 96 (nI k) ∧ J_X11_read_j_22 (nI n) sty (nI T) mrch mso mbg mln (nI k) = nI (e - fr) ∧ PJ_X11_read_j_36 (nI n) sty (nI T) 96 mso 96 96 (nI k) ∧ J_X11_read_j_36 (nI n) sty (nI T) mrch mso mbg mln (nI k) = nI (e - fr) ∧ vp_in (mso (nI k).toNatClampNeg) 96 ∧ mbg (mso (nI k).toNatClampNeg).toNatClampNeg = nI fr := by
  have hfu := fu_ge
  obtain ⟨r1, r2, r3, r4, r5, r6, r7, r8, r9⟩ := h
  obtain ⟨t1, la, t2, t3, t4, t5, t6⟩ := last_loop (sty := sty) hn hT (show 1 ≤ n by omega) (n - 1 - k) k fu (by omega) (by omega)
  obtain ⟨d, rfl⟩ : ∃ d, la = k + d := ⟨la - k, by omega⟩
  obtain ⟨s1, s2⟩ := sgo_same r8 d (by omega) t6
  have hsg := sgo_le sty T k
  have hkc : (nI k).toNatClampNeg = k := nI_clamp (by omega)
  have hnc : nI n - 1 = nI (n - 1) := pred_ok (by omega)
  have hn1 : (nI (n - 1)).toNatClampNeg = n - 1 := nI_clamp (by omega)
  have hk4 := r4 k (by omega)
  have hn4 := r4 (n - 1) (by omega)
  have hsc : (nI (sgo sty T k)).toNatClampNeg = sgo sty T k := nI_clamp (by omega)
  have h5 := r5 k (by omega)
  have h6 : sb k ≤ rc (k + d) := by rw [← s2]; exact r6 (k + d) (by omega)
  have hi : vp_in (nI (sgo sty T k)) 96 := vp_in_nI (by omega) (by omega)
  have hi2 : vp_in (nI (n - 1)) 96 := vp_in_nI (by omega) (by omega)
  have hen := (end_ok sty (k := n - 1) (T := T) (by omega) hT).2
  have hm2 := r2 (n - 1) (by omega)
  have hsgn := sgo_le sty T (n - 1)
  -- the length of it
  have hJ : (if nI (sgo sty T (n - 1)) = nI (sgo sty T k) then (if bI (endB sty T (n - 1)) = (0 : Int32) then nI (rc (n - 1)) - nI (sb k) else mln (sgo sty T k)) else mln (sgo sty T k)) = nI (rc (k + d) - sb k) := by
    have hend : endB sty T (k + d) = true → mln (sgo sty T k) = nI (rc (k + d) - sb k) := by
      intro q
      have := r7 (k + d) (by omega) q
      rw [s1, s2] at this
      exact this
    by_cases c1 : sgo sty T (n - 1) = sgo sty T k
    · rw [if_pos (by rw [c1])]
      cases he : endB sty T (n - 1) with
      | false =>
        rw [if_pos (show bI false = 0 from rfl)]
        have hl : k + d = n - 1 := by
          rcases t5 with q | q
          · omega
          · by_cases c2 : k + d = n - 1
            · exact c2
            · have m1 := sgo_mono sty T (n - 1) (k + d + 1) (by omega)
              have m2 : sgo sty T (k + d + 1) = sgo sty T (k + d) + 1 := by rw [sgo_next, q]; rfl
              omega
        rw [← hl]; exact pk_sub h6
      | true =>
        rw [if_neg (show ¬ bI true = 0 by decide)]
        apply hend
        rcases t5 with q | q
        · rw [show k + d = n - 1 by omega]; exact he
        · exact q
    · rw [if_neg (fun z => c1 ((nI_eq (by omega) (by omega)).mp z))]
      apply hend
      rcases t5 with q | q
      · exact absurd (by rw [← s1, show k + d = n - 1 by omega]) c1
      · exact q
  have hst : F_X6_startOf (nI k) rch = nI (sb k) := by
    unfold F_X6_startOf
    by_cases c : k = 0
    · subst c
      rw [if_pos (show nI 0 = 0 from rfl), r9 (by omega)]; rfl
    · rw [if_neg (nI_ne0 (by omega) (by omega)), pred_ok (by omega), nI_clamp (by omega), r1 (k - 1) (by omega)]
      have e8 := r8 (k - 1) (by omega)
      rw [show k - 1 + 1 = k by omega] at e8
      have he : endB sty T (k - 1) = true := by unfold staB at hs; rw [decide_eq_false c] at hs; simpa using hs
      rw [he, if_pos rfl] at e8
      rw [e8]
  refine ⟨sb k, rc (k + d), h6, hN _ (by omega), ?_, hst, ⟨t1, fun j hj => ?_⟩, ?_, vp_in_nI (by omega) (by omega), by rw [hnc]; exact hi2, ?_, ?_, ?_, ?_, by rw [hkc, hk4]; exact hi, by rw [hkc, hk4, hsc]; exact h5⟩
  · intro c
    have hk0 : k ≠ 0 := fun z => c (by rw [z]; rfl)
    rw [pred_ok (by omega)]
    exact vp_in_nI (by omega) (by omega)
  · rw [← hj, t2]; exact vp_in_nI (by omega) (by omega)
  · unfold F_X6_endOf
    simp only [t2]
    rw [nI_clamp (by omega)]
    exact r1 _ (by omega)
  · unfold PJ_X11_read_j_22
    rw [hnc, hkc, hk4]
    exact ⟨fun _ _ _ => ⟨fun _ => ⟨hi2, hi⟩, fun _ => hi⟩, fun _ => hi⟩
  · unfold J_X11_read_j_22
    rw [hnc, hn1, hkc, hk4, hn4]
    simp only [hen, hsc, h5, hm2]
    exact hJ
  · unfold PJ_X11_read_j_36
    rw [hnc, hkc, hk4]
    exact ⟨fun _ _ _ => ⟨fun _ => ⟨hi2, hi⟩, fun _ => hi⟩, fun _ => hi⟩
  · unfold J_X11_read_j_36
    rw [hnc, hn1, hkc, hk4, hn4]
    simp only [hen, hsc, h5, hm2]
    exact hJ
/-! the readers open -/
def CS.ord (c : CS) (x : Int32 × Int32 × Int32 × Int32 × Int32 × Int32 × Int32 × Int32 × Int32) : CS := (c.count, c.start, c.bn, c.bf, c.sf, c.lf, c.low, c.size, c.room, c.free, x.1, x.2.1, x.2.2.1, x.2.2.2.1, x.2.2.2.2.1, x.2.2.2.2.2.1, x.2.2.2.2.2.2.1, x.2.2.2.2.2.2.2.1, x.2.2.2.2.2.2.2.2)
def MS.ord (m : MS) (x : Int32 × Int32 × Int32 × Int32 × Int32 × Int32 × Int64) : MS := (m.size, m.begin, m.low, m.carried, x.1, x.2.1, x.2.2.1, x.2.2.2.1, x.2.2.2.2.1, x.2.2.2.2.2.1, x.2.2.2.2.2.2, m.sf, m.lf, m.bf)
theorem shl7 {n : Nat} (h : n * 128 < 2 ^ 31) : ((nI n).toInt64 <<< ((7 : Int32).toInt64 &&& 63)).toInt = ((n * 128 : Nat) : Int) := by
  rw [nI_l (by omega)]
  exact l_shl _ 7 (by decide) (by omega)
theorem rd_open {c : CS} {m : MS} {cs cl b : Nat → Nat} {n fr e N K : Nat} (raw : Bool) (t : Tie c m cs cl b n) (hfe : fr ≤ e) (hen : e ≤ n) :
    P_X10_openForReading (bI raw) (nI fr) (nI e) c.count c.bn c.bf ∧ P_X11_openRead (nI fr) (nI (e - fr)) (bI raw) 65536 m.bf ∧
    Cod (2 + bN raw) N K (c.ord (F_X10_openForReading (bI raw) (nI fr) (nI e) c.count c.bf c.place c.cend c.window c.csize c.croom c.rplace c.rend c.cur c.left)) (m.ord (F_X11_openRead (nI fr) (nI (e - fr)) (bI raw) m.span m.upper m.bf)) := by
  have htop := t.top
  obtain ⟨r1, r2, r3, r4⟩ := t.row
  have tt : ∀ x y, Tie (c.ord x) (m.ord y) cs cl b n := fun x y => ⟨t.hcs, t.hcl, t.hms, t.hml, t.ok, t.cnt, t.row, t.siz, t.mb, t.by8, t.top⟩
  cases raw with
  | true =>
    refine ⟨fun z => absurd z (by decide), fun z => absurd z (by decide), cs, cl, b, n, e, fr, 0, 0, fr, tt _ _, hen, Nat.le_refl _, hfe, by omega, by omega, by omega, fun _ => by omega, rfl, rfl, rfl, rfl, rfl, rfl, ?_, rfl, rfl⟩
    rw [Nat.sub_self]; rfl
  | false =>
    obtain ⟨a1, a2⟩ := byteOf_ok (p := fr) hen r1 r3 (by omega) r4
    have hb0 := bt_lt hen t.by8 fr
    have hsh : nI (bt e b fr) <<< ((16 : Int32) &&& 31) = nI (bt e b fr * 65536) := pk_shlN _ 16 (by decide) (by omega)
    obtain ⟨b1, b2⟩ := byteIn_ok (w := bt e b fr * 65536) hen r1 r3 hfe r4 t.by8
    obtain ⟨d1, d2⟩ := byteAt_ok (k := 0) hen hfe htop (by omega) t.mb
    obtain ⟨f1, f2⟩ := comesIn_ok hen htop (Nat.le_refl fr) hfe t.mb t.by8
    have hia := iAdd_lt (e := e) hen t.by8 fr
    obtain ⟨i7, i8⟩ := iRm_in e b fr
    have hpl := iPl_le (b := b) hfe
    have hpg : fr ≤ iPl e b fr := iPl_ge
    rw [show fr + 1 - fr = 1 by omega] at f1 f2
    rw [nI_0] at d1 d2
    rw [Nat.add_zero] at d2
    have e1 : F_X10_openForReading (bI false) (nI fr) (nI e) c.count c.bf c.place c.cend c.window c.csize c.croom c.rplace c.rend c.cur c.left = (nI (iPl e b fr), nI e, nI ((bt e b fr * 65536 + iAdd e b fr) * 128), 32768, nI (iRm e b fr - 7), c.rplace, c.rend, c.cur, c.left) := by
      unfold F_X10_openForReading F_X2_open
      rw [if_pos (show bI false = 0 from rfl), t.cnt]
      simp only [a2, hsh, b2]
      rw [pk_shlN _ 7 (by decide) (by omega), show (7 : Int32) = nI 7 from rfl, pk_sub (by omega)]
    have e2 : ∃ up : Int64, F_X11_openRead (nI fr) (nI (e - fr)) (bI false) m.span m.upper m.bf = (32768, nI (iRm e b fr - 7), nI fr, nI (e - fr), nI (iPl e b fr + 1 - fr), nI (bt e b (iPl e b fr)), up) ∧ up.toInt = (32768 * 65536 : Nat) - 1 - (((bt e b fr * 65536 + iAdd e b fr) * 128 : Nat) : Int) := by
      unfold F_X11_openRead
      rw [if_pos (show bI false = 0 from rfl)]
      have f2' : F_X11_comesIn (nI fr) (nI (e - fr)) 1 (nI (bt e b fr)) m.bf = _ := f2
      have h7 : nI (iRm e b fr) - 7 = nI (iRm e b fr - 7) := pk_sub (b := 7) (by omega)
      simp only [d2, f2', h7]
      refine ⟨_, rfl, ?_⟩
      have s1 := shl16 (n := bt e b fr) (by omega)
      have s2 : (nI (iAdd e b fr)).toInt64.toInt = ((iAdd e b fr : Nat) : Int) := by rw [nI_l (by omega)]; exact lN_toInt (by omega)
      have s3 := l_add s1 s2 (by omega) (by omega)
      have s4 : (nI (bt e b fr)).toInt64 <<< ((16 : Int32).toInt64 &&& 63) + (nI (iAdd e b fr)).toInt64 = lN (bt e b fr * 65536 + iAdd e b fr) := by
        apply Int64.toInt_inj.mp
        rw [s3, lN_toInt (by omega)]
        omega
      rw [s4]
      have s5 := l_shl (n := bt e b fr * 65536 + iAdd e b fr) ((7 : Int32).toInt64 &&& 63) 7 (by decide) (by omega)
      have s6 : (2147483647 : Int64).toInt = 2147483647 := by decide
      rw [l_sub s6 s5 (by omega) (by omega)]
      omega
    obtain ⟨up, e2, e3⟩ := e2
    refine ⟨fun _ => ⟨by rw [t.cnt]; exact a1, fun _ _ => by rw [t.cnt]; exact b1⟩, fun _ => ⟨d1, fun r hr => ?_⟩, ?_⟩
    · rw [d2] at hr
      subst hr
      exact f1
    · rw [e1, e2]
      exact ⟨cs, cl, b, n, e, fr, 32768, (bt e b fr * 65536 + iAdd e b fr) * 128, iRm e b fr - 7, iPl e b fr, tt _ _, hen, hpg, hpl, by omega, by omega, by omega, by omega, rfl, rfl, rfl, rfl, rfl, rfl, rfl, rfl, rfl, rfl, rfl, e3⟩
