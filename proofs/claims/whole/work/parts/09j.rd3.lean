/-! ===== PURE: a bit is read in a context ===== -/
/-- likely or not; the size and the window before the doubling -/
def vLow (p w : Nat) : Bool := decide (w < p * 65536)
def vLik (sz p w : Nat) : Bool := if vLow p w then decide (sz - p < p) else decide (p ≤ sz - p)
def vSz (sz p w : Nat) : Nat := if vLow p w then p else sz - p
def vW (p w : Nat) : Nat := if vLow p w then w else w - p * 65536
def vStay (sz p w : Nat) : Bool := !vLow p w && decide (32768 ≤ sz - p)
def qNext (e : Nat) (b : Nat → Nat) (k : Nat) (cs cl : Nat → Nat) (sz w room pl : Nat) : Nat × ((Nat → Nat) × (Nat → Nat)) × (Nat × Nat × Nat × Nat) :=
  if vStay sz (nP (cs k)) w then (cl k, (cs, cl), (sz - nP (cs k), w - nP (cs k) * 65536, room, pl))
  else (if vLik sz (nP (cs k)) w then cl k else 1 - cl k, if vLik sz (nP (cs k)) w then (sLike cs k, cl) else (sOth cs k, sFlip cs cl k), qRen e b 15 (vSz sz (nP (cs k)) w) (vW (nP (cs k)) w) room pl)
theorem qNext_in {e k sz w room pl : Nat} {b cs cl : Nat → Nat} (hk : k < 19) (ho : cOk cs cl) (h3 : 32768 ≤ sz) (h4 : sz < 65536) (h5 : w < 4294967296) (h6 : room ≤ 8) (h7 : pl ≤ e) :
    (qNext e b k cs cl sz w room pl).1 < 2 ∧ cOk (qNext e b k cs cl sz w room pl).2.1.1 (qNext e b k cs cl sz w room pl).2.1.2 ∧ 32768 ≤ (qNext e b k cs cl sz w room pl).2.2.1 ∧ (qNext e b k cs cl sz w room pl).2.2.1 < 65536 ∧ (qNext e b k cs cl sz w room pl).2.2.2.1 < 4294967296 ∧ (qNext e b k cs cl sz w room pl).2.2.2.2.1 ≤ 8 ∧ pl ≤ (qNext e b k cs cl sz w room pl).2.2.2.2.2 ∧ (qNext e b k cs cl sz w room pl).2.2.2.2.2 ≤ e := by
  have hp := nP_in _ (ho.1 k hk)
  have hb := ho.2 k hk
  unfold qNext
  by_cases c : vStay sz (nP (cs k)) w = true
  · rw [if_pos c]
    have c2 : 32768 ≤ sz - nP (cs k) := by unfold vStay at c; simp at c; exact c.2
    exact ⟨hb, ho, c2, by show sz - nP (cs k) < 65536; omega, by show w - _ < 4294967296; omega, h6, Nat.le_refl _, h7⟩
  · rw [if_neg c]
    have hz : 1 ≤ vSz sz (nP (cs k)) w ∧ vSz sz (nP (cs k)) w < 65536 := by unfold vSz; split <;> omega
    have hw : vW (nP (cs k)) w < 4294967296 := by unfold vW; split <;> omega
    obtain ⟨t1, t2, t3, t4, t5, t6⟩ := qRen_in e b 15 _ _ room pl (p15 hz.1) hz.2 hw h6 h7
    refine ⟨?_, ?_, t1, t2, t3, t4, t5, t6⟩
    · show (if vLik sz (nP (cs k)) w then cl k else 1 - cl k) < 2
      split <;> omega
    · show cOk (if vLik sz (nP (cs k)) w then (sLike cs k, cl) else (sOth cs k, sFlip cs cl k)).1 (if vLik sz (nP (cs k)) w then (sLike cs k, cl) else (sOth cs k, sFlip cs cl k)).2
      split
      · exact cOk_like ho hk
      · exact cOk_oth ho hk
section
variable {e n fr bn k sz w room pl : Nat} {f mf sf lf mp mo : Nat → Int32} {b cs cl : Nat → Nat}
theorem ush16 {x : Nat} (h : x < 4294967296) : ((nI x).toUInt32 >>> ((16 : Int32).toUInt32 &&& Int32.toUInt32 31)).toInt32 = nI (x / 65536) := pk_ushrN h _ 16 (by decide)
theorem n2_next (cwl cwz cwr rwf rp rc rl : Int32) (hk : k < 19) (hcs : cEq 19 sf cs) (hcl : cEq 19 lf cl) (ho : cOk cs cl) (he : e ≤ n) (hn : n ≤ bn) (hbn : bn ≤ 131072) (h : cEq n f b) (hb : ∀ j, j < n → b j < 256) (h3 : 32768 ≤ sz) (h4 : sz < 65536) (h5 : w < 4294967296) (h6 : room ≤ 8) (h7 : pl ≤ e) :
    P_N2 (nI k) (nI n) bn f 19 sf 19 lf (nI pl) (nI e) (nI w) (nI sz) (nI room) ∧ ∃ sf' lf' : Nat → Int32, F_N2 (nI k) (nI n) bn f sf lf cwl cwz cwr rwf (nI pl) (nI e) (nI w) (nI sz) (nI room) rp rc rl = (nI (qNext e b k cs cl sz w room pl).1, nI n, bn, f, sf', lf', cwl, cwz, cwr, rwf, nI (qNext e b k cs cl sz w room pl).2.2.2.2.2, nI (qNext e b k cs cl sz w room pl).2.2.2.1, nI (qNext e b k cs cl sz w room pl).2.2.1, nI (qNext e b k cs cl sz w room pl).2.2.2.2.1, rp, rc, rl) ∧ cEq 19 sf' (qNext e b k cs cl sz w room pl).2.1.1 ∧ cEq 19 lf' (qNext e b k cs cl sz w room pl).2.1.2 := by
  obtain ⟨a1, a2⟩ := x4_part hcs ho hk
  obtain ⟨b1, b2⟩ := x4_bit hcl hk
  have hp := nP_in _ (ho.1 k hk)
  have hfu := fu_ge
  have hb2 := ho.2 k hk
  have hsub : nI sz - nI (nP (cs k)) = nI (sz - nP (cs k)) := pk_sub (by omega)
  obtain ⟨cl1, cl2⟩ := x4_like hcs ho hk
  obtain ⟨co1, co2, co3⟩ := x4_oth hcs hcl ho hk
  have n10 : ¬ (1 : Int32) = 0 := by decide
  unfold P_N2 F_N2
  rw [a2, b2, ush16 h5]
  by_cases c : w < nP (cs k) * 65536
  · -- the lower share
    have hlow : vLow (nP (cs k)) w = true := decide_eq_true c
    have c1 : ¬ nI (nP (cs k)) ≤ nI (w / 65536) := nI_ge (by omega) (by omega)
    have hst : vStay sz (nP (cs k)) w = false := by unfold vStay; rw [hlow]; rfl
    obtain ⟨t1, i', t2⟩ := n2_ren he hn hbn h hb 15 0 fu (nP (cs k)) w room pl (p15 hp.1) (by omega) (by omega) (by omega) h5 h6 h7
    rw [nI_0] at t1 t2
    have hq : qNext e b k cs cl sz w room pl = (if sz - nP (cs k) < nP (cs k) then cl k else 1 - cl k, if sz - nP (cs k) < nP (cs k) then (sLike cs k, cl) else (sOth cs k, sFlip cs cl k), qRen e b 15 (nP (cs k)) w room pl) := by
      unfold qNext vLik vSz vW
      rw [hst, hlow]
      simp
    rw [hq]
    by_cases d : sz - nP (cs k) < nP (cs k)
    · have hj : J_N2_j_19 (nI sz) (nI (nP (cs k))) = 1 := by unfold J_N2_j_19; rw [hsub, if_neg (nI_ge d (by omega))]
      rw [if_pos d, if_pos d]
      refine ⟨⟨a1, fun r er => ⟨b1, fun r2 er2 => ⟨fun x => absurd (by rw [er]; exact x) c1, fun _ j ej => ⟨⟨fun _ => co1, fun _ => cl1⟩, fun j' ej' => ?_⟩⟩⟩⟩, F_X4_likelyCame (nI k) sf, lf, ?_, cl2, hcl⟩
      · rw [← er]; exact n2_sameP _ _ _ _ _ _ _ _ _ _ t1
      · show (if nI (nP (cs k)) ≤ nI (w / 65536) then _ else _) = _
        rw [if_neg c1]
        simp only [hj, n2_same, t2, J_N2_j_23, n10, if_false]
    · have hj : J_N2_j_19 (nI sz) (nI (nP (cs k))) = 0 := by unfold J_N2_j_19; rw [hsub, if_pos (nI_le (by omega) (by omega))]
      rw [if_neg d, if_neg d]
      refine ⟨⟨a1, fun r er => ⟨b1, fun r2 er2 => ⟨fun x => absurd (by rw [er]; exact x) c1, fun _ j ej => ⟨⟨fun _ => co1, fun _ => cl1⟩, fun j' ej' => ?_⟩⟩⟩⟩, (F_X4_otherCame (nI k) sf lf).1, (F_X4_otherCame (nI k) sf lf).2, ?_, co2, co3⟩
      · rw [← er]; exact n2_sameP _ _ _ _ _ _ _ _ _ _ t1
      · show (if nI (nP (cs k)) ≤ nI (w / 65536) then _ else _) = _
        rw [if_neg c1]
        simp only [hj, n2_same, t2, J_N2_j_23, if_true, one_sub hb2]
  · have hlow : vLow (nP (cs k)) w = false := decide_eq_false c
    have c1 : nI (nP (cs k)) ≤ nI (w / 65536) := nI_le (by omega) (by omega)
    have hshl : nI (nP (cs k)) <<< ((16 : Int32) &&& 31) = nI (nP (cs k) * 65536) := pk_shlN _ 16 (by decide) (by omega)
    have hw2 : nI w - nI (nP (cs k)) <<< ((16 : Int32) &&& 31) = nI (w - nP (cs k) * 65536) := by rw [hshl]; exact pk_sub (by omega)
    by_cases c2 : 32768 ≤ sz - nP (cs k)
    · have hst : vStay sz (nP (cs k)) w = true := by unfold vStay; rw [hlow, decide_eq_true c2]; rfl
      have hq : qNext e b k cs cl sz w room pl = (cl k, (cs, cl), (sz - nP (cs k), w - nP (cs k) * 65536, room, pl)) := by unfold qNext; rw [if_pos hst]
      have n2 : ¬ nI sz - nI (nP (cs k)) < (32768 : Int32) := by rw [hsub]; exact nI_nlt (b := 32768) c2 (by omega)
      rw [hq]
      refine ⟨⟨a1, fun r er => ⟨b1, fun r2 er2 => ⟨fun _ x => absurd (by rw [er]; exact x) n2, fun x => absurd (by rw [← er]; exact c1) x⟩⟩⟩, sf, lf, ?_, hcs, hcl⟩
      show (if nI (nP (cs k)) ≤ nI (w / 65536) then _ else _) = _
      rw [if_pos c1, if_neg n2, hsub, hw2]
    · have hst : vStay sz (nP (cs k)) w = false := by unfold vStay; rw [hlow, decide_eq_false c2]; rfl
      have n2 : nI sz - nI (nP (cs k)) < (32768 : Int32) := by rw [hsub]; exact nI_lt (b := 32768) (by omega) (by omega)
      obtain ⟨t1, i', t2⟩ := n2_ren he hn hbn h hb 15 0 fu (sz - nP (cs k)) (w - nP (cs k) * 65536) room pl (p15 (by omega)) (by omega) (by omega) (by omega) (by omega) h6 h7
      rw [nI_0] at t1 t2
      have hq : qNext e b k cs cl sz w room pl = (if nP (cs k) ≤ sz - nP (cs k) then cl k else 1 - cl k, if nP (cs k) ≤ sz - nP (cs k) then (sLike cs k, cl) else (sOth cs k, sFlip cs cl k), qRen e b 15 (sz - nP (cs k)) (w - nP (cs k) * 65536) room pl) := by
        unfold qNext vLik vSz vW
        rw [hst, hlow]
        simp
      rw [hq]
      by_cases d : nP (cs k) ≤ sz - nP (cs k)
      · have hj : J_N2_j_6 (nI sz) (nI (nP (cs k))) = 1 := by unfold J_N2_j_6; rw [hsub, if_neg (nI_nlt d (by omega))]
        rw [if_pos d, if_pos d]
        refine ⟨⟨a1, fun r er => ⟨b1, fun r2 er2 => ⟨fun _ _ j ej => ⟨⟨fun _ => co1, fun _ => cl1⟩, fun j' ej' => ?_⟩, fun x => absurd (by rw [← er]; exact c1) x⟩⟩⟩, F_X4_likelyCame (nI k) sf, lf, ?_, cl2, hcl⟩
        · rw [← er, hw2, hsub]; exact t1
        · show (if nI (nP (cs k)) ≤ nI (w / 65536) then _ else _) = _
          rw [if_pos c1, if_pos n2]
          simp only [hj, hw2, hsub, t2, J_N2_j_10, n10, if_false]
      · have hj : J_N2_j_6 (nI sz) (nI (nP (cs k))) = 0 := by unfold J_N2_j_6; rw [hsub, if_pos (nI_lt (by omega) (by omega))]
        rw [if_neg d, if_neg d]
        refine ⟨⟨a1, fun r er => ⟨b1, fun r2 er2 => ⟨fun _ _ j ej => ⟨⟨fun _ => co1, fun _ => cl1⟩, fun j' ej' => ?_⟩, fun x => absurd (by rw [← er]; exact c1) x⟩⟩⟩, (F_X4_otherCame (nI k) sf lf).1, (F_X4_otherCame (nI k) sf lf).2, ?_, co2, co3⟩
        · rw [← er, hw2, hsub]; exact t1
        · show (if nI (nP (cs k)) ≤ nI (w / 65536) then _ else _) = _
          rw [if_pos c1, if_pos n2]
          simp only [hj, hw2, hsub, t2, J_N2_j_10, if_true, one_sub hb2]
theorem rc_next {u : Int64} (hmp : cEq 47 mp nP) (hmo : cEq 47 mo nO) (hk : k < 19) (hcs : cEq 19 sf cs) (hcl : cEq 19 lf cl) (ho : cOk cs cl) (he : e ≤ n) (hn : n ≤ 65536) (hf : fr ≤ pl) (h : cEq n mf b) (hb : ∀ j, j < n → b j < 256) (h3 : 32768 ≤ sz) (h4 : sz < 65536) (h5 : w < 4294967296) (h6 : room ≤ 8) (h7 : pl ≤ e) (hu : u.toInt = (sz * 65536 : Nat) - 1 - (w : Int)) :
    P_X11_readCoded (nI k) (nI sz) (nI room) (nI fr) (nI (e - fr)) (nI (pl + 1 - fr)) (nI (bt e b pl)) u 47 mp 47 mo 19 sf 19 lf 65536 mf ∧ ∃ (u' : Int64) (sf' lf' : Nat → Int32), F_X11_readCoded (nI k) (nI sz) (nI room) (nI fr) (nI (e - fr)) (nI (pl + 1 - fr)) (nI (bt e b pl)) u mp mo sf lf mf = (nI (qNext e b k cs cl sz w room pl).1, nI (qNext e b k cs cl sz w room pl).2.2.1, nI (qNext e b k cs cl sz w room pl).2.2.2.2.1, nI ((qNext e b k cs cl sz w room pl).2.2.2.2.2 + 1 - fr), nI (bt e b (qNext e b k cs cl sz w room pl).2.2.2.2.2), u', sf', lf') ∧ u'.toInt = ((qNext e b k cs cl sz w room pl).2.2.1 * 65536 : Nat) - 1 - ((qNext e b k cs cl sz w room pl).2.2.2.1 : Int) ∧ cEq 19 sf' (qNext e b k cs cl sz w room pl).2.1.1 ∧ cEq 19 lf' (qNext e b k cs cl sz w room pl).2.1.2 := by
  have h47 := ho.1 k hk
  have hp := nP_in _ h47
  have hfu := fu_ge
  have hb2 := ho.2 k hk
  have hkc : (nI k).toNatClampNeg = k := nI_clamp (by omega)
  have hsc : (nI (cs k)).toNatClampNeg = cs k := nI_clamp (by omega)
  have hsub : nI sz - nI (nP (cs k)) = nI (sz - nP (cs k)) := pk_sub (by omega)
  have i1 : vp_in (nI k) 19 := vp_in_nI hk (by decide)
  have i2 : vp_in (nI (cs k)) 47 := vp_in_nI h47 (by decide)
  obtain ⟨cl1, cl2, cl3⟩ := x11_like (mo := mo) (lf := lf) hcs ho hk
  obtain ⟨co1, co2, co3⟩ := x11_oth hmo hcs hcl ho hk
  have n10 : ¬ (1 : Int32) = 0 := by decide
  have n01 : ¬ (0 : Int32) = 1 := by decide
  have hs16 := shl16 (n := sz - nP (cs k)) (by omega)
  unfold P_X11_readCoded F_X11_readCoded
  have hcmp : ∀ v : Int64, (lg_cmp u v < (0 : Int32)) ↔ u.toInt < v.toInt := fun v => by rw [lg_cmp_lt]; exact Int64.lt_iff_toInt_lt
  by_cases c : w < nP (cs k) * 65536
  · have hlow : vLow (nP (cs k)) w = true := decide_eq_true c
    have hst : vStay sz (nP (cs k)) w = false := by unfold vStay; rw [hlow]; rfl
    have j5 : J_X11_readCoded_j_5 (nI k) (nI sz) u mp sf = 1 := by
      unfold J_X11_readCoded_j_5
      rw [hkc, hcs k hk, hsc, hmp _ h47, hsub, if_neg]
      rw [hcmp, hs16, hu]
      omega
    have j12 : J_X11_readCoded_j_12 (nI k) (nI sz) u mp sf 1 = (nI (nP (cs k)), u - (nI (sz - nP (cs k))).toInt64 <<< ((16 : Int32).toInt64 &&& 63)) := by
      unfold J_X11_readCoded_j_12
      rw [hkc, hcs k hk, hsc, hmp _ h47, hsub, if_neg n10]
    have hu2 : (u - (nI (sz - nP (cs k))).toInt64 <<< ((16 : Int32).toInt64 &&& 63)).toInt = (nP (cs k) * 65536 : Nat) - 1 - (w : Int) := by
      rw [l_sub hu hs16 (by omega) (by omega)]; omega
    obtain ⟨t1, u', t2, t3⟩ := rc_ren he hn h hb 15 fu (nP (cs k)) w room pl _ (p15 hp.1) (by omega) (by omega) h5 h6 hf h7 hu2
    have hq : qNext e b k cs cl sz w room pl = (if sz - nP (cs k) < nP (cs k) then cl k else 1 - cl k, if sz - nP (cs k) < nP (cs k) then (sLike cs k, cl) else (sOth cs k, sFlip cs cl k), qRen e b 15 (nP (cs k)) w room pl) := by
      unfold qNext vLik vSz vW
      rw [hst, hlow]
      simp
    have pp : ∀ {j8 : Int32}, J_X11_readCoded_j_8 (nI k) (nI sz) mp sf = j8 → P_X11_changeContext (nI k) (J_X11_readCoded_j_10 1 j8) 47 19 sf 19 lf → P_X11_readCoded (nI k) (nI sz) (nI room) (nI fr) (nI (e - fr)) (nI (pl + 1 - fr)) (nI (bt e b pl)) u 47 mp 47 mo 19 sf 19 lf 65536 mf := by
      intro j8 e8 hcc
      unfold P_X11_readCoded
      refine ⟨i1, by rw [hkc, hcs k hk]; exact i2, i1, fun a ea => ?_⟩
      rw [j5] at ea
      subst ea
      refine ⟨fun x => absurd x n10, fun _ a8 ea8 a10 ea10 a12 ea12 => ?_⟩
      rw [e8] at ea8
      subst ea8
      subst ea10
      rw [j12] at ea12
      subst ea12
      exact ⟨hcc, fun _ _ => t1⟩
    rw [hq]
    by_cases d : sz - nP (cs k) < nP (cs k)
    · have hj : J_X11_readCoded_j_8 (nI k) (nI sz) mp sf = 1 := by unfold J_X11_readCoded_j_8; rw [hkc, hcs k hk, hsc, hmp _ h47, hsub, if_neg (nI_ge d (by omega))]
      have hj10 : J_X11_readCoded_j_10 1 1 = 1 := if_pos rfl
      rw [if_pos d, if_pos d]
      refine ⟨pp hj (by rw [hj10]; exact cl1), u', (F_X11_changeContext (nI k) 1 mo sf lf).1, lf, ?_, t3, cl2, hcl⟩
      simp only [j5, n10, if_false, hj, hj10, j12, t2, cl3, hkc, hcl k hk]
    · have hj : J_X11_readCoded_j_8 (nI k) (nI sz) mp sf = 0 := by unfold J_X11_readCoded_j_8; rw [hkc, hcs k hk, hsc, hmp _ h47, hsub, if_pos (nI_le (by omega) (by omega))]
      have hj10 : J_X11_readCoded_j_10 1 0 = 0 := if_neg n10
      rw [if_neg d, if_neg d]
      refine ⟨pp hj (by rw [hj10]; exact co1), u', (F_X11_changeContext (nI k) 0 mo sf lf).1, (F_X11_changeContext (nI k) 0 mo sf lf).2, ?_, t3, co2, co3⟩
      simp only [j5, n10, if_false, hj, hj10, j12, t2, hkc, hcl k hk, if_true, one_sub hb2]
  · have hlow : vLow (nP (cs k)) w = false := decide_eq_false c
    have j5 : J_X11_readCoded_j_5 (nI k) (nI sz) u mp sf = 0 := by
      unfold J_X11_readCoded_j_5
      rw [hkc, hcs k hk, hsc, hmp _ h47, hsub, if_pos]
      rw [hcmp, hs16, hu]
      omega
    have hu2 : u.toInt = ((sz - nP (cs k)) * 65536 : Nat) - 1 - ((w - nP (cs k) * 65536 : Nat) : Int) := by rw [hu]; omega
    by_cases c2 : 32768 ≤ sz - nP (cs k)
    · have hst : vStay sz (nP (cs k)) w = true := by unfold vStay; rw [hlow, decide_eq_true c2]; rfl
      have hq : qNext e b k cs cl sz w room pl = (cl k, (cs, cl), (sz - nP (cs k), w - nP (cs k) * 65536, room, pl)) := by unfold qNext; rw [if_pos hst]
      have n2 : ¬ nI (sz - nP (cs k)) < (32768 : Int32) := nI_nlt (b := 32768) c2 (by omega)
      rw [hq]
      refine ⟨⟨i1, by rw [hkc, hcs k hk]; exact i2, i1, fun a ea => ?_⟩, u, sf, lf, ?_, hu2, hcs, hcl⟩
      · rw [j5] at ea
        subst ea
        refine ⟨fun _ x => absurd ?_ n2, fun x => absurd rfl x⟩
        rw [hkc, hcs k hk, hsc, hmp _ h47, hsub] at x
        exact x
      · simp only [j5, if_true, hkc, hcs k hk, hsc, hmp _ h47, hsub, n2, if_false, hcl k hk]
    · have hst : vStay sz (nP (cs k)) w = false := by unfold vStay; rw [hlow, decide_eq_false c2]; rfl
      have n2 : nI (sz - nP (cs k)) < (32768 : Int32) := nI_lt (b := 32768) (by omega) (by omega)
      have j28 : J_X11_readCoded_j_28 (nI k) (nI sz) u mp sf 0 = (nI (sz - nP (cs k)), u) := by
        unfold J_X11_readCoded_j_28
        rw [hkc, hcs k hk, hsc, hmp _ h47, hsub, if_pos rfl]
      obtain ⟨t1, u', t2, t3⟩ := rc_ren he hn h hb 15 fu (sz - nP (cs k)) (w - nP (cs k) * 65536) room pl u (p15 (by omega)) (by omega) (by omega) (by omega) h6 hf h7 hu2
      have hq : qNext e b k cs cl sz w room pl = (if nP (cs k) ≤ sz - nP (cs k) then cl k else 1 - cl k, if nP (cs k) ≤ sz - nP (cs k) then (sLike cs k, cl) else (sOth cs k, sFlip cs cl k), qRen e b 15 (sz - nP (cs k)) (w - nP (cs k) * 65536) room pl) := by
        unfold qNext vLik vSz vW
        rw [hst, hlow]
        simp
      have pp : ∀ {j24 : Int32}, J_X11_readCoded_j_24 (nI k) (nI sz) mp sf = j24 → P_X11_changeContext (nI k) (J_X11_readCoded_j_26 0 j24) 47 19 sf 19 lf → P_X11_readCoded (nI k) (nI sz) (nI room) (nI fr) (nI (e - fr)) (nI (pl + 1 - fr)) (nI (bt e b pl)) u 47 mp 47 mo 19 sf 19 lf 65536 mf := by
        intro j24 e24 hcc
        unfold P_X11_readCoded
        refine ⟨i1, by rw [hkc, hcs k hk]; exact i2, i1, fun a ea => ?_⟩
        rw [j5] at ea
        subst ea
        refine ⟨fun _ _ a24 ea24 a26 ea26 a28 ea28 => ?_, fun x => absurd rfl x⟩
        rw [e24] at ea24
        subst ea24
        subst ea26
        rw [j28] at ea28
        subst ea28
        exact ⟨hcc, fun _ _ => rc_sameP _ _ _ _ _ _ _ _ _ _ t1⟩
      rw [hq]
      by_cases d : nP (cs k) ≤ sz - nP (cs k)
      · have hj : J_X11_readCoded_j_24 (nI k) (nI sz) mp sf = 0 := by unfold J_X11_readCoded_j_24; rw [hkc, hcs k hk, hsc, hmp _ h47, hsub, if_pos (nI_le d (by omega))]
        have hj26 : J_X11_readCoded_j_26 0 0 = 1 := if_pos rfl
        rw [if_pos d, if_pos d]
        refine ⟨pp hj (by rw [hj26]; exact cl1), u', (F_X11_changeContext (nI k) 1 mo sf lf).1, lf, ?_, t3, cl2, hcl⟩
        simp only [j5, if_true, hkc, hcs k hk, hsc, hmp _ h47, hsub, n2, hj, hj26, j28, rc_same, t2, cl3, hcl k hk, n10, if_false]
      · have hj : J_X11_readCoded_j_24 (nI k) (nI sz) mp sf = 1 := by unfold J_X11_readCoded_j_24; rw [hkc, hcs k hk, hsc, hmp _ h47, hsub, if_neg (nI_ge (by omega) (by omega))]
        have hj26 : J_X11_readCoded_j_26 0 1 = 0 := if_neg n01
        rw [if_neg d, if_neg d]
        refine ⟨pp hj (by rw [hj26]; exact co1), u', (F_X11_changeContext (nI k) 0 mo sf lf).1, (F_X11_changeContext (nI k) 0 mo sf lf).2, ?_, t3, co2, co3⟩
        simp only [j5, if_true, hkc, hcs k hk, hsc, hmp _ h47, hsub, n2, hj, hj26, j28, rc_same, t2, hcl k hk, one_sub hb2]
end
/-! raw bits -/
def gL (left cur : Nat) : Nat := if left = 0 then (if cur = 255 then 7 else 8) else left
def gC (e : Nat) (b : Nat → Nat) (left cur pl : Nat) : Nat := if left = 0 then bt e b pl else cur
def gP (left pl : Nat) : Nat := if left = 0 then pl + 1 else pl
def gV (e : Nat) (b : Nat → Nat) (left cur pl : Nat) : Nat := gC e b left cur pl / 2 ^ (gL left cur - 1) % 2
theorem shrA : ((List.range 9).all fun l => !(Nat.blt 0 l) || (List.range 256).all fun x => ((nI x >>> (nI (l - 1) &&& 31)) &&& (1 : Int32)) == nI (x / 2 ^ (l - 1) % 2)) = true := by decide +kernel
theorem shr_ok {l x : Nat} (h1 : 1 ≤ l) (h2 : l ≤ 8) (hx : x < 256) : ((nI x >>> (nI (l - 1) &&& 31)) &&& (1 : Int32)) = nI (x / 2 ^ (l - 1) % 2) := by
  have h := shrA
  rw [List.all_eq_true] at h
  have h := h l (List.mem_range.mpr (by omega))
  have e1 : Nat.blt 0 l = true := by simp; omega
  rw [e1] at h
  simp only [Bool.not_true, Bool.false_or] at h
  rw [List.all_eq_true] at h
  have h := h x (List.mem_range.mpr hx)
  simpa using h
theorem g_in {e n left cur pl : Nat} {b : Nat → Nat} (he : e ≤ n) (hb : ∀ j, j < n → b j < 256) (hl : left ≤ 8) (hc : cur < 256) : 1 ≤ gL left cur ∧ gL left cur ≤ 8 ∧ gC e b left cur pl < 256 ∧ pl ≤ gP left pl ∧ gP left pl ≤ pl + 1 ∧ gV e b left cur pl < 2 := by
  have := bt_lt he hb pl
  refine ⟨?_, ?_, ?_, ?_, ?_, Nat.mod_lt _ (by omega)⟩
  · unfold gL; split <;> (try split) <;> omega
  · unfold gL; split <;> (try split) <;> omega
  · unfold gC; split <;> omega
  · unfold gP; split <;> omega
  · unfold gP; split <;> omega
theorem n7_next {e n bn left cur pl : Nat} {f : Nat → Int32} {b : Nat → Nat} (sf lf : Nat → Int32) (cwl cwz cwr rwf cp cw cz cm : Int32) (he : e ≤ n) (hn : n ≤ bn) (hbn : bn ≤ 131072) (h : cEq n f b) (hb : ∀ j, j < n → b j < 256) (hl : left ≤ 8) (hc : cur < 256) (hp : pl < 2 ^ 30) :
    P_N7 (nI n) bn (nI pl) (nI e) (nI cur) (nI left) ∧ F_N7 (nI n) bn f sf lf cwl cwz cwr rwf cp cw cz cm (nI pl) (nI e) (nI cur) (nI left) = (nI (gV e b left cur pl), nI n, bn, f, sf, lf, cwl, cwz, cwr, rwf, cp, cw, cz, cm, nI (gP left pl), nI (gC e b left cur pl), nI (gL left cur - 1)) := by
  obtain ⟨a1, a2⟩ := byteOf_ok (p := pl) he hn hbn (by omega) h
  obtain ⟨g1, g2, g3, g4, g5, g6⟩ := g_in (pl := pl) he hb hl hc
  have hJ : J_N7_j_5 (nI n) f (nI pl) (nI e) (nI cur) (nI left) = (nI (gP left pl), nI (gC e b left cur pl), nI (gL left cur)) := by
    unfold J_N7_j_5 gP gC gL
    by_cases c : left = 0
    · have c0 : nI left = (0 : Int32) := by rw [c]; rfl
      have hj : J_N7_j_3 (nI cur) = nI (if cur = 255 then 7 else 8) := by
        unfold J_N7_j_3
        by_cases d : cur = 255
        · rw [if_pos ((i255 hc).mpr d), if_pos d]; rfl
        · rw [if_neg (fun x => d ((i255 hc).mp x)), if_neg d]; rfl
      rw [if_pos c0, if_pos c, if_pos c, if_pos c, nI_succ]
      simp only [hj, a2]
    · have c0 : ¬ nI left = (0 : Int32) := nI_ne0 (by omega) (by omega)
      rw [if_neg c0, if_neg c, if_neg c, if_neg c]
  refine ⟨fun _ _ _ => a1, ?_⟩
  unfold F_N7
  simp only [hJ, pred_ok g1, shr_ok g1 g2 g3]
  rfl
theorem rr_next {e n fr left cur pl : Nat} {mf : Nat → Int32} {b : Nat → Nat} (he : e ≤ n) (hn : n ≤ 65536) (hf : fr ≤ pl) (hfe : fr ≤ e) (h : cEq n mf b) (hb : ∀ j, j < n → b j < 256) (hl : left ≤ 8) (hc : cur < 256) (hp : pl < 2 ^ 30) (h0 : pl = fr → cur ≠ 255) :
    P_X11_readRaw (nI left) (nI fr) (nI (e - fr)) (nI (pl - fr)) (nI cur) 65536 ∧ F_X11_readRaw (nI left) (nI fr) (nI (e - fr)) (nI (pl - fr)) (nI cur) mf = (nI (gV e b left cur pl), nI (gL left cur - 1), nI (gP left pl - fr), nI (gC e b left cur pl)) := by
  obtain ⟨a1, a2⟩ := byteAt_ok (fr := fr) (k := pl - fr) he hfe hn (by omega) h
  rw [show fr + (pl - fr) = pl by omega] at a2
  obtain ⟨g1, g2, g3, g4, g5, g6⟩ := g_in (pl := pl) he hb hl hc
  have hJ : J_X11_readRaw_j_6 (nI left) (nI fr) (nI (e - fr)) (nI (pl - fr)) (nI cur) mf = (nI (gL left cur), nI (gP left pl - fr), nI (gC e b left cur pl)) := by
    unfold J_X11_readRaw_j_6 gP gC gL
    by_cases c : left = 0
    · have c0 : nI left = (0 : Int32) := by rw [c]; rfl
      have hj : J_X11_readRaw_j_4 (nI (pl - fr)) (nI cur) = nI (if cur = 255 then 7 else 8) := by
        unfold J_X11_readRaw_j_4
        by_cases d0 : pl = fr
        · have d1 : nI (pl - fr) ≤ (0 : Int32) := nI_le (b := 0) (by omega) (by omega)
          rw [if_pos d1, if_neg (h0 d0)]; rfl
        · have d1 : ¬ nI (pl - fr) ≤ (0 : Int32) := nI_nle (by omega) (by omega)
          rw [if_neg d1]
          by_cases d : cur = 255
          · rw [if_pos ((i255 hc).mpr d), if_pos d]; rfl
          · rw [if_neg (fun x => d ((i255 hc).mp x)), if_neg d]; rfl
      rw [if_pos c0, if_pos c, if_pos c, if_pos c, show pl + 1 - fr = pl - fr + 1 by omega, nI_succ]
      simp only [hj, a2]
    · have c0 : ¬ nI left = (0 : Int32) := nI_ne0 (by omega) (by omega)
      rw [if_neg c0, if_neg c, if_neg c, if_neg c]
  refine ⟨fun _ _ _ => a1, ?_⟩
  unfold F_X11_readRaw
  simp only [hJ, pred_ok g1, shr_ok g1 g2 g3]
  rfl
