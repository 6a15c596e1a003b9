/-! ===== PURE: a bit is written in a context, class ===== -/
def sNext (st k bit : Nat) (cs cl : Nat → Nat) (sz low room c : Nat) (b : Nat → Nat) : ((Nat → Nat) × (Nat → Nat)) × (Nat × Nat × Nat × Nat × (Nat → Nat)) :=
  if bit = cl k then
    if 32768 ≤ sz - nP (cs k) then ((cs, cl), (sz - nP (cs k), low + nP (cs k), room, c, b))
    else ((sLike cs k, cl), sRen st 15 (shLike low sz (nP (cs k))).2 (shLike low sz (nP (cs k))).1 room c b)
  else ((sOth cs k, sFlip cs cl k), sRen st 15 (shOth low sz (nP (cs k))).2 (shOth low sz (nP (cs k))).1 room c b)
theorem n3_next {st k bit sz low room c n : Nat} {f sf lf : Nat → Int32} {b cs cl : Nat → Nat} (rf cp cw cz cm rp rc rl : Int32) (hk : k < 19) (hbit : bit < 2) (hcs : cEq 19 sf cs) (hcl : cEq 19 lf cl) (ho : cOk cs cl) (h3 : 32768 ≤ sz) (h4 : sz < 65536) (h5 : low + sz ≤ 2 ^ (28 - room)) (h6 : 1 ≤ room) (h7 : room ≤ 12) (h8 : rOk c n f b) (h9 : st ≤ c) (h10 : ∀ j, j < c → b j < 256) (h11 : c + 15 < 65536) :
    P_N3 (nI bit) (nI k) (nI c) (nI st) n f 19 sf 19 lf (nI low) (nI sz) (nI room) ∧ ∃ (n' : Nat) (f' sf' lf' : Nat → Int32), F_N3 (nI bit) (nI k) (nI c) (nI st) n f sf lf (nI low) (nI sz) (nI room) rf cp cw cz cm rp rc rl = (nI bit, nI (sNext st k bit cs cl sz low room c b).2.2.2.2.1, n', f', sf', lf', nI (sNext st k bit cs cl sz low room c b).2.2.1, nI (sNext st k bit cs cl sz low room c b).2.1, nI (sNext st k bit cs cl sz low room c b).2.2.2.1, rf, cp, cw, cz, cm, rp, rc, rl) ∧ rOk (sNext st k bit cs cl sz low room c b).2.2.2.2.1 n' f' (sNext st k bit cs cl sz low room c b).2.2.2.2.2 ∧ cEq 19 sf' (sNext st k bit cs cl sz low room c b).1.1 ∧ cEq 19 lf' (sNext st k bit cs cl sz low room c b).1.2 ∧ n ≤ n' ∧ D_N3 (nI bit) (nI k) (nI c) (nI st) n f sf lf (nI low) (nI sz) (nI room) + 3 * n ≤ 3 * n' := by
  obtain ⟨a1, a2⟩ := x4_part hcs ho hk
  obtain ⟨b1, b2⟩ := x4_bit hcl hk
  have hp := nP_in _ (ho.1 k hk)
  have hfu := fu_ge
  have hb2 := ho.2 k hk
  have hsub : nI sz - nI (nP (cs k)) = nI (sz - nP (cs k)) := pk_sub (by omega)
  unfold P_N3 F_N3 D_N3
  rw [a2, b2]
  by_cases e : bit = cl k
  · have e1 : nI bit = nI (cl k) := by rw [e]
    by_cases e2 : 32768 ≤ sz - nP (cs k)
    · have hs : sNext st k bit cs cl sz low room c b = ((cs, cl), (sz - nP (cs k), low + nP (cs k), room, c, b)) := by unfold sNext; rw [if_pos e, if_pos e2]
      have n2 : ¬ nI sz - nI (nP (cs k)) < (32768 : Int32) := by rw [hsub]; exact nI_nlt (b := 32768) e2 (by omega)
      rw [hs]
      refine ⟨⟨a1, fun r er => ⟨b1, fun r2 er2 => ⟨fun _ x => absurd (by rw [er]; exact x) n2, fun x => absurd (by rw [← er2]; exact e1) x⟩⟩⟩, n, f, sf, lf, ?_, h8, hcs, hcl, Nat.le_refl _, ?_⟩
      · show (if nI bit = nI (cl k) then _ else _) = _
        rw [if_pos e1, if_neg n2, hsub, nI_add]
      · show (if nI bit = nI (cl k) then _ else _) + 3 * n ≤ _
        rw [if_pos e1, if_neg n2]; omega
    · have hs : sNext st k bit cs cl sz low room c b = ((sLike cs k, cl), sRen st 15 (shLike low sz (nP (cs k))).2 (shLike low sz (nP (cs k))).1 room c b) := by unfold sNext; rw [if_pos e, if_neg e2]
      have n2 : nI sz - nI (nP (cs k)) < (32768 : Int32) := by rw [hsub]; exact nI_lt (b := 32768) (by omega) (by omega)
      have hsh := share_like (low := low) (show nP (cs k) ≤ sz by omega) (by omega)
      obtain ⟨q1, q2, q3⟩ := shLike_in (low := low) hp.1 hp.2 h3 h4
      obtain ⟨c1, c2⟩ := x4_like hcs ho hk
      obtain ⟨t1, i', n', f', t2, t3, t4, t5⟩ := n3_ren2 st 15 0 fu _ _ room c n f b (p15 q1) (by omega) (by omega) q2 (Nat.le_trans q3 h5) h6 h7 h8 h9 h10 h11
      rw [nI_0] at t1 t2 t5
      rw [hs]
      refine ⟨⟨a1, fun r er => ⟨b1, fun r2 er2 => ⟨fun _ _ j ej r18 e18 => ⟨c1, fun r19 e19 => ?_⟩, fun x => absurd (by rw [← er2]; exact e1) x⟩⟩⟩, n', f', F_X4_likelyCame (nI k) sf, lf, ?_, t3, c2, hcl, t4, ?_⟩
      · rw [← e18, ← ej, ← er, hsh]; exact t1
      · show (if nI bit = nI (cl k) then _ else _) = _
        rw [if_pos e1, if_pos n2]
        simp only [hsh, t2]
      · show (if nI bit = nI (cl k) then _ else _) + 3 * n ≤ _
        rw [if_pos e1, if_pos n2]
        simp only [hsh, Nat.add_zero]
        exact t5
  · have e1 : ¬ nI bit = nI (cl k) := fun x => e ((nI_eq (by omega) (by omega)).mp x)
    have hs : sNext st k bit cs cl sz low room c b = ((sOth cs k, sFlip cs cl k), sRen st 15 (shOth low sz (nP (cs k))).2 (shOth low sz (nP (cs k))).1 room c b) := by unfold sNext; rw [if_neg e]
    have hsh := share_oth (low := low) (show nP (cs k) ≤ sz by omega) (by omega)
    obtain ⟨q1, q2, q3⟩ := shOth_in (low := low) hp.1 hp.2 h3 h4
    obtain ⟨c1, c2, c3⟩ := x4_oth hcs hcl ho hk
    obtain ⟨t1, i', n', f', t2, t3, t4, t5⟩ := n3_ren st 15 0 fu _ _ room c n f b (p15 q1) (by omega) (by omega) q2 (Nat.le_trans q3 h5) h6 h7 h8 h9 h10 h11
    rw [nI_0] at t1 t2 t5
    rw [hs]
    refine ⟨⟨a1, fun r er => ⟨b1, fun r2 er2 => ⟨fun x => absurd (by rw [er2]; exact x) e1, fun _ j ej r6 e6 => ⟨c1, fun r7 e7 => ?_⟩⟩⟩⟩, n', f', (F_X4_otherCame (nI k) sf lf).1, (F_X4_otherCame (nI k) sf lf).2, ?_, t3, c2, c3, t4, ?_⟩
    · rw [← e6, ← ej, ← er, hsh]; exact t1
    · show (if nI bit = nI (cl k) then _ else _) = _
      rw [if_neg e1]
      simp only [hsh, t2]
    · show (if nI bit = nI (cl k) then _ else _) + 3 * n ≤ _
      rw [if_neg e1]
      simp only [hsh, Nat.add_zero]
      exact t5
