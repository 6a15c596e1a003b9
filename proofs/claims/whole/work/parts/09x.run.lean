/-! ===== PURE: a quiet column ===== -/
def zF (f : Nat → Nat) : Nat → Nat → Nat
  | 0, r => r
  | k + 1, r => if f r = 0 then zF f k (r + 1) else r
theorem zF_le (f : Nat → Nat) : ∀ k r, zF f k r ≤ r + k := by
  intro k
  induction k with
  | zero => intro r; exact Nat.le_refl _
  | succ k ih =>
    intro r
    show (if f r = 0 then zF f k (r + 1) else r) ≤ _
    split
    · have := ih (r + 1); omega
    · omega
section
variable {e : EnvB} {x top : Nat}
theorem zr_c (ok : e.Ok) (hx : x < e.W) (ht : top + 4 ≤ e.H) : ∀ (k r fuel : Nat), r + k = 4 → k < fuel → (PL_X9_run_j_1 (nI x) (nI top) (nI e.W) e.cn e.coef (nI e.p) fuel (nI r)) ∧ (L_X9_run_j_1 (nI x) (nI top) (nI e.W) e.coef (nI e.p) fuel (nI r)) = nI (zF (fun r => bitN (e.a x (top + r)) e.p) k r) := by
  intro k
  induction k with
  | zero =>
    intro r fuel h1 h2
    obtain ⟨n, rfl⟩ : ∃ n, fuel = n + 1 := ⟨fuel - 1, by omega⟩
    have q : (4 : Int32) ≤ nI r := nI_le (a := 4) (by omega) (by omega)
    rw [PL_X9_run_j_1, L_X9_run_j_1, if_pos q]
    exact ⟨fun z => absurd q z, rfl⟩
  | succ k ih =>
    intro r fuel h1 h2
    obtain ⟨n, rfl⟩ : ∃ n, fuel = n + 1 := ⟨fuel - 1, by omega⟩
    have q : ¬ (4 : Int32) ≤ nI r := nI_ge (b := 4) (by omega) (by omega)
    obtain ⟨b1, b2⟩ := c_bit ok hx (show top + r < e.H by omega)
    obtain ⟨t1, t2⟩ := ih (r + 1) n (by omega) (by omega)
    rw [nI_succ] at t1 t2
    have hb := bitN_lt (e.a x (top + r)) e.p
    rw [PL_X9_run_j_1, L_X9_run_j_1, if_neg q, nI_add, place_ok]
    refine ⟨fun _ r3 e3 => ?_, ?_⟩
    · rw [← e3]; exact ⟨b1, fun _ _ _ => t1⟩
    · simp only [b2]
      show _ = nI (if bitN (e.a x (top + r)) e.p = 0 then _ else r)
      by_cases c : bitN (e.a x (top + r)) e.p = 0
      · rw [if_pos c, c, if_pos (show nI 0 = (0 : Int32) from rfl)]; exact t2
      · rw [if_neg c, if_neg (nI_ne0 (by omega) (by omega))]
theorem zr_m (ok : e.Ok) (hx : x < e.W) (ht : top + 4 ≤ e.H) : ∀ (k r fuel : Nat), r + k = 4 → k < fuel → (PL_X11_codeRun_j_1 (nI x) (nI top) (nI e.W) 1 (nI e.p) 4096 e.mag fuel (nI r)) ∧ (L_X11_codeRun_j_1 (nI x) (nI top) (nI e.W) 1 (nI e.p) e.mag fuel (nI r)) = nI (zF (fun r => bitN (e.a x (top + r)) e.p) k r) := by
  have n10 : ¬ (1 : Int32) = 0 := by decide
  intro k
  induction k with
  | zero =>
    intro r fuel h1 h2
    obtain ⟨n, rfl⟩ : ∃ n, fuel = n + 1 := ⟨fuel - 1, by omega⟩
    have q : (4 : Int32) ≤ nI r := nI_le (a := 4) (by omega) (by omega)
    rw [PL_X11_codeRun_j_1, L_X11_codeRun_j_1, if_neg n10, if_pos q]
    exact ⟨fun _ z => absurd q z, rfl⟩
  | succ k ih =>
    intro r fuel h1 h2
    obtain ⟨n, rfl⟩ : ∃ n, fuel = n + 1 := ⟨fuel - 1, by omega⟩
    have q : ¬ (4 : Int32) ≤ nI r := nI_ge (b := 4) (by omega) (by omega)
    obtain ⟨b1, b2⟩ := m_bit ok hx (show top + r < e.H by omega)
    obtain ⟨t1, t2⟩ := ih (r + 1) n (by omega) (by omega)
    rw [nI_succ] at t1 t2
    have hb := bitN_lt (e.a x (top + r)) e.p
    have hpl : (nI top + nI r) * nI e.W + nI x = nI ((top + r) * e.W + x) := by rw [nI_add, pk_mul, nI_add]
    rw [PL_X11_codeRun_j_1, L_X11_codeRun_j_1, if_neg n10, if_neg q, hpl]
    refine ⟨fun _ _ => ⟨b1, fun _ _ _ => t1⟩, ?_⟩
    · simp only [b2]
      show _ = nI (if bitN (e.a x (top + r)) e.p = 0 then _ else r)
      by_cases c : bitN (e.a x (top + r)) e.p = 0
      · rw [if_pos c, c, if_pos (show nI 0 = (0 : Int32) from rfl)]; exact t2
      · rw [if_neg c, if_neg (nI_ne0 (by omega) (by omega))]
/-- how many zeros each side counts ahead -/
theorem zr_both (ok : e.Ok) (hx : x < e.W) (ht : top + 4 ≤ e.H) : ∃ z z' : Nat, z ≤ 4 ∧ z' ≤ 4 ∧ (e.bk < 2 → z' = z) ∧ (PL_X9_run_j_1 (nI x) (nI top) (nI e.W) e.cn e.coef (nI e.p) fu 0) ∧ (L_X9_run_j_1 (nI x) (nI top) (nI e.W) e.coef (nI e.p) fu 0) = nI z ∧ (PL_X11_codeRun_j_1 (nI x) (nI top) (nI e.W) (wrI e.bk) (nI e.p) 4096 e.mag fu 0) ∧ (L_X11_codeRun_j_1 (nI x) (nI top) (nI e.W) (wrI e.bk) (nI e.p) e.mag fu 0) = nI z' := by
  have hfu := fu_ge
  obtain ⟨a1, a2⟩ := zr_c ok hx ht 4 0 fu (by omega) (by omega)
  obtain ⟨b1, b2⟩ := zr_m ok hx ht 4 0 fu (by omega) (by omega)
  have hz := zF_le (fun r => bitN (e.a x (top + r)) e.p) 4 0
  by_cases c : e.bk < 2
  · refine ⟨_, _, by omega, by omega, fun _ => rfl, a1, a2, ?_, ?_⟩
    · rw [show wrI e.bk = 1 from if_pos c]; exact b1
    · rw [show wrI e.bk = 1 from if_pos c]; exact b2
  · obtain ⟨n, hn⟩ : ∃ n, fu = n + 1 := ⟨fu - 1, by omega⟩
    refine ⟨_, 0, by omega, by omega, fun z => absurd z c, a1, a2, ?_, ?_⟩
    · rw [show wrI e.bk = 0 from if_neg c, hn, PL_X11_codeRun_j_1]
      exact fun z => absurd rfl z
    · rw [show wrI e.bk = 0 from if_neg c, hn, L_X11_codeRun_j_1, if_pos rfl]
      rfl
end
theorem zbits : ∀ z, z < 5 → ((nI z >>> ((1 : Int32) &&& 31)) &&& (1 : Int32)) = nI (z / 2 % 2) ∧ nI z &&& (1 : Int32) = nI (z % 2) ∧ J_X9_run_j_7 (nI z) = nI (if z = 4 then 0 else 1) ∧ J_X11_codeRun_j_7 (nI z) = nI (if z = 4 then 0 else 1) := by decide +kernel
theorem run_sim {e : EnvB} (ok : e.Ok) {N : Nat} {c : CS} {m : MS} {G : GF} {mags marks known below latest early again : Nat → Int32} {less : Int64} {x top : Nat} (hc : Cod e.bk N e.K c m) (hf : Fld e.W e.H (czOf e.sty) e.p G mags marks known below latest early again) (hx : x < e.W) (ht : top + 4 ≤ e.H) (hs : ∀ r, r < 4 → G.sg x (top + r) = false) (hE : less + errS e G = e.E0) (hL : 36 * (N + 3) + e.K ≤ 4913000) :
    (∃ (c1 : CS) (m1 : MS), (F_X9_run (nI x) (nI top) c.count c.start c.bn c.bf 19 c.sf 19 c.lf c.low c.size c.room c.free c.place c.cend c.window c.csize c.croom c.rplace c.rend c.cur c.left (nI e.W) e.coef e.bk (nI e.p)) = c1.T (nI 4) ∧ (P_X9_run (nI x) (nI top) c.count c.start c.bn c.bf 19 c.sf 19 c.lf c.low c.size c.room c.free c.place c.cend c.window c.csize c.croom c.rplace c.rend c.cur c.left (nI e.W) e.cn e.coef e.bk (nI e.p)) ∧ (D_X9_run (nI x) (nI top) c.count c.start c.bn c.bf 19 c.sf 19 c.lf c.low c.size c.room c.free c.place c.cend c.window c.csize c.croom c.rplace c.rend c.cur c.left (nI e.W) e.coef e.bk (nI e.p)) + 3 * c.bn ≤ 3 * c1.bn ∧ (F_X11_codeRun (nI x) (nI top) (nI e.W) (nI e.H) e.sty (wrI e.bk) (nI e.p) (rawI e.bk) m.size m.begin m.low m.carried m.span m.room m.place m.limit m.next m.last m.upper e.mp e.mo e.mag e.min known below latest m.sf m.lf m.bf) = (nI 4, m1.U known below latest) ∧ (P_X11_codeRun (nI x) (nI top) (nI e.W) (nI e.H) e.sty (wrI e.bk) (nI e.p) (rawI e.bk) m.size m.begin m.low m.carried m.span m.room m.place m.limit m.next m.last m.upper 47 e.mp 47 e.mo 4096 e.mag 4096 e.min 4096 known 4096 below 4096 19 m.sf 19 m.lf 65536 m.bf) ∧ Kept e.bk c c1 m m1 ∧ Cod e.bk (N + 1) e.K c1 m1) ∨
    (∃ (r : Nat) (c3 c' : CS) (m' : MS) (mi : Bool) (mags' marks' known' below' latest' : Nat → Int32) (less' : Int64), r < 4 ∧ (F_X9_run (nI x) (nI top) c.count c.start c.bn c.bf 19 c.sf 19 c.lf c.low c.size c.room c.free c.place c.cend c.window c.csize c.croom c.rplace c.rend c.cur c.left (nI e.W) e.coef e.bk (nI e.p)) = c3.T (nI r) ∧ (P_X9_run (nI x) (nI top) c.count c.start c.bn c.bf 19 c.sf 19 c.lf c.low c.size c.room c.free c.place c.cend c.window c.csize c.croom c.rplace c.rend c.cur c.left (nI e.W) e.cn e.coef e.bk (nI e.p)) ∧ (D_X9_run (nI x) (nI top) c.count c.start c.bn c.bf 19 c.sf 19 c.lf c.low c.size c.room c.free c.place c.cend c.window c.csize c.croom c.rplace c.rend c.cur c.left (nI e.W) e.coef e.bk (nI e.p)) + 3 * c.bn ≤ 3 * c3.bn ∧
      (F_X9_becomeSignificant (nI x) (nI (top + r)) c3.count c.start c3.bn c3.bf 19 c3.sf 19 c3.lf c3.low c3.size c3.room c3.free c3.place c.cend c3.window c3.csize c3.croom c3.rplace c.rend c3.cur c3.left (nI e.W) (nI e.H) (bI (czOf e.sty)) e.coef mags marks less e.bk (rawI e.bk) (nI e.p)) = c'.U mags' marks' less' ∧ (P_X9_becomeSignificant (nI x) (nI (top + r)) c3.count c.start c3.bn c3.bf 19 c3.sf 19 c3.lf c3.low c3.size c3.room c3.free c3.place c.cend c3.window c3.csize c3.croom c3.rplace c.rend c3.cur c3.left (nI e.W) (nI e.H) (bI (czOf e.sty)) e.cn e.coef e.gn mags e.kn marks e.bk (rawI e.bk) (nI e.p)) ∧ (D_X9_becomeSignificant (nI x) (nI (top + r)) c3.count c.start c3.bn c3.bf 19 c3.sf 19 c3.lf c3.low c3.size c3.room c3.free c3.place c.cend c3.window c3.csize c3.croom c3.rplace c.rend c3.cur c3.left (nI e.W) e.coef marks e.bk (rawI e.bk)) + 3 * c3.bn ≤ 3 * c'.bn ∧
      (F_X11_codeRun (nI x) (nI top) (nI e.W) (nI e.H) e.sty (wrI e.bk) (nI e.p) (rawI e.bk) m.size m.begin m.low m.carried m.span m.room m.place m.limit m.next m.last m.upper e.mp e.mo e.mag e.min known below latest m.sf m.lf m.bf) = (nI (r + 1), m'.U known' below' latest') ∧ (P_X11_codeRun (nI x) (nI top) (nI e.W) (nI e.H) e.sty (wrI e.bk) (nI e.p) (rawI e.bk) m.size m.begin m.low m.carried m.span m.room m.place m.limit m.next m.last m.upper 47 e.mp 47 e.mo 4096 e.mag 4096 e.min 4096 known 4096 below 4096 19 m.sf 19 m.lf 65536 m.bf) ∧ Kept e.bk c c' m m' ∧ Cod e.bk (N + 4) e.K c' m' ∧ Fld e.W e.H (czOf e.sty) e.p (gNew G x (top + r) mi e.p) mags' marks' known' below' latest' early again ∧ less' + errS e (gNew G x (top + r) mi e.p) = e.E0) := by
  obtain ⟨z, z', hz, hz', hzz, p1, p2, p3, p4⟩ := zr_both ok hx ht
  obtain ⟨b1, b2, b3, -⟩ := zbits z (by omega)
  obtain ⟨d1, d2, -, d4⟩ := zbits z' (by omega)
  have hbit : ∀ w : Nat, (if w = 4 then 0 else 1) < 2 := fun w => by split <;> omega
  obtain ⟨v, c1, m1, v1, v2, n1, n2, n3, n4, n5, n6, n7⟩ := next_sim (k := 17) (k' := 17) (bit := if z = 4 then 0 else 1) (bit' := if z' = 4 then 0 else 1) ok.hmp ok.hmo hc ok.bk4 (by omega) (fun _ => rfl) (hbit z) (fun q => by rw [hzz q]) (by omega)
  rcases (show v = 0 ∨ v = 1 by omega) with hv | hv
  · subst hv
    left
    refine ⟨c1, m1, ?_, ⟨p1, fun j1 e1 j7 e7 => ?_⟩, ?_, ?_, ⟨p3, fun j1 e1 j7 e7 => ?_⟩, n6, n7⟩
    · unfold F_X9_run
      simp only [p2, b3]
      have n1' : F_B_next c.count c.start c.bn c.bf 19 c.sf 19 c.lf c.low c.size c.room c.free c.place c.cend c.window c.csize c.croom c.rplace c.rend c.cur c.left (nI (if z = 4 then 0 else 1)) (17 : Int32) e.bk = c1.T (nI 0) := n1
      simp only [n1']
      show (if nI 0 = (0 : Int32) then _ else _) = _
      rw [if_pos (show nI 0 = (0 : Int32) from rfl)]
      rfl
    · rw [p2] at e1
      subst e1
      rw [b3] at e7
      subst e7
      refine ⟨n2, fun r8 e8 q => ?_⟩
      have n1' : F_B_next c.count c.start c.bn c.bf 19 c.sf 19 c.lf c.low c.size c.room c.free c.place c.cend c.window c.csize c.croom c.rplace c.rend c.cur c.left (nI (if z = 4 then 0 else 1)) (17 : Int32) e.bk = c1.T (nI 0) := n1
      rw [n1'] at e8
      subst e8
      exact absurd (show nI 0 = (0 : Int32) from rfl) q
    · unfold D_X9_run
      simp only [p2, b3]
      have n1' : F_B_next c.count c.start c.bn c.bf 19 c.sf 19 c.lf c.low c.size c.room c.free c.place c.cend c.window c.csize c.croom c.rplace c.rend c.cur c.left (nI (if z = 4 then 0 else 1)) (17 : Int32) e.bk = c1.T (nI 0) := n1
      simp only [n1']
      show _ + (if nI 0 = (0 : Int32) then 0 else _) + _ ≤ _
      rw [if_pos (show nI 0 = (0 : Int32) from rfl)]
      exact n3
    · unfold F_X11_codeRun
      simp only [p4, d4]
      have n4' : F_X11_code (17 : Int32) (nI (if z' = 4 then 0 else 1)) (wrI e.bk) (rawI e.bk) m.size m.begin m.low m.carried m.span m.room m.place m.limit m.next m.last m.upper e.mp e.mo m.sf m.lf m.bf = m1.T (nI 0) := n4
      simp only [n4']
      show (if nI 0 = (0 : Int32) then _ else _) = _
      rw [if_pos (show nI 0 = (0 : Int32) from rfl)]
      rfl
    · rw [p4] at e1
      subst e1
      rw [d4] at e7
      subst e7
      refine ⟨n5, fun r8 e8 q => ?_⟩
      have n4' : F_X11_code (17 : Int32) (nI (if z' = 4 then 0 else 1)) (wrI e.bk) (rawI e.bk) m.size m.begin m.low m.carried m.span m.room m.place m.limit m.next m.last m.upper e.mp e.mo m.sf m.lf m.bf = m1.T (nI 0) := n4
      rw [n4'] at e8
      subst e8
      exact absurd (show nI 0 = (0 : Int32) from rfl) q
  · subst hv
    right
    obtain ⟨v', c2, m2, v1', v2', o1, o2, o3, o4, o5, o6, o7⟩ := next_sim (k := 18) (k' := 18) (bit := z / 2 % 2) (bit' := z' / 2 % 2) ok.hmp ok.hmo n7 ok.bk4 (by omega) (fun _ => rfl) (by omega) (fun q => by rw [hzz q]) (by omega)
    obtain ⟨v'', c3, m3, v1'', v2'', q1, q2, q3, q4, q5, q6, q7⟩ := next_sim (k := 18) (k' := 18) (bit := z % 2) (bit' := z' % 2) ok.hmp ok.hmo o7 ok.bk4 (by omega) (fun _ => rfl) (by omega) (fun q => by rw [hzz q]) (by omega)
    have k12 := n6.trans o6
    have k13 := k12.trans q6
    have hr : 2 * v' + v'' < 4 := by omega
    obtain ⟨c', m', mi, mags', marks', known', below', latest', less', t1, t2, t3, t4, t5, t6, t7, t8, t9⟩ := sig_sim ok (less := less) q7 hf hx (show top + (2 * v' + v'') < e.H by omega) (hs _ hr) hE (by omega)
    rw [n6.1, n6.2.1, n6.2.2.1] at o1 o2 o3
    rw [n6.2.2.2.1, n6.2.2.2.2.1, n6.2.2.2.2.2.1] at o4 o5
    rw [k12.1, k12.2.1, k12.2.2.1] at q1 q2 q3
    rw [k12.2.2.2.1, k12.2.2.2.2.1, k12.2.2.2.2.2.1] at q4 q5
    rw [k13.1, k13.2.1, k13.2.2.1] at t1 t2 t3
    rw [k13.2.2.2.1, k13.2.2.2.2.1, k13.2.2.2.2.2.1] at t4 t5
    have n1' : F_B_next c.count c.start c.bn c.bf 19 c.sf 19 c.lf c.low c.size c.room c.free c.place c.cend c.window c.csize c.croom c.rplace c.rend c.cur c.left (nI (if z = 4 then 0 else 1)) (17 : Int32) e.bk = c1.T (nI 1) := n1
    have o1' : F_B_next c1.count c.start c1.bn c1.bf 19 c1.sf 19 c1.lf c1.low c1.size c1.room c1.free c1.place c.cend c1.window c1.csize c1.croom c1.rplace c.rend c1.cur c1.left (nI (z / 2 % 2)) (18 : Int32) e.bk = c2.T (nI v') := o1
    have q1' : F_B_next c2.count c.start c2.bn c2.bf 19 c2.sf 19 c2.lf c2.low c2.size c2.room c2.free c2.place c.cend c2.window c2.csize c2.croom c2.rplace c.rend c2.cur c2.left (nI (z % 2)) (18 : Int32) e.bk = c3.T (nI v'') := q1
    have n4' : F_X11_code (17 : Int32) (nI (if z' = 4 then 0 else 1)) (wrI e.bk) (rawI e.bk) m.size m.begin m.low m.carried m.span m.room m.place m.limit m.next m.last m.upper e.mp e.mo m.sf m.lf m.bf = m1.T (nI 1) := n4
    have o4' : F_X11_code (18 : Int32) (nI (z' / 2 % 2)) (wrI e.bk) (rawI e.bk) m1.size m.begin m1.low m1.carried m1.span m1.room m.place m.limit m1.next m1.last m1.upper e.mp e.mo m1.sf m1.lf m1.bf = m2.T (nI v') := o4
    have q4' : F_X11_code (18 : Int32) (nI (z' % 2)) (wrI e.bk) (rawI e.bk) m2.size m.begin m2.low m2.carried m2.span m2.room m.place m.limit m2.next m2.last m2.upper e.mp e.mo m2.sf m2.lf m2.bf = m3.T (nI v'') := q4
    have hsum : (2 : Int32) * nI v' + nI v'' = nI (2 * v' + v'') := by rw [i2, pk_mul, nI_add]
    have hsum2 : nI v' * (2 : Int32) + nI v'' = nI (2 * v' + v'') := by rw [dbl, nI_add]
    have n10 : ¬ nI 1 = (0 : Int32) := by decide
    refine ⟨2 * v' + v'', c3, c', m', mi, mags', marks', known', below', latest', less', hr, ?_, ⟨p1, fun j1 e1 j7 e7 => ?_⟩, ?_, t1, t2, t3, ?_, ⟨p3, fun j1 e1 j7 e7 => ?_⟩, k13.trans t6, t7, t8, t9⟩
    · unfold F_X9_run
      simp only [p2, b3, n1']
      show (if nI 1 = (0 : Int32) then _ else _) = _
      rw [if_neg n10]
      simp only [CS.T, b1, o1', b2, q1', hsum]
    · rw [p2] at e1
      subst e1
      rw [b3] at e7
      subst e7
      refine ⟨n2, fun r8 e8 q => ?_⟩
      rw [n1'] at e8
      subst e8
      rw [b1, b2]
      refine ⟨o2, fun r11 e11 => ?_⟩
      have e12 : c2.T (nI v') = r11 := by rw [← o1']; exact e11
      subst e12
      exact q2
    · unfold D_X9_run
      simp only [p2, b3, n1']
      show _ + (if nI 1 = (0 : Int32) then 0 else _) + _ ≤ _
      rw [if_neg n10]
      simp only [CS.T, b1, o1', b2, Nat.add_zero]
      exact addC n3 (addC o3 q3)
    · unfold F_X11_codeRun
      simp only [p4, d4, n4']
      show (if nI 1 = (0 : Int32) then _ else _) = _
      rw [if_neg n10]
      simp only [MS.T, d1, o4', d2, q4', hsum2, nI_add]
      simp only [t4]
      rw [nI_succ]
    · rw [p4] at e1
      subst e1
      rw [d4] at e7
      subst e7
      refine ⟨n5, fun r8 e8 q => ?_⟩
      rw [n4'] at e8
      subst e8
      rw [d1, d2]
      refine ⟨o5, fun r10 e10 => ?_⟩
      have e11 : m2.T (nI v') = r10 := by rw [← o4']; exact e10
      subst e11
      refine ⟨q5, fun r11 e11 => ?_⟩
      have e12 : m3.T (nI v'') = r11 := by rw [← q4']; exact e11
      subst e12
      show P_X11_codeSign (nI x) (nI top + (nI v' * 2 + nI v'')) _ _ _ _ _ _ _ _ _ _ _ _ _ _ _ _ _ _ _ _ _ _ _ _ _ _ _ _ _ _ _ _ _
      rw [hsum2, nI_add]
      exact t5
