/-! ===== PURE: the mark, and a whole pass ===== -/
def CS.X (c : CS) (f : Int32) : (Int32 × Nat × (Nat → Int32) × (Nat → Int32) × (Nat → Int32) × Int32 × Int32 × Int32 × Int32 × Int32 × Int32 × Int32 × Int32 × Int32 × Int32 × Int32 × Int32) :=
  (c.count, c.bn, c.bf, c.sf, c.lf, c.low, c.size, c.room, c.free, c.place, c.window, c.csize, c.croom, c.rplace, c.cur, c.left, f)
def CS.Z (c : CS) (mags marks : Nat → Int32) (less : Int64) (f : Int32) : (Int32 × Nat × (Nat → Int32) × (Nat → Int32) × (Nat → Int32) × Int32 × Int32 × Int32 × Int32 × Int32 × Int32 × Int32 × Int32 × Int32 × Int32 × Int32 × (Nat → Int32) × (Nat → Int32) × Int64 × Int32) :=
  (c.count, c.bn, c.bf, c.sf, c.lf, c.low, c.size, c.room, c.free, c.place, c.window, c.csize, c.croom, c.rplace, c.cur, c.left, mags, marks, less, f)
def CS.Y (c : CS) : (Int32 × Nat × (Nat → Int32) × (Nat → Int32) × (Nat → Int32) × Int32 × Int32 × Int32 × Int32 × Int32 × Int32 × Int32 × Int32 × Int32 × Int32 × Int32) :=
  (c.count, c.bn, c.bf, c.sf, c.lf, c.low, c.size, c.room, c.free, c.place, c.window, c.csize, c.croom, c.rplace, c.cur, c.left)
def MS.Y (m : MS) : (Int32 × Int32 × Int32 × Int32 × Int32 × Int32 × Int32 × Int64 × (Nat → Int32) × (Nat → Int32) × (Nat → Int32)) :=
  (m.size, m.low, m.carried, m.span, m.room, m.next, m.last, m.upper, m.sf, m.lf, m.bf)
theorem mkA : ∀ j, j < 5 → ((3 : Int32) - nI j < (0 : Int32) ↔ j = 4) ∧ ((3 : Int32) - nI j + (-1 : Int32) = (3 : Int32) - nI (j + 1)) := by decide +kernel
theorem mkB : ∀ j, j < 4 → (((10 : Int32) >>> (((3 : Int32) - nI j) &&& 31)) &&& (1 : Int32)) = nI (1 - j % 2) ∧ (1 : Int32) - (nI j - nI j / (2 : Int32) * (2 : Int32)) = nI (1 - j % 2) := by decide +kernel
theorem mark_loop {e : EnvB} (ok : e.Ok) : ∀ (k j fuel fuel' N : Nat) (a : Int32) (c : CS) (m : MS), j + k = 4 → k < fuel → k < fuel' → 36 * (N + k) + e.K ≤ 4913000 → Cod e.bk N e.K c m →
    ∃ (c' : CS) (m' : MS) (a' i i' : Int32), (L_X9_mark_j_1 c.start 19 19 c.cend c.rend e.bk fuel a ((3 : Int32) - nI j) c.count c.bn c.bf c.sf c.lf c.low c.size c.room c.free c.place c.window c.csize c.croom c.rplace c.cur c.left) = (a', i, c'.Y) ∧ (PL_X9_mark_j_1 c.start 19 19 c.cend c.rend e.bk fuel a ((3 : Int32) - nI j) c.count c.bn c.bf c.sf c.lf c.low c.size c.room c.free c.place c.window c.csize c.croom c.rplace c.cur c.left) ∧ (DL_X9_mark_j_1 c.start 19 19 c.cend c.rend e.bk fuel a ((3 : Int32) - nI j) c.count c.bn c.bf c.sf c.lf c.low c.size c.room c.free c.place c.window c.csize c.croom c.rplace c.cur c.left) + 3 * c.bn ≤ 3 * c'.bn ∧
    (L_X11_codeMark_j_1 (wrI e.bk) (rawI e.bk) m.begin m.place m.limit e.mp e.mo fuel' a (nI j) m.size m.low m.carried m.span m.room m.next m.last m.upper m.sf m.lf m.bf) = (a', i', m'.Y) ∧ (PL_X11_codeMark_j_1 (wrI e.bk) (rawI e.bk) m.begin m.place m.limit 47 e.mp 47 e.mo 19 19 65536 fuel' a (nI j) m.size m.low m.carried m.span m.room m.next m.last m.upper m.sf m.lf m.bf) ∧ Kept e.bk c c' m m' ∧ Cod e.bk (N + k) e.K c' m' := by
  intro k
  induction k with
  | zero =>
    intro j fuel fuel' N a c m h1 h2 h3 h4 h5
    obtain ⟨n, rfl⟩ : ∃ n, fuel = n + 1 := ⟨fuel - 1, by omega⟩
    obtain ⟨n', rfl⟩ : ∃ n, fuel' = n + 1 := ⟨fuel' - 1, by omega⟩
    have q : (3 : Int32) - nI j < (0 : Int32) := (mkA j (by omega)).1.mpr (by omega)
    have q2 : (4 : Int32) ≤ nI j := nI_le (a := 4) (by omega) (by omega)
    refine ⟨c, m, a, (3 : Int32) - nI j, nI j, ?_, ?_, ?_, ?_, ?_, Kept.refl _ _ _, h5⟩
    · rw [L_X9_mark_j_1, if_pos q]; rfl
    · rw [PL_X9_mark_j_1]; exact fun z => absurd q z
    · rw [DL_X9_mark_j_1, if_pos q]; omega
    · rw [L_X11_codeMark_j_1, if_pos q2]; rfl
    · rw [PL_X11_codeMark_j_1]; exact fun z => absurd q2 z
  | succ k ih =>
    intro j fuel fuel' N a c m h1 h2 h3 h4 h5
    obtain ⟨n, rfl⟩ : ∃ n, fuel = n + 1 := ⟨fuel - 1, by omega⟩
    obtain ⟨n', rfl⟩ : ∃ n, fuel' = n + 1 := ⟨fuel' - 1, by omega⟩
    have q : ¬ (3 : Int32) - nI j < (0 : Int32) := fun z => by have := (mkA j (by omega)).1.mp z; omega
    have q2 : ¬ (4 : Int32) ≤ nI j := nI_ge (b := 4) (by omega) (by omega)
    obtain ⟨b1, b2⟩ := mkB j (by omega)
    have b3 := (mkA j (by omega)).2
    obtain ⟨v, c1, m1, v1, v2, n1, n2, n3, n4, n5, n6, n7⟩ := next_sim (k := 18) (k' := 18) (bit := 1 - j % 2) (bit' := 1 - j % 2) ok.hmp ok.hmo h5 ok.bk4 (by omega) (fun _ => rfl) (by omega) (fun _ => rfl) (by omega)
    obtain ⟨c', m', a', i, i', t1, t2, t3, t4, t5, t6, t7⟩ := ih (j + 1) n n' (N + 1) ((2 : Int32) * a + nI v) c1 m1 (by omega) (by omega) (by omega) (by omega) n7
    rw [n6.1, n6.2.1, n6.2.2.1] at t1 t2 t3
    rw [n6.2.2.2.1, n6.2.2.2.2.1, n6.2.2.2.2.2.1, nI_succ] at t4 t5
    have n1' : F_B_next c.count c.start c.bn c.bf 19 c.sf 19 c.lf c.low c.size c.room c.free c.place c.cend c.window c.csize c.croom c.rplace c.rend c.cur c.left (nI (1 - j % 2)) (18 : Int32) e.bk = c1.T (nI v) := n1
    have n4' : F_X11_code (18 : Int32) (nI (1 - j % 2)) (wrI e.bk) (rawI e.bk) m.size m.begin m.low m.carried m.span m.room m.place m.limit m.next m.last m.upper e.mp e.mo m.sf m.lf m.bf = m1.T (nI v) := n4
    refine ⟨c', m', a', i, i', ?_, ?_, ?_, ?_, ?_, n6.trans t6, by rw [show N + (k + 1) = N + 1 + k by omega]; exact t7⟩
    · rw [L_X9_mark_j_1, if_neg q, b1, b3]
      simp only [n1']
      exact t1
    · rw [PL_X9_mark_j_1, b1, b3]
      refine fun _ => ⟨n2, fun r3 e3 => ?_⟩
      rw [n1'] at e3
      subst e3
      exact t2
    · rw [DL_X9_mark_j_1, if_neg q, b1, b3]
      simp only [n1']
      exact addC n3 t3
    · rw [L_X11_codeMark_j_1, if_neg q2, b2]
      simp only [n4']
      exact t4
    · rw [PL_X11_codeMark_j_1, b2]
      refine fun _ => ⟨n5, fun r3 e3 => ?_⟩
      rw [n4'] at e3
      subst e3
      exact t5
theorem mark_sim {e : EnvB} (ok : e.Ok) {N : Nat} {c : CS} {m : MS} {fl mfl : Int32} (hL : 36 * (N + 4) + e.K ≤ 4913000) (hc : Cod e.bk N e.K c m) :
    ∃ (c' : CS) (m' : MS) (fl' mfl' : Int32), (F_X9_mark c.count c.start c.bn c.bf 19 c.sf 19 c.lf c.low c.size c.room c.free c.place c.cend c.window c.csize c.croom c.rplace c.rend c.cur c.left fl e.bk) = c'.X fl' ∧ (P_X9_mark c.count c.start c.bn c.bf 19 c.sf 19 c.lf c.low c.size c.room c.free c.place c.cend c.window c.csize c.croom c.rplace c.rend c.cur c.left e.bk) ∧ (D_X9_mark c.count c.start c.bn c.bf 19 c.sf 19 c.lf c.low c.size c.room c.free c.place c.cend c.window c.csize c.croom c.rplace c.rend c.cur c.left e.bk) + 3 * c.bn ≤ 3 * c'.bn ∧ (F_X11_codeMark (wrI e.bk) (rawI e.bk) mfl m.size m.begin m.low m.carried m.span m.room m.place m.limit m.next m.last m.upper e.mp e.mo m.sf m.lf m.bf) = m'.T mfl' ∧ (P_X11_codeMark (wrI e.bk) (rawI e.bk) m.size m.begin m.low m.carried m.span m.room m.place m.limit m.next m.last m.upper 47 e.mp 47 e.mo 19 m.sf 19 m.lf 65536 m.bf) ∧ Kept e.bk c c' m m' ∧ Cod e.bk (N + 4) e.K c' m' ∧ (fl = mfl → fl' = mfl') := by
  have hfu := fu_ge
  obtain ⟨c', m', a', i, i', t1, t2, t3, t4, t5, t6, t7⟩ := mark_loop ok 4 0 fu fu N 0 c m (by omega) (by omega) (by omega) hL hc
  have e3 : (3 : Int32) - nI 0 = 3 := by decide
  rw [e3] at t1 t2 t3
  rw [nI_0] at t4 t5
  refine ⟨c', m', if a' = (10 : Int32) then fl else fl + 1, if a' = (10 : Int32) then mfl else mfl + 1, ?_, t2, ?_, ?_, t5, t6, t7, fun z => by rw [z]⟩
  · unfold F_X9_mark
    simp only [t1]
    split <;> rfl
  · unfold D_X9_mark
    simp only [Nat.add_zero]
    exact t3
  · unfold F_X11_codeMark
    simp only [t4]
    split <;> rfl
/-! no coefficient is seen -/
def gUns (G : GF) : GF := (G.sg, G.ng, G.kn, G.lt, fun _ _ => false, G.ag)
theorem mark_uns (cz : Bool) (G : GF) (x y : Nat) : markN cz (gUns G) x y = markN cz G x y - markN cz G x y / 8192 % 2 * 8192 := by
  obtain ⟨-, -, -, -, -, -, -, q8, -, -⟩ := mark_bits cz G x y
  have e1 : markN cz (gUns G) x y = hC G x y + 4 * vC cz G x y + 16 * dC cz G x y + 128 * hM G x y + 512 * vM cz G x y + 2048 * bN (G.sg x y) + 4096 * bN (G.ng x y) + 8192 * bN false + 16384 * bN (G.ag x y) + 65536 * G.lt x y := rfl
  rw [q8, e1, show bN false = 0 by rfl]
  unfold markN
  omega
theorem uns_loop {W H K : Nat} (hW : W ≤ 64) (hH : H ≤ 64) (hK : W * H ≤ K) (hK2 : K ≤ 4096) : ∀ (k i fuel : Nat) (f : Nat → Int32), i + k = W * H → k < fuel → PL_X5_forgetSeen_j_1 (nI W) (nI H) K fuel (nI i) f ∧ (L_X5_forgetSeen_j_1 (nI W) (nI H) fuel (nI i) f).2 = fun j => if i ≤ j ∧ j < W * H then f j &&& (-8193 : Int32) else f j := by
  have hwh := wh_le hW hH
  intro k
  induction k with
  | zero =>
    intro i fuel f h1 h2
    obtain ⟨n, rfl⟩ : ∃ n, fuel = n + 1 := ⟨fuel - 1, by omega⟩
    have q : nI (W * H) ≤ nI i := nI_le (by omega) (by omega)
    rw [PL_X5_forgetSeen_j_1, L_X5_forgetSeen_j_1, pk_mul, if_pos q]
    refine ⟨fun z => absurd q z, ?_⟩
    funext j
    rw [if_neg (by omega)]
  | succ k ih =>
    intro i fuel f h1 h2
    obtain ⟨n, rfl⟩ : ∃ n, fuel = n + 1 := ⟨fuel - 1, by omega⟩
    have q : ¬ nI (W * H) ≤ nI i := nI_ge (by omega) (by omega)
    obtain ⟨t1, t2⟩ := ih (i + 1) n (upd f i (f i &&& (-8193 : Int32))) (by omega) (by omega)
    rw [nI_succ] at t1 t2
    rw [PL_X5_forgetSeen_j_1, L_X5_forgetSeen_j_1, pk_mul, if_neg q, nI_clamp (by omega)]
    refine ⟨fun _ => ⟨vp_in_nI (by omega) (by omega), t1⟩, ?_⟩
    rw [t2]
    funext j
    by_cases c : j = i
    · subst c
      rw [if_neg (by omega), if_pos (by omega), pk_us]
    · rw [pk_un c]
      by_cases c2 : i + 1 ≤ j ∧ j < W * H
      · rw [if_pos c2, if_pos (by omega)]
      · rw [if_neg c2, if_neg (by omega)]
theorem Fld.uns {W H p K : Nat} {cz : Bool} {G : GF} {mags marks known below latest early again : Nat → Int32} (hf : Fld W H cz (p + 1) G mags marks known below latest early again) (hp30 : p ≤ 30) (hW : W ≤ 64) (hH : H ≤ 64) (hK : W * H ≤ K) (hK2 : K ≤ 4096) : P_X5_forgetSeen (nI W) (nI H) K marks ∧ Fld W H cz p (gUns G) mags (F_X5_forgetSeen (nI W) (nI H) marks) known below latest early again := by
  have hfu := fu_ge
  have hwh := wh_le hW hH
  obtain ⟨t1, t2⟩ := uns_loop hW hH hK hK2 (W * H) 0 fu marks (by omega) (by omega)
  rw [nI_0] at t1 t2
  refine ⟨t1, hf.rg, hf.neg, fun x y hx hy => ?_, hf.mg, hf.kn, hf.bl, hf.la, fun x y hx hy => ?_, hf.ag, hf.k0, fun x y => ?_, fun x y hx hy => ?_⟩
  · have hp := plc hx hy
    show (L_X5_forgetSeen_j_1 (nI W) (nI H) fu 0 marks).2 (y * W + x) = _
    rw [t2]
    show (if 0 ≤ y * W + x ∧ y * W + x < W * H then _ else _) = _
    rw [if_pos (by omega), hf.mr x y hx hy, mk_unseen (markN_lt (hf.kb x y).2.2.1), mark_uns]
  · show _ ↔ false = true
    constructor
    · intro z
      exfalso
      rcases hf.er x y hx hy with q | ⟨k, q1, q2, q3⟩
      · rw [q] at z
        exact neg1 (by omega) z.symm
      · rw [q3] at z
        have := (nI_eq (by omega) (by omega)).mp z
        omega
    · intro z; cases z
  · obtain ⟨a, b, c, d⟩ := hf.kb x y
    exact ⟨a, b, c, fun z => Nat.le_of_succ_le (d z)⟩
  · rcases hf.er x y hx hy with q | ⟨k, q1, q2, q3⟩
    · exact Or.inl q
    · exact Or.inr ⟨k, by omega, q2, q3⟩
