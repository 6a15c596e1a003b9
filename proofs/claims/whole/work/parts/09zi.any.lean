/-! ===== PURE: any pass of a block ===== -/
def EnvB.at (b : EnvB) (p bk q M K : Nat) (E0 : Int64) : EnvB := (b.W, b.H, b.band, p, bk, q, M, K, b.cn, b.gn, b.kn, b.sty, b.coef, b.mag, b.min, b.mp, b.mo, b.a, b.mi, E0)
theorem at_ok {b : EnvB} (h : b.Ok) {p bk q M K : Nat} {E0 : Int64} (h1 : p ≤ 30) (h2 : bk < 4) (h3 : q ≤ 30) (h4 : M ≤ 120) (h5 : K ≤ 116000) : (b.at p bk q M K E0).Ok :=
  ⟨h.W1, h.W64, h.H1, h.H64, h.b4, h1, h2, h3, h4, h5, h.cnl, h.cnu, h.gnl, h.gnu, h.knl, h.knu, h.ab, h.mg, h.a31, h.sgn, h.mn, h.hmp, h.hmo⟩
def qN (k : Nat) : Nat := (k + 2) / 3
/-- the plane at which the field stands ahead of pass k -/
def pW (P k : Nat) : Nat := if kdN k = 0 then plN P k + 1 else plN P k
def exW (kind : Nat) (G : GF) (x y : Nat) : Bool := match kind with
  | 0 => false
  | 1 => G.sn x y
  | _ => G.sn x y || G.sg x y
def ChW (b : EnvB) (k : Nat) (G : GF) (g gc : Nat → Nat) : Prop := (∀ x y, x < b.W → y < b.H → g (y * b.W + x) ≤ qN k + bN (G.sg x y) + bN (exW (kdN k) G x y)) ∧ ∀ j, j < 1024 → gc j ≤ 2 * bN (colS G j)
def nT (b : EnvB) (g gc : Nat → Nat) (M : Nat) : Nat := sumN g (b.W * b.H) + sumN gc 1024 + M
theorem key_end {W x y : Nat} (hx : x < W) (hy : y < 64) : key W x y < 17 * (4 * W) := by
  unfold key
  have h1 : y / 4 * (4 * W) ≤ 15 * (4 * W) := Nat.mul_le_mul_right _ (by omega)
  omega
def enC (kind : Nat) (G : GF) (x y : Nat) : Bool := match kind with
  | 0 => G.sn x y
  | 1 => G.sn x y || G.sg x y
  | _ => true
theorem chg_end {e : EnvB} (ok : e.Ok) {kind : Nat} {G : GF} {g gc : Nat → Nat} (h : Chg e kind (17 * (4 * e.W)) G g gc) : ∀ x y, x < e.W → y < e.H → g (y * e.W + x) ≤ e.q + bN (G.sg x y) + bN (enC kind G x y) := by
  intro x y hx hy
  have h1 := h.sm x y hx hy
  have hk := key_end hx (show y < 64 by have := ok.H64; omega)
  have h2 : bN (exC kind (17 * (4 * e.W)) e.W G x y) ≤ bN (enC kind G x y) := by
    apply bN_mono
    intro z
    rcases kind with _ | _ | n
    · exact z
    · have z2 : (G.sn x y || (G.sg x y && decide (key e.W x y < 17 * (4 * e.W)))) = true := z
      rw [decide_eq_true hk, Bool.and_true] at z2; exact z2
    · rfl
  omega
section
variable {b : EnvB} {P k M K bk : Nat} {G : GF} {g gc : Nat → Nat} {c : CS} {m : MS} {mags marks known below latest early again : Nat → Int32} {fl mfl mkd : Int32}
theorem plN_le (hP : P < 32) : plN P k ≤ 30 := by unfold plN; omega
theorem qN_le (hP : P < 32) (hk : k + 2 < 3 * P) : qN k ≤ 30 := by unfold qN; omega
theorem pass_any (ok : b.Ok) (hP : P < 32) (hk : k + 2 < 3 * P) (hbk : bk < 4) (hM : M ≤ 4 * qN k) (hK : K ≤ 116000) (hcod : Cod bk (nT b g gc M) K c m) (hf : Fld b.W b.H (czOf b.sty) (pW P k) G mags marks known below latest early again) (hch : ChW b k G g gc) (hmk : mkd = (0 : Int32) ↔ (b.sty &&& (32 : Int32)) = (0 : Int32)) :
    ∃ (G' : GF) (g' gc' : Nat → Nat) (M' : Nat) (c' : CS) (m' : MS) (mags' marks' known' below' latest' early' again' : Nat → Int32) (less' : Int64) (fl' mfl' : Int32), (F_X9_go (nI (kdN k)) mkd c.count c.start c.bn c.bf 19 c.sf 19 c.lf c.low c.size c.room c.free c.place c.cend c.window c.csize c.croom c.rplace c.rend c.cur c.left (nI b.W) (nI b.H) (nI b.band) (bI (czOf b.sty)) b.coef mags marks fl bk (rawI bk) (nI (plN P k))) = c'.Z mags' marks' less' fl' ∧ (P_X9_go (nI (kdN k)) mkd c.count c.start c.bn c.bf 19 c.sf 19 c.lf c.low c.size c.room c.free c.place c.cend c.window c.csize c.croom c.rplace c.rend c.cur c.left (nI b.W) (nI b.H) (nI b.band) (bI (czOf b.sty)) b.cn b.coef b.gn mags b.kn marks bk (rawI bk) (nI (plN P k))) ∧ (D_X9_go (nI (kdN k)) mkd c.count c.start c.bn c.bf 19 c.sf 19 c.lf c.low c.size c.room c.free c.place c.cend c.window c.csize c.croom c.rplace c.rend c.cur c.left (nI b.W) (nI b.H) (nI b.band) (bI (czOf b.sty)) b.coef mags marks fl bk (rawI bk) (nI (plN P k))) + 3 * c.bn ≤ 3 * c'.bn ∧
    (F_X11_codePass (nI k) (nI b.W) (nI b.H) (nI b.band) b.sty (nI P) (wrI bk) (rawI bk) mfl m.size m.begin m.low m.carried m.span m.room m.place m.limit m.next m.last m.upper b.mp b.mo b.mag b.min known below latest early again m.sf m.lf m.bf) = m'.W (nI (plN P k)) mfl' known' below' latest' early' again' (rst b.sty m'.sf m'.lf).1 (rst b.sty m'.sf m'.lf).2 ∧ (P_X11_codePass (nI k) (nI b.W) (nI b.H) (nI b.band) b.sty (nI P) (wrI bk) (rawI bk) mfl m.size m.begin m.low m.carried m.span m.room m.place m.limit m.next m.last m.upper 47 b.mp 47 b.mo 4096 b.mag 4096 b.min 4096 known 4096 below 4096 latest 4096 early 4096 again 19 m.sf 19 m.lf 65536 m.bf) ∧ Kept bk c c' m m' ∧ Cod bk (nT b g' gc' M') K c' m' ∧ M' ≤ 4 * qN (k + 1) ∧
    Fld b.W b.H (czOf b.sty) (plN P k) G' mags' marks' known' below' latest' early' again' ∧ less' + errS b G' = errS b G ∧ ChW b (k + 1) G' g' gc' ∧ (fl = mfl → fl' = mfl') := by
  obtain ⟨kd1, kd2⟩ := kd_all k (by omega)
  obtain ⟨pl1, pl2⟩ := pl_ok hP hk
  have hq := qN_le hP hk
  have hp := plN_le (k := k) hP
  have okE : (b.at (plN P k) bk (qN k) M K (errS b G)).Ok := at_ok ok hp hbk hq (by omega) hK
  have hkd : kdN k < 3 := Nat.mod_lt _ (by omega)
  have e0 : (0 : Int64) + errS b G = errS b G := Int64.zero_add _
  rcases (show kdN k = 0 ∨ kdN k = 1 ∨ kdN k = 2 by omega) with h0 | h1 | h2
  · -- the first kind
    have hpw : pW P k = plN P k + 1 := if_pos h0
    rw [hpw] at hf
    obtain ⟨u1, u2⟩ := hf.uns (K := b.kn) hp ok.W64 ok.H64 ok.knl ok.knu
    have hrel : Rel (b.at (plN P k) bk (qN k) M K (errS b G)) 0 0 (gUns G) g gc c m mags (F_X5_forgetSeen (nI b.W) (nI b.H) marks) known below latest early again 0 := by
      refine ⟨hcod, u2, e0, fun x y hx hy => ?_, fun _ _ _ _ _ _ => rfl, hch.2⟩
      have := hch.1 x y hx hy
      rw [h0] at this
      exact this
    obtain ⟨G', g', gc', c', m', mags', marks', known', below', latest', early', again', less', fl', mfl', d, t1, t2, t3, t4, t5, t6, t7, t8, t9, t10, t11, t12⟩ := pass_spread okE (marks := marks) (fl := fl) (mfl := mfl) (pk := nI k) (plk := nI P) (mkd := mkd) hrel (by unfold J_X9_go_j_3; rw [if_pos rfl]; rfl) (fun _ => u1) hmk (by rw [kd2, h0]; rfl) pl2
    rw [h0]
    refine ⟨G', g', gc', M + d, c', m', mags', marks', known', below', latest', early', again', less', fl', mfl', t1, t2, t3, t4, t5, t6, ?_, ?_, t9, t10, ⟨?_, t11.co⟩, t12⟩
    · have : nT b g' gc' (M + d) = totN (b.at (plN P k) bk (qN k) M K (errS b G)) g' gc' + d := by unfold nT totN; show _ = sumN g' (b.W * b.H) + sumN gc' 1024 + M + d; omega
      rw [this]; exact t7
    · have : qN k ≤ qN (k + 1) := by unfold qN; omega
      omega
    · intro x y hx hy
      have h3 := chg_end okE t11 x y hx hy
      have hk1 : kdN (k + 1) = 1 := by unfold kdN at *; omega
      have hq1 : qN (k + 1) = qN k := by unfold qN; unfold kdN at h0; omega
      rw [hk1, hq1]
      exact h3
  · have hpw : pW P k = plN P k := if_neg (by omega)
    rw [hpw] at hf
    have hrel : Rel (b.at (plN P k) bk (qN k) M K (errS b G)) 1 0 G g gc c m mags marks known below latest early again 0 := by
      refine ⟨hcod, hf, e0, fun x y hx hy => ?_, fun z => absurd z (by omega), hch.2⟩
      have := hch.1 x y hx hy
      rw [h1] at this
      show _ ≤ qN k + bN (G.sg x y) + bN (G.sn x y || (G.sg x y && decide (key b.W x y < 0)))
      rw [decide_eq_false (by omega), Bool.and_false, Bool.or_false]
      exact this
    obtain ⟨G', g', gc', c', m', mags', marks', known', below', latest', early', again', less', fl', mfl', d, t1, t2, t3, t4, t5, t6, t7, t8, t9, t10, t11, t12⟩ := pass_refine okE (marks := marks) (fl := fl) (mfl := mfl) (pk := nI k) (plk := nI P) (mkd := mkd) hrel (by unfold J_X9_go_j_3; rw [if_neg (by decide)]) (fun z => absurd z (by decide)) hmk (by rw [kd2, h1]; rfl) pl2
    rw [h1]
    refine ⟨G', g', gc', M + d, c', m', mags', marks', known', below', latest', early', again', less', fl', mfl', t1, t2, t3, t4, t5, t6, ?_, ?_, t9, t10, ⟨?_, t11.co⟩, t12⟩
    · have : nT b g' gc' (M + d) = totN (b.at (plN P k) bk (qN k) M K (errS b G)) g' gc' + d := by unfold nT totN; show _ = sumN g' (b.W * b.H) + sumN gc' 1024 + M + d; omega
      rw [this]; exact t7
    · have : qN k ≤ qN (k + 1) := by unfold qN; omega
      omega
    · intro x y hx hy
      have h3 := chg_end okE t11 x y hx hy
      have hk1 : kdN (k + 1) = 2 := by unfold kdN at *; omega
      have hq1 : qN (k + 1) = qN k := by unfold qN; unfold kdN at h1; omega
      rw [hk1, hq1]
      exact h3
  · have hpw : pW P k = plN P k := if_neg (by omega)
    rw [hpw] at hf
    have hrel : Rel (b.at (plN P k) bk (qN k) M K (errS b G)) 2 0 G g gc c m mags marks known below latest early again 0 := by
      refine ⟨hcod, hf, e0, fun x y hx hy => ?_, fun z => absurd z (by omega), hch.2⟩
      have := hch.1 x y hx hy
      rw [h2] at this
      show _ ≤ qN k + bN (G.sg x y) + bN (G.sn x y || G.sg x y || decide (key b.W x y < 0))
      rw [decide_eq_false (by omega), Bool.or_false]
      exact this
    obtain ⟨G', g', gc', c', m', mags', marks', known', below', latest', early', again', less', fl', mfl', d, t1, t2, t3, t4, t5, t6, t7, t8, t9, t10, t11, t12⟩ := pass_clean okE (marks := marks) (fl := fl) (mfl := mfl) (pk := nI k) (plk := nI P) (mkd := mkd) hrel (by unfold J_X9_go_j_3; rw [if_neg (by decide)]) (fun z => absurd z (by decide)) hmk (by rw [kd2, h2]; rfl) pl2
    rw [h2]
    have hq1 : qN (k + 1) = qN k + 1 := by unfold qN; unfold kdN at h2; omega
    have hk1 : kdN (k + 1) = 0 := by unfold kdN at *; omega
    refine ⟨G', g', gc', M + d, c', m', mags', marks', known', below', latest', early', again', less', fl', mfl', t1, t2, t3, t4, t5, t6, ?_, ?_, t9, t10, ⟨?_, t11.co⟩, t12⟩
    · have : nT b g' gc' (M + d) = totN (b.at (plN P k) bk (qN k) M K (errS b G)) g' gc' + d := by unfold nT totN; show _ = sumN g' (b.W * b.H) + sumN gc' 1024 + M + d; omega
      rw [this]; exact t7
    · omega
    · intro x y hx hy
      have h3 := chg_end okE t11 x y hx hy
      rw [hk1, hq1]
      have h4 : bN (exW 0 G' x y) = 0 := rfl
      have h5 : bN true = 1 := rfl
      have h6 : g' (y * b.W + x) ≤ qN k + bN (G'.sg x y) + 1 := h3
      omega
theorem pW_next (hk : k + 3 < 3 * P) : pW P (k + 1) = plN P k := by
  unfold pW plN kdN
  split <;> omega
end
