/-! ===== PURE: how many bits there are at most ===== -/
def sumN (f : Nat → Nat) : Nat → Nat
  | 0 => 0
  | n + 1 => sumN f n + f n
theorem sumN_up (f : Nat → Nat) (i d : Nat) : ∀ n, sumN (nup f i (f i + d)) n = sumN f n + (if i < n then d else 0) := by
  intro n
  induction n with
  | zero => simp [sumN]
  | succ n ih =>
    show sumN (nup f i (f i + d)) n + nup f i (f i + d) n = sumN f n + f n + _
    rw [ih]
    unfold nup
    by_cases c : n = i
    · subst c
      rw [if_pos rfl, if_neg (by omega), if_pos (by omega)]; omega
    · rw [if_neg c]
      by_cases c2 : i < n
      · rw [if_pos c2, if_pos (by omega)]; omega
      · rw [if_neg c2, if_neg (by omega)]; omega
theorem sumN_le {f : Nat → Nat} {B : Nat} : ∀ n, (∀ j, j < n → f j ≤ B) → sumN f n ≤ n * B := by
  intro n
  induction n with
  | zero => intro _; simp [sumN]
  | succ n ih =>
    intro h
    have h1 := ih (fun j hj => h j (by omega))
    have h2 := h n (by omega)
    show sumN f n + f n ≤ (n + 1) * B
    rw [Nat.succ_mul]; omega
def key (W x y : Nat) : Nat := y / 4 * (4 * W) + x * 4 + y % 4
def colS (G : GF) (j : Nat) : Bool := G.sg (j % 64) (j / 64 * 4) || G.sg (j % 64) (j / 64 * 4 + 1) || G.sg (j % 64) (j / 64 * 4 + 2) || G.sg (j % 64) (j / 64 * 4 + 3)
def exC (kind pos W : Nat) (G : GF) (x y : Nat) : Bool := match kind with
  | 0 => G.sn x y
  | 1 => G.sn x y || (G.sg x y && decide (key W x y < pos))
  | _ => G.sn x y || G.sg x y || decide (key W x y < pos)
def Chg (e : EnvB) (kind pos : Nat) (G : GF) (g gc : Nat → Nat) : Prop :=
  (∀ x y, x < e.W → y < e.H → g (y * e.W + x) ≤ e.q + bN (G.sg x y) + bN (exC kind pos e.W G x y)) ∧
  (kind = 0 → ∀ x y, x < e.W → y < e.H → pos ≤ key e.W x y → G.sn x y = false) ∧
  (∀ j, j < 1024 → gc j ≤ 2 * bN (colS G j))
theorem Chg.sm {e : EnvB} {kind pos : Nat} {G : GF} {g gc : Nat → Nat} (h : Chg e kind pos G g gc) : ∀ x y, x < e.W → y < e.H → g (y * e.W + x) ≤ e.q + bN (G.sg x y) + bN (exC kind pos e.W G x y) := h.1
theorem Chg.un {e : EnvB} {kind pos : Nat} {G : GF} {g gc : Nat → Nat} (h : Chg e kind pos G g gc) : kind = 0 → ∀ x y, x < e.W → y < e.H → pos ≤ key e.W x y → G.sn x y = false := h.2.1
theorem Chg.co {e : EnvB} {kind pos : Nat} {G : GF} {g gc : Nat → Nat} (h : Chg e kind pos G g gc) : ∀ j, j < 1024 → gc j ≤ 2 * bN (colS G j) := h.2.2
theorem bN_mono {a b : Bool} (h : a = true → b = true) : bN a ≤ bN b := by
  cases a with
  | false => exact Nat.zero_le _
  | true => rw [h rfl]; exact Nat.le_refl _
theorem Chg.mono {e : EnvB} {kind pos pos' : Nat} {G : GF} {g gc : Nat → Nat} (h : Chg e kind pos G g gc) (hp : pos ≤ pos') : Chg e kind pos' G g gc := by
  refine ⟨fun x y hx hy => ?_, fun hk x y hx hy hq => h.un hk x y hx hy (by omega), h.co⟩
  have h1 := h.sm x y hx hy
  have h2 : bN (exC kind pos e.W G x y) ≤ bN (exC kind pos' e.W G x y) := by
    apply bN_mono
    intro z
    unfold exC at z ⊢
    split at z
    · exact z
    · simp only [Bool.or_eq_true, Bool.and_eq_true, decide_eq_true_eq] at z ⊢
      rcases z with z | z
      · exact Or.inl z
      · exact Or.inr ⟨z.1, by omega⟩
    · simp only [Bool.or_eq_true, decide_eq_true_eq] at z ⊢
      rcases z with z | z
      · exact Or.inl z
      · exact Or.inr (by omega)
  omega
def totN (e : EnvB) (g gc : Nat → Nat) : Nat := sumN g (e.W * e.H) + sumN gc 1024 + e.M
theorem Chg.lim {e : EnvB} (ok : e.Ok) {kind pos : Nat} {G : GF} {g gc : Nat → Nat} (h : Chg e kind pos G g gc) : 36 * (totN e g gc + 4) + e.K ≤ 4913000 := by
  have hW := ok.W1
  have h1 : sumN g (e.W * e.H) ≤ e.W * e.H * (e.q + 2) := sumN_le _ (fun j hj => by
    have hx : j % e.W < e.W := Nat.mod_lt _ (by omega)
    have hy : j / e.W < e.H := Nat.div_lt_of_lt_mul hj
    have h2 := h.sm _ _ hx hy
    have e1 : j / e.W * e.W + j % e.W = j := by rw [Nat.mul_comm]; exact Nat.div_add_mod j e.W
    rw [e1] at h2
    have h3 := bN_le (G.sg (j % e.W) (j / e.W))
    have h4 := bN_le (exC kind pos e.W G (j % e.W) (j / e.W))
    omega)
  have h5 : sumN gc 1024 ≤ 1024 * 2 := sumN_le _ (fun j hj => by have := h.co j hj; have := bN_le (colS G j); omega)
  have h6 : e.W * e.H * (e.q + 2) ≤ 4096 * 32 := Nat.mul_le_mul (wh_le ok.W64 ok.H64) (by have := ok.q30; omega)
  have h7 := ok.hM
  have h8 := ok.hK
  unfold totN
  omega
theorem key_inj {W x y x' y' : Nat} (hx : x < W) (hx' : x' < W) (h : key W x y = key W x' y') : x = x' ∧ y = y' := by
  unfold key at h
  have e1 : y / 4 * (4 * W) + x * 4 + y % 4 = (y / 4 * W + x) * 4 + y % 4 := by rw [Nat.add_mul, Nat.mul_assoc, Nat.mul_comm W 4]
  have e2 : y' / 4 * (4 * W) + x' * 4 + y' % 4 = (y' / 4 * W + x') * 4 + y' % 4 := by rw [Nat.add_mul, Nat.mul_assoc, Nat.mul_comm W 4]
  rw [e1, e2] at h
  have h1 : y % 4 = y' % 4 := by omega
  have h2 : y / 4 * W + x = y' / 4 * W + x' := by omega
  obtain ⟨h3, h4⟩ := plc_inj hx hx' h2
  exact ⟨h3, by omega⟩
/-- all that both sides hold while a pass goes -/
def Rel (e : EnvB) (kind pos : Nat) (G : GF) (g gc : Nat → Nat) (c : CS) (m : MS) (mags marks known below latest early again : Nat → Int32) (less : Int64) : Prop :=
  (Cod e.bk (totN e g gc) e.K c m) ∧
  (Fld e.W e.H (czOf e.sty) e.p G mags marks known below latest early again) ∧
  (less + errS e G = e.E0) ∧
  (Chg e kind pos G g gc)
theorem Rel.cod {e : EnvB} {kind pos : Nat} {G : GF} {g gc : Nat → Nat} {c : CS} {m : MS} {mags marks known below latest early again : Nat → Int32} {less : Int64} (h : Rel e kind pos G g gc c m mags marks known below latest early again less) : Cod e.bk (totN e g gc) e.K c m := h.1
theorem Rel.fld {e : EnvB} {kind pos : Nat} {G : GF} {g gc : Nat → Nat} {c : CS} {m : MS} {mags marks known below latest early again : Nat → Int32} {less : Int64} (h : Rel e kind pos G g gc c m mags marks known below latest early again less) : Fld e.W e.H (czOf e.sty) e.p G mags marks known below latest early again := h.2.1
theorem Rel.err {e : EnvB} {kind pos : Nat} {G : GF} {g gc : Nat → Nat} {c : CS} {m : MS} {mags marks known below latest early again : Nat → Int32} {less : Int64} (h : Rel e kind pos G g gc c m mags marks known below latest early again less) : less + errS e G = e.E0 := h.2.2.1
theorem Rel.chg {e : EnvB} {kind pos : Nat} {G : GF} {g gc : Nat → Nat} {c : CS} {m : MS} {mags marks known below latest early again : Nat → Int32} {less : Int64} (h : Rel e kind pos G g gc c m mags marks known below latest early again less) : Chg e kind pos G g gc := h.2.2.2
theorem totN_g {e : EnvB} {g gc : Nat → Nat} {i d : Nat} (hi : i < e.W * e.H) : totN e (nup g i (g i + d)) gc = totN e g gc + d := by
  unfold totN
  rw [sumN_up, if_pos hi]; omega
theorem totN_c {e : EnvB} {g gc : Nat → Nat} {j d : Nat} (hj : j < 1024) : totN e g (nup gc j (gc j + d)) = totN e g gc + d := by
  unfold totN
  rw [sumN_up, if_pos hj]; omega
def gSeen (G : GF) (x0 y0 : Nat) : GF := (G.sg, G.ng, G.kn, G.lt, fun x y => if x = x0 ∧ y = y0 then true else G.sn x y, G.ag)
theorem mark_seen (cz : Bool) (G : GF) (x0 y0 x y : Nat) (h : G.sn x0 y0 = false) : markN cz (gSeen G x0 y0) x y = markN cz G x y + (if x = x0 ∧ y = y0 then 8192 else 0) := by
  have e1 : markN cz (gSeen G x0 y0) x y = hC G x y + 4 * vC cz G x y + 16 * dC cz G x y + 128 * hM G x y + 512 * vM cz G x y + 2048 * bN (G.sg x y) + 4096 * bN (G.ng x y) + 8192 * bN (if x = x0 ∧ y = y0 then true else G.sn x y) + 16384 * bN (G.ag x y) + 65536 * G.lt x y := rfl
  rw [e1]
  by_cases c : x = x0 ∧ y = y0
  · obtain ⟨rfl, rfl⟩ := c
    rw [if_pos ⟨rfl, rfl⟩, if_pos ⟨rfl, rfl⟩]
    unfold markN
    rw [h, show bN true = 1 by rfl, show bN false = 0 by rfl]
    omega
  · rw [if_neg c, if_neg c]; rfl
theorem Fld.seen {W H p : Nat} {cz : Bool} {G : GF} {mags marks known below latest early again : Nat → Int32} (hf : Fld W H cz p G mags marks known below latest early again) {x0 y0 : Nat} (hx0 : x0 < W) (hy0 : y0 < H) (hp30 : p ≤ 30) (h : G.sn x0 y0 = false) : Fld W H cz p (gSeen G x0 y0) mags (upd marks (y0 * W + x0) (marks (y0 * W + x0) ||| (8192 : Int32))) known below latest (upd early (y0 * W + x0) (nI p)) again := by
  obtain ⟨kb1, kb2, kb3, kb4⟩ := hf.kb x0 y0
  obtain ⟨-, -, -, -, -, -, -, q8, -, -⟩ := mark_bits cz G x0 y0
  rw [h] at q8
  refine ⟨hf.rg, hf.neg, fun x y hx hy => ?_, hf.mg, hf.kn, hf.bl, hf.la, fun x y hx hy => ?_, hf.ag, hf.k0, hf.kb, fun x y hx hy => ?_⟩
  · rw [upd_at hx0 hx, mark_seen cz G x0 y0 x y h]
    by_cases c : x = x0 ∧ y = y0
    · obtain ⟨rfl, rfl⟩ := c
      rw [if_pos ⟨rfl, rfl⟩, if_pos ⟨rfl, rfl⟩, hf.mr _ _ hx hy, mk_seen (markN_lt kb3) q8]
    · rw [if_neg c, if_neg c, Nat.add_zero, hf.mr _ _ hx hy]
  · rw [upd_at hx0 hx]
    show _ ↔ (if x = x0 ∧ y = y0 then true else G.sn x y) = true
    by_cases c : x = x0 ∧ y = y0
    · rw [if_pos c, if_pos c]; exact ⟨fun _ => rfl, fun _ => rfl⟩
    · rw [if_neg c, if_neg c]; exact hf.ea x y hx hy
  · rw [upd_at hx0 hx]
    by_cases c : x = x0 ∧ y = y0
    · rw [if_pos c]; exact Or.inr ⟨p, Nat.le_refl _, hp30, rfl⟩
    · rw [if_neg c]; exact hf.er x y hx hy
def MS.V (m : MS) (k b l ea ag : Nat → Int32) : (Int32 × Int32 × Int32 × Int32 × Int32 × Int32 × Int32 × Int64 × (Nat → Int32) × (Nat → Int32) × (Nat → Int32) × (Nat → Int32) × (Nat → Int32) × (Nat → Int32) × (Nat → Int32) × (Nat → Int32)) :=
  (m.size, m.low, m.carried, m.span, m.room, m.next, m.last, m.upper, k, b, l, ea, ag, m.sf, m.lf, m.bf)
theorem errS_same {e : EnvB} {G G' : GF} (h : ∀ x y, vN G' x y = vN G x y) : errS e G' = errS e G := sumL_eq _ (fun j _ => by unfold errI; rw [h])
theorem colS_mono {G G' : GF} (h : ∀ x y, G.sg x y = true → G'.sg x y = true) (j : Nat) : bN (colS G j) ≤ bN (colS G' j) := by
  apply bN_mono
  unfold colS
  simp only [Bool.or_eq_true]
  rintro (((z | z) | z) | z)
  · exact Or.inl (Or.inl (Or.inl (h _ _ z)))
  · exact Or.inl (Or.inl (Or.inr (h _ _ z)))
  · exact Or.inl (Or.inr (h _ _ z))
  · exact Or.inr (h _ _ z)
