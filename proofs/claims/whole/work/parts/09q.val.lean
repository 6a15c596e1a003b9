/-! ===== PURE: bits, values and what they lack ===== -/
theorem shp : ∀ p, p < 32 → ((nI p &&& 31).toBitVec.smod 32).toNat = p := by decide +kernel
theorem one_p : ∀ p, p < 31 → (1 : Int32) <<< (nI p &&& 31) = nI (2 ^ p) := by decide +kernel
theorem half_p : ∀ p, p < 31 → ((1 : Int32) <<< (nI p &&& 31)) / (2 : Int32) = nI (2 ^ p / 2) := by decide +kernel
def bitN (a p : Nat) : Nat := a / 2 ^ p % 2
theorem bitN_lt (a p : Nat) : bitN a p < 2 := Nat.mod_lt _ (by omega)
theorem bit_ok {a p : Nat} (ha : a < 2 ^ 31) (hp : p < 31) : (nI a >>> (nI p &&& 31)) &&& (1 : Int32) = nI (bitN a p) := by
  have hlt : a / 2 ^ p < 2 ^ 31 := Nat.lt_of_le_of_lt (Nat.div_le_self _ _) ha
  rw [pk_shrN ha _ p (shp p (by omega)), pk_andN (by omega) 1 (by decide)]
  rfl
/-- what stands still while the passes go -/
abbrev EnvB : Type := Nat × Nat × Nat × Nat × Nat × Nat × Nat × Nat × Nat × Nat × Nat × Int32 × (Nat → Int32) × (Nat → Int32) × (Nat → Int32) × (Nat → Int32) × (Nat → Int32) × (Nat → Nat → Nat) × (Nat → Nat → Bool) × Int64
def EnvB.W (s : EnvB) : Nat := s.1
def EnvB.H (s : EnvB) : Nat := s.2.1
def EnvB.band (s : EnvB) : Nat := s.2.2.1
def EnvB.p (s : EnvB) : Nat := s.2.2.2.1
def EnvB.bk (s : EnvB) : Nat := s.2.2.2.2.1
def EnvB.q (s : EnvB) : Nat := s.2.2.2.2.2.1
def EnvB.M (s : EnvB) : Nat := s.2.2.2.2.2.2.1
def EnvB.K (s : EnvB) : Nat := s.2.2.2.2.2.2.2.1
def EnvB.cn (s : EnvB) : Nat := s.2.2.2.2.2.2.2.2.1
def EnvB.gn (s : EnvB) : Nat := s.2.2.2.2.2.2.2.2.2.1
def EnvB.kn (s : EnvB) : Nat := s.2.2.2.2.2.2.2.2.2.2.1
def EnvB.sty (s : EnvB) : Int32 := s.2.2.2.2.2.2.2.2.2.2.2.1
def EnvB.coef (s : EnvB) : Nat → Int32 := s.2.2.2.2.2.2.2.2.2.2.2.2.1
def EnvB.mag (s : EnvB) : Nat → Int32 := s.2.2.2.2.2.2.2.2.2.2.2.2.2.1
def EnvB.min (s : EnvB) : Nat → Int32 := s.2.2.2.2.2.2.2.2.2.2.2.2.2.2.1
def EnvB.mp (s : EnvB) : Nat → Int32 := s.2.2.2.2.2.2.2.2.2.2.2.2.2.2.2.1
def EnvB.mo (s : EnvB) : Nat → Int32 := s.2.2.2.2.2.2.2.2.2.2.2.2.2.2.2.2.1
def EnvB.a (s : EnvB) : Nat → Nat → Nat := s.2.2.2.2.2.2.2.2.2.2.2.2.2.2.2.2.2.1
def EnvB.mi (s : EnvB) : Nat → Nat → Bool := s.2.2.2.2.2.2.2.2.2.2.2.2.2.2.2.2.2.2.1
def EnvB.E0 (s : EnvB) : Int64 := s.2.2.2.2.2.2.2.2.2.2.2.2.2.2.2.2.2.2.2
def EnvB.Ok (e : EnvB) : Prop :=
  (1 ≤ e.W) ∧
  (e.W ≤ 64) ∧
  (1 ≤ e.H) ∧
  (e.H ≤ 64) ∧
  (e.band < 4) ∧
  (e.p ≤ 30) ∧
  (e.bk < 4) ∧
  (e.q ≤ 30) ∧
  (e.M ≤ 120) ∧
  (e.K ≤ 116000) ∧
  (e.W * e.H ≤ e.cn) ∧
  (e.cn ≤ 4096) ∧
  (e.W * e.H ≤ e.gn) ∧
  (e.gn ≤ 4096) ∧
  (e.W * e.H ≤ e.kn) ∧
  (e.kn ≤ 4096) ∧
  (∀ x y, x < e.W → y < e.H → (if (0 : Int32) ≤ e.coef (y * e.W + x) then e.coef (y * e.W + x) else (0 : Int32) - e.coef (y * e.W + x)) = nI (e.a x y)) ∧
  (∀ x y, x < e.W → y < e.H → e.mag (y * e.W + x) = nI (e.a x y)) ∧
  (∀ x y, e.a x y < 2 ^ 31) ∧
  (∀ x y, x < e.W → y < e.H → ((0 : Int32) ≤ e.coef (y * e.W + x) ↔ e.mi x y = false)) ∧
  (∀ x y, x < e.W → y < e.H → e.min (y * e.W + x) = bI (e.mi x y)) ∧
  (cEq 47 e.mp nP) ∧
  (cEq 47 e.mo nO)
theorem EnvB.Ok.W1 {e : EnvB} (h : EnvB.Ok e) : 1 ≤ e.W := h.1
theorem EnvB.Ok.W64 {e : EnvB} (h : EnvB.Ok e) : e.W ≤ 64 := h.2.1
theorem EnvB.Ok.H1 {e : EnvB} (h : EnvB.Ok e) : 1 ≤ e.H := h.2.2.1
theorem EnvB.Ok.H64 {e : EnvB} (h : EnvB.Ok e) : e.H ≤ 64 := h.2.2.2.1
theorem EnvB.Ok.b4 {e : EnvB} (h : EnvB.Ok e) : e.band < 4 := h.2.2.2.2.1
theorem EnvB.Ok.p30 {e : EnvB} (h : EnvB.Ok e) : e.p ≤ 30 := h.2.2.2.2.2.1
theorem EnvB.Ok.bk4 {e : EnvB} (h : EnvB.Ok e) : e.bk < 4 := h.2.2.2.2.2.2.1
theorem EnvB.Ok.q30 {e : EnvB} (h : EnvB.Ok e) : e.q ≤ 30 := h.2.2.2.2.2.2.2.1
theorem EnvB.Ok.hM {e : EnvB} (h : EnvB.Ok e) : e.M ≤ 120 := h.2.2.2.2.2.2.2.2.1
theorem EnvB.Ok.hK {e : EnvB} (h : EnvB.Ok e) : e.K ≤ 116000 := h.2.2.2.2.2.2.2.2.2.1
theorem EnvB.Ok.cnl {e : EnvB} (h : EnvB.Ok e) : e.W * e.H ≤ e.cn := h.2.2.2.2.2.2.2.2.2.2.1
theorem EnvB.Ok.cnu {e : EnvB} (h : EnvB.Ok e) : e.cn ≤ 4096 := h.2.2.2.2.2.2.2.2.2.2.2.1
theorem EnvB.Ok.gnl {e : EnvB} (h : EnvB.Ok e) : e.W * e.H ≤ e.gn := h.2.2.2.2.2.2.2.2.2.2.2.2.1
theorem EnvB.Ok.gnu {e : EnvB} (h : EnvB.Ok e) : e.gn ≤ 4096 := h.2.2.2.2.2.2.2.2.2.2.2.2.2.1
theorem EnvB.Ok.knl {e : EnvB} (h : EnvB.Ok e) : e.W * e.H ≤ e.kn := h.2.2.2.2.2.2.2.2.2.2.2.2.2.2.1
theorem EnvB.Ok.knu {e : EnvB} (h : EnvB.Ok e) : e.kn ≤ 4096 := h.2.2.2.2.2.2.2.2.2.2.2.2.2.2.2.1
theorem EnvB.Ok.ab {e : EnvB} (h : EnvB.Ok e) : ∀ x y, x < e.W → y < e.H → (if (0 : Int32) ≤ e.coef (y * e.W + x) then e.coef (y * e.W + x) else (0 : Int32) - e.coef (y * e.W + x)) = nI (e.a x y) := h.2.2.2.2.2.2.2.2.2.2.2.2.2.2.2.2.1
theorem EnvB.Ok.mg {e : EnvB} (h : EnvB.Ok e) : ∀ x y, x < e.W → y < e.H → e.mag (y * e.W + x) = nI (e.a x y) := h.2.2.2.2.2.2.2.2.2.2.2.2.2.2.2.2.2.1
theorem EnvB.Ok.a31 {e : EnvB} (h : EnvB.Ok e) : ∀ x y, e.a x y < 2 ^ 31 := h.2.2.2.2.2.2.2.2.2.2.2.2.2.2.2.2.2.2.1
theorem EnvB.Ok.sgn {e : EnvB} (h : EnvB.Ok e) : ∀ x y, x < e.W → y < e.H → ((0 : Int32) ≤ e.coef (y * e.W + x) ↔ e.mi x y = false) := h.2.2.2.2.2.2.2.2.2.2.2.2.2.2.2.2.2.2.2.1
theorem EnvB.Ok.mn {e : EnvB} (h : EnvB.Ok e) : ∀ x y, x < e.W → y < e.H → e.min (y * e.W + x) = bI (e.mi x y) := h.2.2.2.2.2.2.2.2.2.2.2.2.2.2.2.2.2.2.2.2.1
theorem EnvB.Ok.hmp {e : EnvB} (h : EnvB.Ok e) : cEq 47 e.mp nP := h.2.2.2.2.2.2.2.2.2.2.2.2.2.2.2.2.2.2.2.2.2.1
theorem EnvB.Ok.hmo {e : EnvB} (h : EnvB.Ok e) : cEq 47 e.mo nO := h.2.2.2.2.2.2.2.2.2.2.2.2.2.2.2.2.2.2.2.2.2.2
section
variable {e : EnvB} {x y : Nat}
theorem pl_lt (ok : e.Ok) (hx : x < e.W) (hy : y < e.H) : y * e.W + x < 4096 := Nat.lt_of_lt_of_le (plc hx hy) (wh_le ok.W64 ok.H64)
theorem pl_cl (ok : e.Ok) (hx : x < e.W) (hy : y < e.H) : (nI (y * e.W + x)).toNatClampNeg = y * e.W + x := nI_clamp (by have := pl_lt ok hx hy; omega)
theorem c_bit (ok : e.Ok) (hx : x < e.W) (hy : y < e.H) : P_X5_bitOf (nI (y * e.W + x)) e.cn ∧ F_X5_bitOf (nI (y * e.W + x)) (nI e.p) e.coef = nI (bitN (e.a x y) e.p) := by
  have h1 := plc hx hy
  have h2 := ok.cnl
  have h3 := ok.cnu
  have h4 := ok.p30
  refine ⟨vp_in_nI (by omega) (by omega), ?_⟩
  unfold F_X5_bitOf
  rw [pl_cl ok hx hy, ok.ab x y hx hy]
  exact bit_ok (ok.a31 x y) (by omega)
theorem m_bit (ok : e.Ok) (hx : x < e.W) (hy : y < e.H) : P_X11_bitOf (nI (y * e.W + x)) 4096 ∧ F_X11_bitOf (nI (y * e.W + x)) (nI e.p) e.mag = nI (bitN (e.a x y) e.p) := by
  have h4 := ok.p30
  refine ⟨vp_in_nI (pl_lt ok hx hy) (by omega), ?_⟩
  unfold F_X11_bitOf
  rw [pl_cl ok hx hy, ok.mg x y hx hy]
  exact bit_ok (ok.a31 x y) (by omega)
theorem c_minus (ok : e.Ok) (hx : x < e.W) (hy : y < e.H) : P_X5_minusOf (nI (y * e.W + x)) e.cn ∧ F_X5_minusOf (nI (y * e.W + x)) e.coef = bI (e.mi x y) := by
  have h1 := plc hx hy
  have h2 := ok.cnl
  have h3 := ok.cnu
  refine ⟨vp_in_nI (by omega) (by omega), ?_⟩
  unfold F_X5_minusOf
  rw [pl_cl ok hx hy]
  have hs := ok.sgn x y hx hy
  cases hm : e.mi x y with
  | false => rw [if_pos (hs.mpr hm)]; rfl
  | true => rw [if_neg (fun z => by rw [hs.mp z] at hm; cases hm)]; rfl
end
/-- the value that is known -/
def vN (G : GF) (x y : Nat) : Nat := if G.sg x y then G.kn x y + 2 ^ G.lt x y / 2 else 0
theorem pow30 {l : Nat} (h : l ≤ 30) : 2 ^ l ≤ 2 ^ 30 := Nat.pow_le_pow_right (by omega) h
theorem half_lt {k l : Nat} (hk : k < 2 ^ 31) (hd : k % 2 ^ l = 0) (hl : l ≤ 30) : k + 2 ^ l / 2 < 2 ^ 31 := by
  have hp := Nat.two_pow_pos l
  have e1 : 2 ^ 31 = 2 ^ l * 2 ^ (31 - l) := by rw [← Nat.pow_add, show l + (31 - l) = 31 by omega]
  have e2 : k = 2 ^ l * (k / 2 ^ l) := by have := Nat.div_add_mod k (2 ^ l); omega
  have h3 : k / 2 ^ l < 2 ^ (31 - l) := by
    rw [Nat.div_lt_iff_lt_mul hp, Nat.mul_comm, ← e1]; exact hk
  have h4 : 2 ^ l * (k / 2 ^ l) + 2 ^ l ≤ 2 ^ l * 2 ^ (31 - l) := by
    rw [← Nat.mul_succ]; exact Nat.mul_le_mul_left _ h3
  have h5 : 2 ^ l / 2 < 2 ^ l := Nat.div_lt_self hp (by omega)
  omega
def lk (a v : Nat) : Int64 := ((nI a).toInt64 - (nI v).toInt64) * ((nI a).toInt64 - (nI v).toInt64)
theorem neg_abs {n : Nat} (h : n < 2 ^ 31) : (if (0 : Int32) ≤ -nI n then -nI n else (0 : Int32) - -nI n) = nI n := by
  by_cases c : n = 0
  · subst c; decide
  · have h1 : (nI n).toInt = n := nI_toInt h
    have h2 : (-nI n).toInt = -(n : Int) := by
      rw [Int32.toInt_neg, h1]
      exact Int.bmod_eq_of_le (by omega) (by omega)
    have h3 : ¬ (0 : Int32) ≤ -nI n := by
      rw [Int32.le_iff_toInt_le, h2, show (0 : Int32).toInt = 0 by decide]; omega
    rw [if_neg h3, Int32.zero_sub, Int32.neg_neg]
section
variable {W H p : Nat} {cz : Bool} {G : GF} {mags marks known below latest early again : Nat → Int32} {x y i : Nat}
theorem c_val (hf : Fld W H cz p G mags marks known below latest early again) (hx : x < W) (hy : y < H) (hi : y * W + x = i) (h31 : i < 2 ^ 31) : F_X5_valueOf (nI i) mags marks = if G.ng x y then -nI (vN G x y) else nI (vN G x y) := by
  obtain ⟨b1, b2, b3, b4⟩ := hf.kb x y
  have hl := markN_lt (cz := cz) b3
  obtain ⟨-, -, -, -, -, q6, q7, -, -, q10⟩ := mark_bits cz G x y
  have hm := hf.mr x y hx hy
  have hg := hf.mg x y hx hy
  rw [hi] at hm hg
  unfold F_X5_valueOf vN
  rw [nI_clamp h31, hm, hg, mk_getPlane hl, q10, half_p _ (by omega), nI_add]
  cases hs : G.sg x y with
  | false =>
    have e : nI (markN cz G x y) &&& (2048 : Int32) = (0 : Int32) := (mk_2048 hl).mpr (by rw [q6, hs]; rfl)
    have hn : G.ng x y = false := by
      cases hq : G.ng x y with
      | false => rfl
      | true => rw [hf.neg x y hq] at hs; cases hs
    rw [if_pos e, hn]; rfl
  | true =>
    have e : ¬ nI (markN cz G x y) &&& (2048 : Int32) = (0 : Int32) := fun z => by
      have := (mk_2048 hl).mp z
      rw [q6, hs] at this
      exact absurd this (by decide)
    rw [if_neg e]
    cases hn : G.ng x y with
    | false =>
      have e2 : nI (markN cz G x y) &&& (4096 : Int32) = (0 : Int32) := (mk_4096 hl).mpr (by rw [q7, hn]; rfl)
      rw [if_pos e2]; rfl
    | true =>
      have e2 : ¬ nI (markN cz G x y) &&& (4096 : Int32) = (0 : Int32) := fun z => by
        have := (mk_4096 hl).mp z
        rw [q7, hn] at this
        exact absurd this (by decide)
      rw [if_neg e2]; rfl
theorem vN_lt (hf : Fld W H cz p G mags marks known below latest early again) (hx : x < W) (hy : y < H) (hi : y * W + x = i) (h31 : i < 2 ^ 31) : vN G x y < 2 ^ 31 := by
  obtain ⟨b1, b2, b3, b4⟩ := hf.kb x y
  unfold vN
  split
  · exact half_lt b1 b2 b3
  · omega
theorem m_worth (hf : Fld W H cz p G mags marks known below latest early again) (hx : x < W) (hy : y < H) (hi : y * W + x = i) (h31 : i < 2 ^ 31) : F_X11_worth (nI i) known latest = nI (vN G x y) := by
  obtain ⟨b1, b2, b3, b4⟩ := hf.kb x y
  have hk := hf.kn x y hx hy
  have hl := hf.la x y hx hy
  rw [hi] at hk hl
  unfold F_X11_worth vN
  rw [nI_clamp h31, hk, hl, half_p _ (by omega), nI_add]
  cases hs : G.sg x y with
  | false => rw [(hf.k0 x y).mpr hs]; rfl
  | true =>
    have : G.kn x y ≠ 0 := fun z => by rw [(hf.k0 x y).mp z] at hs; cases hs
    rw [if_neg (nI_ne0 (by omega) b1)]; rfl
theorem c_lack (hf : Fld W H cz p G mags marks known below latest early again) (hx : x < W) (hy : y < H) (hi : y * W + x = i) (h31 : i < 2 ^ 31) {coef : Nat → Int32} {a : Nat} (hc : (if (0 : Int32) ≤ coef i then coef i else (0 : Int32) - coef i) = nI a) : F_X5_lack (nI i) coef mags marks = lk a (vN G x y) := by
  have hv := vN_lt hf hx hy hi h31
  unfold F_X5_lack lk
  rw [c_val hf hx hy hi h31, nI_clamp h31, hc]
  have e : (if (0 : Int32) ≤ (if G.ng x y = true then -nI (vN G x y) else nI (vN G x y)) then (if G.ng x y = true then -nI (vN G x y) else nI (vN G x y)) else (0 : Int32) - (if G.ng x y = true then -nI (vN G x y) else nI (vN G x y))) = nI (vN G x y) := by
    cases G.ng x y with
    | true => simp only [if_true]; exact neg_abs hv
    | false => simp only [Bool.false_eq_true, if_false]; rw [if_pos (nI_pos' hv)]
  simp only [e]
theorem p_lack (hf : Fld W H cz p G mags marks known below latest early again) (hx : x < W) (hy : y < H) (hi : y * W + x = i) (h31 : i < 2 ^ 31) {coef : Nat → Int32} {cn gn kn : Nat} (h1 : i < cn) (h2 : i < gn) (h3 : i < kn) (b1 : cn ≤ 4096) (b2 : gn ≤ 4096) (b3 : kn ≤ 4096) : P_X5_lack (nI i) cn gn kn marks :=
  ⟨vp_in_nI h1 (by omega), vp_in_nI h3 (by omega), fun _ => vp_in_nI h2 (by omega)⟩
end
/-! the sum of all that lacks -/
def sumL (f : Nat → Int64) : Nat → Int64
  | 0 => 0
  | n + 1 => sumL f n + f n
theorem sumL_eq {f g : Nat → Int64} : ∀ n, (∀ j, j < n → f j = g j) → sumL f n = sumL g n := by
  intro n
  induction n with
  | zero => intro _; rfl
  | succ n ih => intro h; show sumL f n + f n = sumL g n + g n; rw [ih (fun j hj => h j (by omega)), h n (by omega)]
theorem l64 (a b c d : Int64) : a + b = c + b → a + d = c + d := by
  intro h
  have : a = c := by
    have h2 := congrArg (· - b) h
    simpa using h2
  rw [this]
theorem sumL_up {f g : Nat → Int64} {i : Nat} : ∀ n, i < n → (∀ j, j < n → j ≠ i → g j = f j) → sumL g n + f i = sumL f n + g i := by
  intro n
  induction n with
  | zero => intro h; omega
  | succ n ih =>
    intro h1 h2
    show sumL g n + g n + f i = sumL f n + f n + g i
    by_cases c : i = n
    · subst c
      rw [sumL_eq (f := g) (g := f) i (fun j hj => h2 j (by omega) (by omega)), Int64.add_assoc, Int64.add_assoc, Int64.add_comm (g i)]
    · have h3 := ih (by omega) (fun j hj hne => h2 j (by omega) hne)
      rw [h2 n (by omega) (fun z => c z.symm), Int64.add_assoc, Int64.add_comm (f n), ← Int64.add_assoc, h3, Int64.add_assoc, Int64.add_comm (g i), ← Int64.add_assoc]
def errI (e : EnvB) (G : GF) (j : Nat) : Int64 := lk (e.a (j % e.W) (j / e.W)) (vN G (j % e.W) (j / e.W))
def errS (e : EnvB) (G : GF) : Int64 := sumL (errI e G) (e.W * e.H)
theorem ix_mod {x y W : Nat} (hx : x < W) : (y * W + x) % W = x ∧ (y * W + x) / W = y := by
  have hW : 0 < W := by omega
  refine ⟨by rw [Nat.mul_comm, Nat.mul_add_mod, Nat.mod_eq_of_lt hx], ?_⟩
  rw [Nat.mul_comm, Nat.mul_add_div hW, Nat.div_eq_of_lt hx, Nat.add_zero]
theorem errS_up {e : EnvB} {G G' : GF} {x y : Nat} (hx : x < e.W) (hy : y < e.H) (h : ∀ x' y', ¬ (x' = x ∧ y' = y) → vN G' x' y' = vN G x' y') : errS e G' + lk (e.a x y) (vN G x y) = errS e G + lk (e.a x y) (vN G' x y) := by
  have h1 := plc hx hy
  obtain ⟨m1, m2⟩ := ix_mod (y := y) hx
  have key := sumL_up (f := errI e G) (g := errI e G') (i := y * e.W + x) (e.W * e.H) h1 (fun j hj hne => by
    unfold errI
    rw [h]
    intro z
    apply hne
    have := Nat.div_add_mod j e.W
    rw [z.1, z.2] at this
    rw [Nat.mul_comm]; omega)
  unfold errI at key
  rw [m1, m2] at key
  exact key
/-- what the class adds to 'lessened' keeps the sum -/
theorem less_ok {l b a s s' E : Int64} (h : l + s = E) (h2 : s' + b = s + a) : (l + b) - a + s' = E := by
  rw [Int64.sub_eq_add_neg, Int64.add_assoc, Int64.add_assoc, ← Int64.add_assoc b, Int64.add_comm b, Int64.add_assoc, Int64.add_comm b, h2, Int64.add_comm s, ← Int64.add_assoc (-a), Int64.add_left_neg, Int64.zero_add, h]
