/-! ===== PURE: planes, the row cleared, a field of which nothing is known ===== -/
def orN (f : Nat → Nat) : Nat → Nat
  | 0 => 0
  | n + 1 => orN f n ||| f n
theorem orN_lt {f : Nat → Nat} (h : ∀ j, f j < 2 ^ 31) : ∀ n, orN f n < 2 ^ 31 := by
  intro n
  induction n with
  | zero => show (0 : Nat) < _; omega
  | succ n ih => exact Nat.or_lt_two_pow ih (h n)
/-- magnitudes by place -/
def EnvB.al (e : EnvB) (i : Nat) : Nat := e.a (i % e.W) (i / e.W)
theorem al_xy {e : EnvB} (ok : e.Ok) {i : Nat} (hi : i < e.W * e.H) : i % e.W < e.W ∧ i / e.W < e.H ∧ i / e.W * e.W + i % e.W = i := by
  have hW := ok.W1
  exact ⟨Nat.mod_lt _ (by omega), Nat.div_lt_of_lt_mul hi, by rw [Nat.mul_comm]; exact Nat.div_add_mod i e.W⟩
theorem or_c {e : EnvB} (ok : e.Ok) : ∀ (d i fuel : Nat), i + d = e.W * e.H → d < fuel → PL_X5_planes_j_1 (nI e.W) (nI e.H) e.cn e.coef fuel (nI (orN e.al i)) (nI i) ∧ (L_X5_planes_j_1 (nI e.W) (nI e.H) e.coef fuel (nI (orN e.al i)) (nI i)).1 = nI (orN e.al (e.W * e.H)) := by
  have hwh := wh_le ok.W64 ok.H64
  have hcn := ok.cnl
  have hcu := ok.cnu
  intro d
  induction d with
  | zero =>
    intro i fuel h1 h2
    obtain ⟨n, rfl⟩ : ∃ n, fuel = n + 1 := ⟨fuel - 1, by omega⟩
    have q : nI (e.W * e.H) ≤ nI i := nI_le (by omega) (by omega)
    rw [PL_X5_planes_j_1, L_X5_planes_j_1, pk_mul, if_pos q]
    exact ⟨fun z => absurd q z, by rw [show i = e.W * e.H by omega]⟩
  | succ d ih =>
    intro i fuel h1 h2
    obtain ⟨n, rfl⟩ : ∃ n, fuel = n + 1 := ⟨fuel - 1, by omega⟩
    have q : ¬ nI (e.W * e.H) ≤ nI i := nI_ge (by omega) (by omega)
    obtain ⟨a1, a2, a3⟩ := al_xy ok (show i < e.W * e.H by omega)
    have hc := ok.ab _ _ a1 a2
    rw [a3] at hc
    have l1 := orN_lt (f := e.al) (fun j => ok.a31 _ _) i
    have l2 : e.al i < 2 ^ 31 := ok.a31 _ _
    have hor : nI (orN e.al i) ||| nI (e.a (i % e.W) (i / e.W)) = nI (orN e.al (i + 1)) := i_or (b := e.al i) (by omega) (by omega)
    obtain ⟨t1, t2⟩ := ih (i + 1) n (by omega) (by omega)
    rw [PL_X5_planes_j_1, L_X5_planes_j_1, pk_mul, if_neg q, nI_clamp (by omega), hc, hor, ← nI_succ]
    exact ⟨fun _ => ⟨vp_in_nI (by omega) (by omega), t1⟩, t2⟩
theorem or_m {e : EnvB} (ok : e.Ok) : ∀ (d i fuel : Nat), i + d = e.W * e.H → d < fuel → PL_X11_count_j_1 (nI e.W) (nI e.H) 4096 e.mag fuel (nI (orN e.al i)) (nI i) ∧ (L_X11_count_j_1 (nI e.W) (nI e.H) e.mag fuel (nI (orN e.al i)) (nI i)).1 = nI (orN e.al (e.W * e.H)) := by
  have hwh := wh_le ok.W64 ok.H64
  intro d
  induction d with
  | zero =>
    intro i fuel h1 h2
    obtain ⟨n, rfl⟩ : ∃ n, fuel = n + 1 := ⟨fuel - 1, by omega⟩
    have q : nI (e.W * e.H) ≤ nI i := nI_le (by omega) (by omega)
    rw [PL_X11_count_j_1, L_X11_count_j_1, pk_mul, if_pos q]
    exact ⟨fun z => absurd q z, by rw [show i = e.W * e.H by omega]⟩
  | succ d ih =>
    intro i fuel h1 h2
    obtain ⟨n, rfl⟩ : ∃ n, fuel = n + 1 := ⟨fuel - 1, by omega⟩
    have q : ¬ nI (e.W * e.H) ≤ nI i := nI_ge (by omega) (by omega)
    obtain ⟨a1, a2, a3⟩ := al_xy ok (show i < e.W * e.H by omega)
    have hc := ok.mg _ _ a1 a2
    rw [a3] at hc
    have l1 := orN_lt (f := e.al) (fun j => ok.a31 _ _) i
    have l2 : e.al i < 2 ^ 31 := ok.a31 _ _
    have hor : nI (orN e.al i) ||| nI (e.a (i % e.W) (i / e.W)) = nI (orN e.al (i + 1)) := i_or (b := e.al i) (by omega) (by omega)
    obtain ⟨t1, t2⟩ := ih (i + 1) n (by omega) (by omega)
    rw [PL_X11_count_j_1, L_X11_count_j_1, pk_mul, if_neg q, nI_clamp (by omega), hc, hor, ← nI_succ]
    exact ⟨fun _ => ⟨vp_in_nI (by omega) (by omega), t1⟩, t2⟩
/-- how many bits a number has -/
def Bits (A B : Nat) : Prop := B ≤ 31 ∧ A < 2 ^ B ∧ ∀ p, p < B → 2 ^ p ≤ A
def lzS (A s w : Nat) (x : Int32 × Int32) : Prop := x = (nI (A / 2 ^ s), nI (31 - s)) ∧ 1 ≤ A / 2 ^ s ∧ A / 2 ^ s < 2 ^ w ∧ s + w ≤ 32
theorem lz_div (A s t : Nat) : A / 2 ^ s / 2 ^ t = A / 2 ^ (s + t) := by rw [Nat.div_div_eq_div_mul, ← Nat.pow_add]
theorem lz_up {A s t : Nat} (h : ¬ A / 2 ^ s < 2 ^ t) : 1 ≤ A / 2 ^ (s + t) := by
  rw [← lz_div]
  exact (Nat.le_div_iff_mul_le (Nat.two_pow_pos t)).mpr (by omega)
theorem lz_top {A s t : Nat} (h : A / 2 ^ s < 2 ^ (t + t)) : A / 2 ^ (s + t) < 2 ^ t := by
  rw [← lz_div]
  apply Nat.div_lt_of_lt_mul
  rw [← Nat.pow_add]; exact h
theorem lz16 {A : Nat} (h : A < 2 ^ 31) (h0 : 1 ≤ A) : ∃ s, lzS A s 16 (J_J6_numberOfLeadingZeros_0f7a4_j_3 (nI A)) := by
  unfold J_J6_numberOfLeadingZeros_0f7a4_j_3
  have e0 : A / 2 ^ 0 = A := by rw [Nat.pow_zero, Nat.div_one]
  by_cases c : A < 65536
  · have q : nI A < (65536 : Int32) := nI_lt (b := 65536) c (by omega)
    rw [if_pos q]
    exact ⟨0, by rw [e0]; rfl, by omega, by rw [e0]; exact c, by omega⟩
  · have q : ¬ nI A < (65536 : Int32) := nI_nlt (b := 65536) (by omega) (by omega)
    rw [if_neg q, pk_ushrN (by omega) 16 16 (by decide)]
    exact ⟨16, rfl, by omega, by omega, by omega⟩
theorem lz8 {A s : Nat} {x : Int32 × Int32} (h : lzS A s 16 x) : ∃ s, lzS A s 8 (J_J6_numberOfLeadingZeros_0f7a4_j_5 x) := by
  obtain ⟨e, h1, h2, h3⟩ := h
  subst e
  show ∃ s', lzS A s' 8 (if nI (A / 2 ^ s) < (256 : Int32) then (nI (A / 2 ^ s), nI (31 - s)) else (((nI (A / 2 ^ s)).toUInt32 >>> ((8 : Int32).toUInt32 &&& Int32.toUInt32 31)).toInt32, nI (31 - s) + (-8 : Int32)))
  by_cases c : A / 2 ^ s < 2 ^ 8
  · have q : nI (A / 2 ^ s) < (256 : Int32) := nI_lt (b := 256) c (by omega)
    rw [if_pos q]
    exact ⟨s, rfl, h1, c, by omega⟩
  · have q : ¬ nI (A / 2 ^ s) < (256 : Int32) := nI_nlt (b := 256) (by omega) (by omega)
    rw [if_neg q, pk_ushrN (by omega) 8 8 (by decide), lz_div]
    refine ⟨s + 8, ?_, lz_up c, lz_top h2, by omega⟩
    have e2 : nI (31 - s) + (-8 : Int32) = nI (31 - (s + 8)) := by rw [show nI (31 - s) + (-8 : Int32) = nI (31 - s) - nI 8 from (Int32.sub_eq_add_neg _ _).symm, pk_sub (by omega), show 31 - s - 8 = 31 - (s + 8) by omega]
    rw [e2]
theorem lz4 {A s : Nat} {x : Int32 × Int32} (h : lzS A s 8 x) : ∃ s, lzS A s 4 (J_J6_numberOfLeadingZeros_0f7a4_j_7 x) := by
  obtain ⟨e, h1, h2, h3⟩ := h
  subst e
  show ∃ s', lzS A s' 4 (if nI (A / 2 ^ s) < (16 : Int32) then (nI (A / 2 ^ s), nI (31 - s)) else (((nI (A / 2 ^ s)).toUInt32 >>> ((4 : Int32).toUInt32 &&& Int32.toUInt32 31)).toInt32, nI (31 - s) + (-4 : Int32)))
  by_cases c : A / 2 ^ s < 2 ^ 4
  · have q : nI (A / 2 ^ s) < (16 : Int32) := nI_lt (b := 16) c (by omega)
    rw [if_pos q]
    exact ⟨s, rfl, h1, c, by omega⟩
  · have q : ¬ nI (A / 2 ^ s) < (16 : Int32) := nI_nlt (b := 16) (by omega) (by omega)
    rw [if_neg q, pk_ushrN (by omega) 4 4 (by decide), lz_div]
    refine ⟨s + 4, ?_, lz_up c, lz_top h2, by omega⟩
    have e2 : nI (31 - s) + (-4 : Int32) = nI (31 - (s + 4)) := by rw [show nI (31 - s) + (-4 : Int32) = nI (31 - s) - nI 4 from (Int32.sub_eq_add_neg _ _).symm, pk_sub (by omega), show 31 - s - 4 = 31 - (s + 4) by omega]
    rw [e2]
theorem lz2 {A s : Nat} {x : Int32 × Int32} (h : lzS A s 4 x) : ∃ s, lzS A s 2 (J_J6_numberOfLeadingZeros_0f7a4_j_9 x) := by
  obtain ⟨e, h1, h2, h3⟩ := h
  subst e
  show ∃ s', lzS A s' 2 (if nI (A / 2 ^ s) < (4 : Int32) then (nI (A / 2 ^ s), nI (31 - s)) else (((nI (A / 2 ^ s)).toUInt32 >>> ((2 : Int32).toUInt32 &&& Int32.toUInt32 31)).toInt32, nI (31 - s) + (-2 : Int32)))
  by_cases c : A / 2 ^ s < 2 ^ 2
  · have q : nI (A / 2 ^ s) < (4 : Int32) := nI_lt (b := 4) c (by omega)
    rw [if_pos q]
    exact ⟨s, rfl, h1, c, by omega⟩
  · have q : ¬ nI (A / 2 ^ s) < (4 : Int32) := nI_nlt (b := 4) (by omega) (by omega)
    rw [if_neg q, pk_ushrN (by omega) 2 2 (by decide), lz_div]
    refine ⟨s + 2, ?_, lz_up c, lz_top h2, by omega⟩
    have e2 : nI (31 - s) + (-2 : Int32) = nI (31 - (s + 2)) := by rw [show nI (31 - s) + (-2 : Int32) = nI (31 - s) - nI 2 from (Int32.sub_eq_add_neg _ _).symm, pk_sub (by omega), show 31 - s - 2 = 31 - (s + 2) by omega]
    rw [e2]
theorem nlz_ok {A : Nat} (h : A < 2 ^ 31) : ∃ B, Bits A B ∧ (32 : Int32) - F_J6_numberOfLeadingZeros_0f7a4 (nI A) = nI B := by
  unfold F_J6_numberOfLeadingZeros_0f7a4
  by_cases c : A = 0
  · refine ⟨0, ⟨by omega, by rw [c]; decide, fun p hp => absurd hp (by omega)⟩, ?_⟩
    rw [c]; decide
  · have q0 : (0 : Int32) < nI A := nI_lt (a := 0) (by omega) (by omega)
    rw [if_pos q0]
    obtain ⟨s1, q1⟩ := lz16 h (by omega)
    obtain ⟨s2, q2⟩ := lz8 q1
    obtain ⟨s3, q3⟩ := lz4 q2
    obtain ⟨s, e, h1, h2, h3⟩ := lz2 q3
    have hs : s ≤ 30 := by omega
    show ∃ B, Bits A B ∧ (32 : Int32) - ((J_J6_numberOfLeadingZeros_0f7a4_j_9 (J_J6_numberOfLeadingZeros_0f7a4_j_7 (J_J6_numberOfLeadingZeros_0f7a4_j_5 (J_J6_numberOfLeadingZeros_0f7a4_j_3 (nI A))))).2 - ((J_J6_numberOfLeadingZeros_0f7a4_j_9 (J_J6_numberOfLeadingZeros_0f7a4_j_7 (J_J6_numberOfLeadingZeros_0f7a4_j_5 (J_J6_numberOfLeadingZeros_0f7a4_j_3 (nI A))))).1.toUInt32 >>> ((1 : Int32).toUInt32 &&& Int32.toUInt32 31)).toInt32) = nI B
    rw [e]
    show ∃ B, Bits A B ∧ (32 : Int32) - (nI (31 - s) - ((nI (A / 2 ^ s)).toUInt32 >>> ((1 : Int32).toUInt32 &&& Int32.toUInt32 31)).toInt32) = nI B
    rw [pk_ushrN (by omega) 1 1 (by decide), lz_div]
    have hd : A / 2 ^ (s + 1) = A / 2 ^ s / 2 := by rw [← lz_div]
    by_cases c2 : A / 2 ^ s < 2
    · have h4 : A < 2 ^ (s + 1) := by
        have := Nat.lt_mul_of_div_lt c2 (Nat.two_pow_pos s)
        rw [Nat.pow_succ, Nat.mul_comm]; omega
      have h5 : 2 ^ s ≤ A := by
        have := (Nat.le_div_iff_mul_le (Nat.two_pow_pos s)).mp h1
        omega
      refine ⟨s + 1, ⟨by omega, h4, fun p hp => Nat.le_trans (Nat.pow_le_pow_right (by omega) (show p ≤ s by omega)) h5⟩, ?_⟩
      rw [hd, show A / 2 ^ s / 2 = 0 by omega, pk_sub (by omega), show (32 : Int32) = nI 32 from rfl, pk_sub (by omega), show 32 - (31 - s - 0) = s + 1 by omega]
    · have h5 : 2 ^ (s + 1) ≤ A := by
        have := (Nat.le_div_iff_mul_le (Nat.two_pow_pos s)).mp (show 2 ≤ A / 2 ^ s by omega)
        rw [Nat.pow_succ, Nat.mul_comm]; exact this
      have h4 : A < 2 ^ (s + 2) := by
        have := Nat.lt_mul_of_div_lt h2 (Nat.two_pow_pos s)
        rw [Nat.pow_add, Nat.mul_comm]; exact this
      have hs2 : s ≤ 29 := by
        rcases Nat.lt_or_ge s 30 with q | q
        · omega
        · have := Nat.le_trans (Nat.pow_le_pow_right (show 1 ≤ 2 by omega) (show 31 ≤ s + 1 by omega)) h5
          omega
      refine ⟨s + 2, ⟨by omega, h4, fun p hp => Nat.le_trans (Nat.pow_le_pow_right (by omega) (show p ≤ s + 1 by omega)) h5⟩, ?_⟩
      rw [hd, show A / 2 ^ s / 2 = 1 by omega, pk_sub (by omega), show (32 : Int32) = nI 32 from rfl, pk_sub (by omega), show 32 - (31 - s - 1) = s + 2 by omega]
theorem cnt_loop {A B : Nat} (hA : A < 2 ^ 31) (hB : Bits A B) (x : Int32) : ∀ (d p fuel : Nat), p + d = B → d < fuel → PL_X11_count_j_4 (nI A, x) fuel (nI p) ∧ L_X11_count_j_4 (nI A, x) fuel (nI p) = nI B := by
  obtain ⟨b1, b2, b3⟩ := hB
  intro d
  induction d with
  | zero =>
    intro p fuel h1 h2
    obtain ⟨n, rfl⟩ : ∃ n, fuel = n + 1 := ⟨fuel - 1, by omega⟩
    have q : (nI A >>> (nI p &&& 31)) = (0 : Int32) := by
      rw [pk_shrN hA _ p (shp p (by omega)), Nat.div_eq_of_lt (by rw [show p = B by omega]; exact b2)]; rfl
    rw [PL_X11_count_j_4, L_X11_count_j_4, if_pos q]
    exact ⟨fun z => absurd q z, by rw [show p = B by omega]⟩
  | succ d ih =>
    intro p fuel h1 h2
    obtain ⟨n, rfl⟩ : ∃ n, fuel = n + 1 := ⟨fuel - 1, by omega⟩
    have hp : 1 ≤ A / 2 ^ p := (Nat.le_div_iff_mul_le (Nat.two_pow_pos p)).mpr (by have := b3 p (by omega); omega)
    have hlt : A / 2 ^ p < 2 ^ 31 := Nat.lt_of_le_of_lt (Nat.div_le_self _ _) hA
    have q : ¬ (nI A >>> (nI p &&& 31)) = (0 : Int32) := by
      rw [pk_shrN hA _ p (shp p (by omega))]
      exact nI_ne0 hp hlt
    obtain ⟨t1, t2⟩ := ih (p + 1) n (by omega) (by omega)
    rw [nI_succ] at t1 t2
    rw [PL_X11_count_j_4, L_X11_count_j_4, if_neg q]
    exact ⟨fun _ => t1, t2⟩
def psN (P : Nat) : Nat := if P = 0 then 0 else 3 * P - 2
theorem psN_ok {P : Nat} (hP : P < 32) : J_X6_lay_j_2 (nI P) = nI (psN P) ∧ (if nI P = (0 : Int32) then (nI P, (0 : Int32)) else (nI P, (3 : Int32) * nI P - (2 : Int32))) = (nI P, nI (psN P)) ∧ (psN P = 0 ∨ psN P + 2 = 3 * P) ∧ psN P ≤ 91 := by
  unfold J_X6_lay_j_2 psN
  by_cases c : P = 0
  · subst c; exact ⟨rfl, rfl, Or.inl rfl, by decide⟩
  · have q : ¬ nI P = (0 : Int32) := nI_ne0 (by omega) (by omega)
    have e : (3 : Int32) * nI P - (2 : Int32) = nI (3 * P - 2) := by rw [show (3 : Int32) = nI 3 from rfl, pk_mul, show (2 : Int32) = nI 2 from rfl, pk_sub (by omega)]
    rw [if_neg q, if_neg q, if_neg c, e]
    exact ⟨rfl, rfl, Or.inr (by omega), by omega⟩
theorem planes_ok {e : EnvB} (ok : e.Ok) : ∃ P, P < 32 ∧ P_X5_planes (nI e.W) (nI e.H) e.cn e.coef ∧ F_X5_planes (nI e.W) (nI e.H) e.coef = nI P ∧ P_X11_count (nI e.W) (nI e.H) 4096 e.mag ∧ F_X11_count (nI e.W) (nI e.H) e.mag = (nI P, nI (psN P)) := by
  have hfu := fu_ge
  have hwh := wh_le ok.W64 ok.H64
  have hA := orN_lt (f := e.al) (fun j => ok.a31 _ _) (e.W * e.H)
  obtain ⟨B, hB, hB2⟩ := nlz_ok hA
  have hB31 := hB.1
  obtain ⟨s1, s2⟩ := or_c ok (e.W * e.H) 0 fu (by omega) (by omega)
  obtain ⟨t1, t2⟩ := or_m ok (e.W * e.H) 0 fu (by omega) (by omega)
  have z0 : nI (orN e.al 0) = 0 := rfl
  rw [z0, nI_0] at s1 s2 t1 t2
  have hx : ∀ y : Int32 × Int32, y = (y.1, y.2) := fun _ => rfl
  have e4 := hx (L_X11_count_j_1 (nI e.W) (nI e.H) e.mag fu 0 0)
  rw [t2] at e4
  obtain ⟨c1, c2⟩ := cnt_loop hA hB (L_X11_count_j_1 (nI e.W) (nI e.H) e.mag fu 0 0).2 B 0 fu (by omega) (by omega)
  rw [nI_0, ← e4] at c1 c2
  refine ⟨B, by omega, s1, ?_, ⟨t1, fun j hj => ?_⟩, ?_⟩
  · unfold F_X5_planes
    simp only [s2]
    exact hB2
  · rw [← hj]; exact c1
  · unfold F_X11_count
    simp only [c2]
    exact (psN_ok (by omega)).2.1
theorem clear_ok {W H P T bn : Nat} {bf : Nat → Int32} (hW : W ≤ 64) (hH : H ≤ 64) (hP : P < 32) (hT : T ≤ 91) (hb : 16 ≤ bn) (hb2 : bn ≤ 131072) :
    P_X1_clear (nI W * nI H) (nI P) (nI T) bn ∧ ∃ (bn' : Nat) (bf' : Nat → Int32), F_X1_clear (nI W * nI H) (nI P) (nI T) bn bf = (0, 0, bn', bf') ∧ 16 ≤ bn' ∧ bn' ≤ 131072 ∧ bn ≤ bn' ∧ D_X1_clear (nI W * nI H) (nI P) (nI T) bn + 3 * bn ≤ 3 * bn' := by
  have hwh := wh_le hW hH
  have h1 : W * H * (P + 2) ≤ 4096 * 33 := Nat.mul_le_mul hwh (by omega)
  have e : (nI W * nI H * (nI P + 2)) / 7 + 4 * nI T = nI (W * H * (P + 2) / 7 + 4 * T) := by
    rw [pk_mul, show nI P + 2 = nI (P + 2) from nI_add P 2, pk_mul, show (7 : Int32) = nI 7 from rfl, pk_div (by omega) (by omega) (by omega), show (4 : Int32) = nI 4 from rfl, pk_mul, nI_add]
  have e2 : (2 : Int32) * nI bn = nI (2 * bn) := pk_mul 2 bn
  have hN : W * H * (P + 2) / 7 + 4 * T ≤ 20000 := by omega
  generalize W * H * (P + 2) / 7 + 4 * T = N at *
  unfold P_X1_clear F_X1_clear D_X1_clear
  rw [e, e2]
  by_cases c : N ≤ bn
  · have q : nI N ≤ nI bn := nI_le c (by omega)
    rw [if_pos q, if_pos q]
    exact ⟨fun z => absurd q z, bn, bf, rfl, hb, hb2, Nat.le_refl _, by omega⟩
  · have q : ¬ nI N ≤ nI bn := nI_ge (by omega) (by omega)
    rw [if_neg q, if_neg q]
    have hm : ∃ L, (if nI N < nI (2 * bn) then nI (2 * bn) else nI N) = nI L ∧ 2 * bn ≤ L ∧ L ≤ 40000 := by
      by_cases c2 : N < 2 * bn
      · rw [if_pos (nI_lt c2 (by omega))]; exact ⟨2 * bn, rfl, by omega, by omega⟩
      · rw [if_neg (nI_nlt (by omega) (by omega))]; exact ⟨N, rfl, by omega, by omega⟩
    obtain ⟨L, l1, l2, l3⟩ := hm
    rw [l1, nI_clamp (by omega)]
    exact ⟨fun _ => ⟨nI_pos (by omega), by omega⟩, L, fun _ => 0, rfl, by omega, by omega, by omega, by omega⟩
/-! nothing is known -/
def g0 : GF := (fun _ _ => false, fun _ _ => false, fun _ _ => 0, fun _ _ => 0, fun _ _ => false, fun _ _ => false)
theorem mark0 (cz : Bool) (x y : Nat) : markN cz g0 x y = 0 := by
  have hs : ∀ x y, s1 g0 x y = 0 := fun _ _ => rfl
  have hm : ∀ x y, m1 g0 x y = 0 := fun _ _ => rfl
  unfold markN hC vC dC hM vM
  simp only [hs, hm, ite_self]
  rfl
theorem known_loop : ∀ (d i fuel : Nat) (k b l ea ag : Nat → Int32), i + d = 4096 → d < fuel → PL_X11_clearKnown_j_1 4096 4096 4096 4096 4096 fuel (nI i) k b l ea ag ∧ (L_X11_clearKnown_j_1 fuel (nI i) k b l ea ag).2 = (fun j => if i ≤ j ∧ j < 4096 then 0 else k j, fun j => if i ≤ j ∧ j < 4096 then 0 else b j, fun j => if i ≤ j ∧ j < 4096 then 0 else l j, fun j => if i ≤ j ∧ j < 4096 then -1 else ea j, fun j => if i ≤ j ∧ j < 4096 then 0 else ag j) := by
  intro d
  induction d with
  | zero =>
    intro i fuel k b l ea ag h1 h2
    obtain ⟨n, rfl⟩ : ∃ n, fuel = n + 1 := ⟨fuel - 1, by omega⟩
    have q : (4096 : Int32) ≤ nI i := nI_le (a := 4096) (by omega) (by omega)
    rw [PL_X11_clearKnown_j_1, L_X11_clearKnown_j_1, if_pos q]
    refine ⟨fun z => absurd q z, ?_⟩
    have hn : ∀ j, ¬ (i ≤ j ∧ j < 4096) := fun j => by omega
    simp only [hn, if_false]
  | succ d ih =>
    intro i fuel k b l ea ag h1 h2
    obtain ⟨n, rfl⟩ : ∃ n, fuel = n + 1 := ⟨fuel - 1, by omega⟩
    have q : ¬ (4096 : Int32) ≤ nI i := nI_ge (b := 4096) (by omega) (by omega)
    have e0 : vp_nar .boolean (0 : Int32) = 0 := rfl
    obtain ⟨t1, t2⟩ := ih (i + 1) n (upd k i 0) (upd b i 0) (upd l i 0) (upd ea i (-1)) (upd ag i 0) (by omega) (by omega)
    rw [nI_succ] at t1 t2
    rw [PL_X11_clearKnown_j_1, L_X11_clearKnown_j_1, if_neg q, nI_clamp (by omega), e0]
    have hi : vp_in (nI i) 4096 := vp_in_nI (by omega) (by omega)
    refine ⟨fun _ => ⟨hi, hi, hi, hi, hi, t1⟩, ?_⟩
    rw [t2]
    have hf : ∀ (f : Nat → Int32) (x : Int32), (fun j => if i + 1 ≤ j ∧ j < 4096 then x else upd f i x j) = fun j => if i ≤ j ∧ j < 4096 then x else f j := by
      intro f x
      funext j
      by_cases c : j = i
      · subst c; rw [if_neg (by omega), if_pos (by omega), pk_us]
      · rw [pk_un c]
        by_cases c2 : i + 1 ≤ j ∧ j < 4096
        · rw [if_pos c2, if_pos (by omega)]
        · rw [if_neg c2, if_neg (by omega)]
    rw [hf, hf, hf, hf, hf]
/-- both sides' fields, cleared -/
theorem fresh {e : EnvB} (ok : e.Ok) {p : Nat} (hp : p ≤ 30) (mags marks k b l ea ag : Nat → Int32) :
    P_X5_forget e.gn mags e.kn marks ∧ P_X11_clearKnown 4096 k 4096 b 4096 l 4096 ea 4096 ag ∧ ∃ (mags' marks' k' b' l' ea' ag' : Nat → Int32), F_X5_forget e.gn mags e.kn marks = (mags', marks') ∧ F_X11_clearKnown k b l ea ag = (k', b', l', ea', ag') ∧ Fld e.W e.H (czOf e.sty) p g0 mags' marks' k' b' l' ea' ag' := by
  have hfu := fu_ge
  have hwh := wh_le ok.W64 ok.H64
  have hgl := ok.gnl
  have hgu := ok.gnu
  have hkl := ok.knl
  have hku := ok.knu
  obtain ⟨f1, f2⟩ := fill_ok 0 (N := e.gn) (by omega) mags
  obtain ⟨f3, f4⟩ := fill_ok 0 (N := e.kn) (by omega) marks
  obtain ⟨t1, t2⟩ := known_loop 4096 0 fu k b l ea ag (by omega) (by omega)
  rw [nI_0] at t1 t2
  refine ⟨⟨f1, fun _ _ => f3⟩, t1, _, _, _, _, _, _, _, rfl, rfl, ?_⟩
  simp only [f2, f4, t2]
  have hin : ∀ {x y : Nat}, x < e.W → y < e.H → y * e.W + x < e.W * e.H := fun hx hy => plc hx hy
  have hin2 : ∀ {x y : Nat}, x < e.W → y < e.H → 0 ≤ y * e.W + x ∧ y * e.W + x < 4096 := fun hx hy => by have := plc hx hy; omega
  refine ⟨fun _ _ z => (by cases z), fun _ _ z => (by cases z), fun x y hx hy => ?_, fun x y hx hy => ?_, fun x y hx hy => ?_, fun x y hx hy => ?_, fun x y hx hy => ?_, fun x y hx hy => ?_, fun x y hx hy => ?_, fun x y => ?_, fun x y => ?_, fun x y hx hy => ?_⟩
  · dsimp only
    rw [if_pos (by have := hin hx hy; omega), mark0]; rfl
  · dsimp only
    rw [if_pos (by have := hin hx hy; omega)]; rfl
  · dsimp only
    rw [if_pos (hin2 hx hy)]; rfl
  · dsimp only
    rw [if_pos (hin2 hx hy)]; rfl
  · dsimp only
    rw [if_pos (hin2 hx hy)]; rfl
  · dsimp only
    rw [if_pos (hin2 hx hy)]
    exact ⟨fun z => absurd z.symm (neg1 (by omega)), fun z => by cases z⟩
  · dsimp only
    rw [if_pos (hin2 hx hy)]; rfl
  · exact ⟨fun _ => rfl, fun _ => rfl⟩
  · exact ⟨by show (0 : Nat) < _; omega, by show 0 % _ = 0; rw [Nat.zero_mod], by show (0 : Nat) ≤ 30; omega, fun z => by cases z⟩
  · dsimp only
    rw [if_pos (hin2 hx hy)]; exact Or.inl rfl
