/-! ===== PURE: the reference counts neighbours ===== -/
def svI (G : GF) (x y : Nat) : Int32 := if G.sg x y then (if G.ng x y then -1 else 1) else 0
def svO (c : Bool) (G : GF) (x y : Nat) : Int32 := if c then svI G x y else 0
theorem plc {x y W H : Nat} (hx : x < W) (hy : y < H) : y * W + x < W * H := by
  have h1 : y * W ≤ (H - 1) * W := Nat.mul_le_mul_right _ (by omega)
  have h2 : (H - 1) * W + W = W * H := by
    rw [Nat.mul_comm W H]
    obtain ⟨q, rfl⟩ : ∃ q, H = q + 1 := ⟨H - 1, by omega⟩
    rw [Nat.add_sub_cancel, Nat.succ_mul]
  omega
theorem wh_le {W H : Nat} (hW : W ≤ 64) (hH : H ≤ 64) : W * H ≤ 4096 := Nat.le_trans (Nat.mul_le_mul hW hH) (by omega)
theorem place_ok (x y W : Nat) : F_X5_place (nI x) (nI y) (nI W) = nI (y * W + x) := by
  unfold F_X5_place
  rw [pk_mul, nI_add]
theorem plc_inj {x y x' y' W : Nat} (hx : x < W) (hx' : x' < W) (h : y * W + x = y' * W + x') : x = x' ∧ y = y' := by
  have h1 : (y * W + x) % W = x := by rw [Nat.mul_comm, Nat.mul_add_mod, Nat.mod_eq_of_lt hx]
  have h2 : (y' * W + x') % W = x' := by rw [Nat.mul_comm, Nat.mul_add_mod, Nat.mod_eq_of_lt hx']
  have h3 : x = x' := by rw [← h1, h, h2]
  subst h3
  have h4 : y * W = y' * W := by omega
  exact ⟨rfl, Nat.eq_of_mul_eq_mul_right (by omega) h4⟩
/-- style has the part 'causal' -/
def czOf (sty : Int32) : Bool := !decide ((sty &&& (8 : Int32)) = (0 : Int32))
/-- what both sides know of the field -/
def Fld (W H : Nat) (cz : Bool) (p : Nat) (G : GF) (mags marks known below latest early again : Nat → Int32) : Prop :=
  (∀ x y, G.sg x y = true → x < W ∧ y < H) ∧
  (∀ x y, G.ng x y = true → G.sg x y = true) ∧
  (∀ x y, x < W → y < H → marks (y * W + x) = nI (markN cz G x y)) ∧
  (∀ x y, x < W → y < H → mags (y * W + x) = nI (G.kn x y)) ∧
  (∀ x y, x < W → y < H → known (y * W + x) = nI (G.kn x y)) ∧
  (∀ x y, x < W → y < H → below (y * W + x) = bI (G.ng x y)) ∧
  (∀ x y, x < W → y < H → latest (y * W + x) = nI (G.lt x y)) ∧
  (∀ x y, x < W → y < H → (early (y * W + x) = nI p ↔ G.sn x y = true)) ∧
  (∀ x y, x < W → y < H → again (y * W + x) = bI (G.ag x y)) ∧
  (∀ x y, G.kn x y = 0 ↔ G.sg x y = false) ∧
  (∀ x y, G.kn x y < 2 ^ 31 ∧ G.kn x y % 2 ^ G.lt x y = 0 ∧ G.lt x y ≤ 30 ∧ (G.sg x y = true → p ≤ G.lt x y)) ∧
  (∀ x y, x < W → y < H → early (y * W + x) = (-1 : Int32) ∨ ∃ k, p ≤ k ∧ k ≤ 30 ∧ early (y * W + x) = nI k)
theorem Fld.rg {W H : Nat} {cz : Bool} {p : Nat} {G : GF} {mags marks known below latest early again : Nat → Int32} (h : Fld W H cz p G mags marks known below latest early again) : ∀ x y, G.sg x y = true → x < W ∧ y < H := h.1
theorem Fld.neg {W H : Nat} {cz : Bool} {p : Nat} {G : GF} {mags marks known below latest early again : Nat → Int32} (h : Fld W H cz p G mags marks known below latest early again) : ∀ x y, G.ng x y = true → G.sg x y = true := h.2.1
theorem Fld.mr {W H : Nat} {cz : Bool} {p : Nat} {G : GF} {mags marks known below latest early again : Nat → Int32} (h : Fld W H cz p G mags marks known below latest early again) : ∀ x y, x < W → y < H → marks (y * W + x) = nI (markN cz G x y) := h.2.2.1
theorem Fld.mg {W H : Nat} {cz : Bool} {p : Nat} {G : GF} {mags marks known below latest early again : Nat → Int32} (h : Fld W H cz p G mags marks known below latest early again) : ∀ x y, x < W → y < H → mags (y * W + x) = nI (G.kn x y) := h.2.2.2.1
theorem Fld.kn {W H : Nat} {cz : Bool} {p : Nat} {G : GF} {mags marks known below latest early again : Nat → Int32} (h : Fld W H cz p G mags marks known below latest early again) : ∀ x y, x < W → y < H → known (y * W + x) = nI (G.kn x y) := h.2.2.2.2.1
theorem Fld.bl {W H : Nat} {cz : Bool} {p : Nat} {G : GF} {mags marks known below latest early again : Nat → Int32} (h : Fld W H cz p G mags marks known below latest early again) : ∀ x y, x < W → y < H → below (y * W + x) = bI (G.ng x y) := h.2.2.2.2.2.1
theorem Fld.la {W H : Nat} {cz : Bool} {p : Nat} {G : GF} {mags marks known below latest early again : Nat → Int32} (h : Fld W H cz p G mags marks known below latest early again) : ∀ x y, x < W → y < H → latest (y * W + x) = nI (G.lt x y) := h.2.2.2.2.2.2.1
theorem Fld.ea {W H : Nat} {cz : Bool} {p : Nat} {G : GF} {mags marks known below latest early again : Nat → Int32} (h : Fld W H cz p G mags marks known below latest early again) : ∀ x y, x < W → y < H → (early (y * W + x) = nI p ↔ G.sn x y = true) := h.2.2.2.2.2.2.2.1
theorem Fld.ag {W H : Nat} {cz : Bool} {p : Nat} {G : GF} {mags marks known below latest early again : Nat → Int32} (h : Fld W H cz p G mags marks known below latest early again) : ∀ x y, x < W → y < H → again (y * W + x) = bI (G.ag x y) := h.2.2.2.2.2.2.2.2.1
theorem Fld.k0 {W H : Nat} {cz : Bool} {p : Nat} {G : GF} {mags marks known below latest early again : Nat → Int32} (h : Fld W H cz p G mags marks known below latest early again) : ∀ x y, G.kn x y = 0 ↔ G.sg x y = false := h.2.2.2.2.2.2.2.2.2.1
theorem Fld.kb {W H : Nat} {cz : Bool} {p : Nat} {G : GF} {mags marks known below latest early again : Nat → Int32} (h : Fld W H cz p G mags marks known below latest early again) : ∀ x y, G.kn x y < 2 ^ 31 ∧ G.kn x y % 2 ^ G.lt x y = 0 ∧ G.lt x y ≤ 30 ∧ (G.sg x y = true → p ≤ G.lt x y) := h.2.2.2.2.2.2.2.2.2.2.1
theorem Fld.er {W H : Nat} {cz : Bool} {p : Nat} {G : GF} {mags marks known below latest early again : Nat → Int32} (h : Fld W H cz p G mags marks known below latest early again) : ∀ x y, x < W → y < H → early (y * W + x) = (-1 : Int32) ∨ ∃ k, p ≤ k ∧ k ≤ 30 ∧ early (y * W + x) = nI k := h.2.2.2.2.2.2.2.2.2.2.2
section
variable {W H p : Nat} {G : GF} {sty : Int32} {mags marks known below latest early again : Nat → Int32}
theorem cnt_ok (hf : Fld W H (czOf sty) p G mags marks known below latest early again) (hW : W ≤ 64) (hH : H ≤ 64) {p1 p2 : Int32} {a b : Int} {e : Nat} (h1 : p1.toInt = a) (h2 : p2.toInt = b) (he : e ≤ 68) (ha : -1 ≤ a) (ha' : a ≤ 64) (hb : -1 ≤ b) (hb' : b ≤ 64) :
    P_X11_counts p1 p2 (nI e) (nI W) (nI H) sty 4096 known 4096 ∧ F_X11_counts p1 p2 (nI e) (nI W) (nI H) sty known below = svO (decide (0 ≤ a ∧ 0 ≤ b ∧ (czOf sty = true → b < (e : Int)))) G a.toNat b.toNat := by
  have hwh := wh_le hW hH
  by_cases c1 : a < 0
  · have q : p1 < (0 : Int32) := by rw [Int32.lt_iff_toInt_lt, h1]; exact c1
    unfold P_X11_counts F_X11_counts svO
    rw [if_pos q, decide_eq_false (by omega)]
    exact ⟨fun x => absurd q x, rfl⟩
  · have q1 : ¬ p1 < (0 : Int32) := by rw [Int32.lt_iff_toInt_lt, h1]; exact c1
    obtain ⟨x, rfl⟩ : ∃ x : Nat, a = x := ⟨a.toNat, by omega⟩
    have ex : p1 = nI x := Int32.toInt_inj.mp (by rw [h1, nI_toInt (by omega)])
    subst ex
    by_cases c2 : W ≤ x
    · have q : nI W ≤ nI x := nI_le c2 (by omega)
      have hs : G.sg x b.toNat = false := by
        cases hq : G.sg x b.toNat with
        | false => rfl
        | true => have := hf.rg _ _ hq; omega
      unfold P_X11_counts F_X11_counts svO svI
      rw [if_neg q1, if_pos q, Int.toNat_natCast, hs]
      refine ⟨fun _ y => absurd q y, ?_⟩
      split <;> rfl
    · have q2 : ¬ nI W ≤ nI x := nI_ge (by omega) (by omega)
      by_cases c3 : b < 0
      · have q : p2 < (0 : Int32) := by rw [Int32.lt_iff_toInt_lt, h2]; exact c3
        unfold P_X11_counts F_X11_counts svO
        rw [if_neg q1, if_neg q2, if_pos q, decide_eq_false (by omega)]
        exact ⟨fun _ _ y => absurd q y, rfl⟩
      · have q3 : ¬ p2 < (0 : Int32) := by rw [Int32.lt_iff_toInt_lt, h2]; exact c3
        obtain ⟨y, rfl⟩ : ∃ y : Nat, b = y := ⟨b.toNat, by omega⟩
        have ey : p2 = nI y := Int32.toInt_inj.mp (by rw [h2, nI_toInt (by omega)])
        subst ey
        rw [Int.toNat_natCast, Int.toNat_natCast]
        by_cases c4 : H ≤ y
        · have q : nI H ≤ nI y := nI_le c4 (by omega)
          have hs : G.sg x y = false := by
            cases hq : G.sg x y with
            | false => rfl
            | true => have := hf.rg _ _ hq; omega
          unfold P_X11_counts F_X11_counts svO svI
          rw [if_neg q1, if_neg q2, if_neg q3, if_pos q, hs]
          refine ⟨fun _ _ _ y => absurd q y, ?_⟩
          split <;> rfl
        · have q4 : ¬ nI H ≤ nI y := nI_ge (by omega) (by omega)
          have hp := plc (show x < W by omega) (show y < H by omega)
          have hpl : nI y * nI W + nI x = nI (y * W + x) := by rw [pk_mul, nI_add]
          have hin : vp_in (nI y * nI W + nI x) 4096 := by rw [hpl]; exact vp_in_nI (by omega) (by decide)
          have hkn := hf.kn x y (by omega) (by omega)
          have hbl := hf.bl x y (by omega) (by omega)
          have hk0 := hf.k0 x y
          have hkb := (hf.kb x y).1
          have hng := hf.neg x y
          have hval : (if known (nI y * nI W + nI x).toNatClampNeg = (0 : Int32) then (0 : Int32) else (if below (nI y * nI W + nI x).toNatClampNeg = (0 : Int32) then (1 : Int32) else (-1 : Int32))) = svI G x y := by
            rw [hpl, nI_clamp (by omega), hkn, hbl]
            unfold svI
            cases hq : G.sg x y with
            | false =>
              have : G.kn x y = 0 := hk0.mpr hq
              rw [this]; rfl
            | true =>
              have : G.kn x y ≠ 0 := fun z => by rw [hk0.mp z] at hq; cases hq
              rw [if_neg (nI_ne0 (by omega) hkb)]
              cases G.ng x y <;> rfl
          unfold P_X11_counts F_X11_counts svO
          rw [if_neg q1, if_neg q2, if_neg q3, if_neg q4, hval]
          refine ⟨fun _ _ _ _ => ⟨fun _ => ⟨hin, fun _ => hin⟩, fun _ _ => ⟨hin, fun _ => hin⟩⟩, ?_⟩
          by_cases c5 : (sty &&& (8 : Int32)) = (0 : Int32)
          · have hz : czOf sty = false := by unfold czOf; rw [decide_eq_true c5]; rfl
            rw [if_pos c5, hz, decide_eq_true ⟨by omega, by omega, fun x => absurd x (by decide)⟩]
            rfl
          · have hz : czOf sty = true := by unfold czOf; rw [decide_eq_false c5]; rfl
            rw [if_neg c5, hz]
            by_cases c6 : y < e
            · rw [if_pos (nI_lt c6 (by omega)), decide_eq_true ⟨by omega, by omega, fun _ => by omega⟩]
              rfl
            · rw [if_neg (nI_nlt (by omega) (by omega)), decide_eq_false (fun x => by have := x.2.2 rfl; omega)]
              rfl
end
theorem sv_sq (c : Bool) (G : GF) (x y : Nat) : svO c G x y * svO c G x y = nI (if c then s1 G x y else 0) := by
  unfold svO svI s1
  cases c <;> cases G.sg x y <;> cases G.ng x y <;> rfl
theorem sv_sum (c c' : Bool) (G : GF) (x y x' y' : Nat) : (if (svO c G x y + svO c' G x' y') ≤ (1 : Int32) then (if (-1 : Int32) ≤ (svO c G x y + svO c' G x' y') then (svO c G x y + svO c' G x' y') else (-1 : Int32)) else (1 : Int32)) = sgnI ((if c then s1 G x y else 0) + (if c' then s1 G x' y' else 0)) ((if c then m1 G x y else 0) + (if c' then m1 G x' y' else 0)) := by
  unfold svO svI s1 m1
  cases c <;> cases c' <;> cases G.sg x y <;> cases G.ng x y <;> cases G.sg x' y' <;> cases G.ng x' y' <;> decide
theorem tI_add1 {x : Nat} (h : x < 2 ^ 20) : (nI x + (1 : Int32)).toInt = (x : Int) + 1 := by rw [← nI_succ, nI_toInt (by omega)]; omega
theorem tI_add0 {x : Nat} (h : x < 2 ^ 20) : (nI x + (0 : Int32)).toInt = (x : Int) := by rw [Int32.add_zero, nI_toInt (by omega)]
theorem tI_sub0 {x : Nat} (h : x < 2 ^ 20) : (nI x - (0 : Int32)).toInt = (x : Int) := by rw [Int32.sub_zero, nI_toInt (by omega)]
theorem tI_sub1 {x : Nat} (h : x < 2 ^ 20) : (nI x - (1 : Int32)).toInt = (x : Int) - 1 := by
  have := pk_sub_toInt (a := x) (b := 1) (by omega) (by omega)
  exact this
theorem tI_addm {x : Nat} (h : x < 2 ^ 20) : (nI x + (-1 : Int32)).toInt = (x : Int) - 1 := by
  have e : nI x + (-1 : Int32) = nI x - (1 : Int32) := (Int32.sub_eq_add_neg _ _).symm
  rw [e, tI_sub1 h]
theorem tI_subm {x : Nat} (h : x < 2 ^ 20) : (nI x - (-1 : Int32)).toInt = (x : Int) + 1 := by
  have e : nI x - (-1 : Int32) = nI x + (1 : Int32) := by rw [Int32.sub_eq_add_neg]; rfl
  rw [e, tI_add1 h]
theorem ite_b {c : Prop} [Decidable c] {c' : Prop} [Decidable c'] (h : c ↔ c') (u v : Nat) : (if decide c then u else v) = if c' then u else v := by
  by_cases q : c
  · rw [decide_eq_true q, if_pos rfl, if_pos (h.mp q)]
  · rw [decide_eq_false q, if_neg (by decide), if_neg (fun z => q (h.mpr z))]
theorem vis_iff {cz : Bool} {y : Nat} : vis cz y = true ↔ (cz = true → (y : Int) + 1 < ((y / 4 * 4 + 4 : Nat) : Int)) := by
  unfold vis
  cases cz with
  | false => simp
  | true =>
    simp
    omega
theorem endI (y : Nat) (h : y < 2 ^ 20) : ((nI y / (4 : Int32)) * (4 : Int32)) + (4 : Int32) = nI (y / 4 * 4 + 4) := by
  have e1 : nI y / (4 : Int32) = nI (y / 4) := pk_div (d := 4) (by omega) (by omega) (by omega)
  have e2 : nI (y / 4) * (4 : Int32) = nI (y / 4 * 4) := pk_mul (y / 4) 4
  have e3 : nI (y / 4 * 4) + (4 : Int32) = nI (y / 4 * 4 + 4) := nI_add _ 4
  rw [e1, e2, e3]
section
variable {W H p : Nat} {G : GF} {sty : Int32} {mags marks known below latest early again : Nat → Int32}
/-- two opposite neighbours -/
theorem pair_ok (hf : Fld W H (czOf sty) p G mags marks known below latest early again) (hW : W ≤ 64) (hH : H ≤ 64) {x y : Nat} (hx : x < W) (hy : y < H) {q1 q2 q3 q4 : Int32} {a b a' b' : Int} (h1 : q1.toInt = a) (h2 : q2.toInt = b) (h3 : q3.toInt = a') (h4 : q4.toInt = b') (ra : -1 ≤ a ∧ a ≤ 64) (rb : -1 ≤ b ∧ b ≤ 64) (ra' : -1 ≤ a' ∧ a' ≤ 64) (rb' : -1 ≤ b' ∧ b' ≤ 64) (dx dy : Int32) (e1 : nI x + dx = q1) (e2 : nI y + dy = q2) (e3 : nI x - dx = q3) (e4 : nI y - dy = q4) :
    P_X11_many (nI x) (nI y) dx dy (nI W) (nI H) sty 4096 known 4096 below ∧ F_X11_many (nI x) (nI y) dx dy (nI W) (nI H) sty known below = nI ((if decide (0 ≤ a ∧ 0 ≤ b ∧ (czOf sty = true → b < ((y / 4 * 4 + 4 : Nat) : Int))) then s1 G a.toNat b.toNat else 0) + (if decide (0 ≤ a' ∧ 0 ≤ b' ∧ (czOf sty = true → b' < ((y / 4 * 4 + 4 : Nat) : Int))) then s1 G a'.toNat b'.toNat else 0)) ∧
    P_X11_sum (nI x) (nI y) dx dy (nI W) (nI H) sty 4096 known 4096 below ∧ F_X11_sum (nI x) (nI y) dx dy (nI W) (nI H) sty known below = sgnI ((if decide (0 ≤ a ∧ 0 ≤ b ∧ (czOf sty = true → b < ((y / 4 * 4 + 4 : Nat) : Int))) then s1 G a.toNat b.toNat else 0) + (if decide (0 ≤ a' ∧ 0 ≤ b' ∧ (czOf sty = true → b' < ((y / 4 * 4 + 4 : Nat) : Int))) then s1 G a'.toNat b'.toNat else 0)) ((if decide (0 ≤ a ∧ 0 ≤ b ∧ (czOf sty = true → b < ((y / 4 * 4 + 4 : Nat) : Int))) then m1 G a.toNat b.toNat else 0) + (if decide (0 ≤ a' ∧ 0 ≤ b' ∧ (czOf sty = true → b' < ((y / 4 * 4 + 4 : Nat) : Int))) then m1 G a'.toNat b'.toNat else 0)) := by
  have he : y / 4 * 4 + 4 ≤ 68 := by omega
  obtain ⟨u1, u2⟩ := cnt_ok hf hW hH h1 h2 he ra.1 ra.2 rb.1 rb.2
  obtain ⟨v1, v2⟩ := cnt_ok hf hW hH h3 h4 he ra'.1 ra'.2 rb'.1 rb'.2
  unfold P_X11_many F_X11_many P_X11_sum F_X11_sum
  rw [endI y (by omega), e1, e2, e3, e4, u2, v2]
  refine ⟨⟨u1, fun _ _ => v1⟩, ?_, ⟨u1, fun _ _ => v1⟩, ?_⟩
  · show _ * _ + _ * _ = _
    rw [sv_sq, sv_sq, nI_add]
  · exact sv_sum _ _ G _ _ _ _
theorem many_h (hf : Fld W H (czOf sty) p G mags marks known below latest early again) (hW : W ≤ 64) (hH : H ≤ 64) {x y : Nat} (hx : x < W) (hy : y < H) : P_X11_many (nI x) (nI y) 1 0 (nI W) (nI H) sty 4096 known 4096 below ∧ F_X11_many (nI x) (nI y) 1 0 (nI W) (nI H) sty known below = nI (hC G x y) ∧ P_X11_sum (nI x) (nI y) 1 0 (nI W) (nI H) sty 4096 known 4096 below ∧ F_X11_sum (nI x) (nI y) 1 0 (nI W) (nI H) sty known below = sgnI (hC G x y) (hM G x y) := by
  have key := pair_ok hf hW hH hx hy (tI_add1 (show x < 2 ^ 20 by omega)) (tI_add0 (show y < 2 ^ 20 by omega)) (tI_sub1 (show x < 2 ^ 20 by omega)) (tI_sub0 (show y < 2 ^ 20 by omega)) (by omega) (by omega) (by omega) (by omega) 1 0 rfl rfl rfl rfl
  have c1 : (0 ≤ (x : Int) + 1 ∧ 0 ≤ (y : Int) ∧ (czOf sty = true → (y : Int) < ((y / 4 * 4 + 4 : Nat) : Int))) ↔ True := ⟨fun _ => trivial, fun _ => ⟨by omega, by omega, fun _ => by omega⟩⟩
  have c2 : (0 ≤ (x : Int) - 1 ∧ 0 ≤ (y : Int) ∧ (czOf sty = true → (y : Int) < ((y / 4 * 4 + 4 : Nat) : Int))) ↔ 1 ≤ x := ⟨fun z => by omega, fun _ => ⟨by omega, by omega, fun _ => by omega⟩⟩
  rw [ite_b c1, ite_b c2, ite_b c1, ite_b c2, if_pos trivial, if_pos trivial, show ((x : Int) + 1).toNat = x + 1 by omega, show ((x : Int) - 1).toNat = x - 1 by omega, Int.toNat_natCast, Nat.add_comm, Nat.add_comm (m1 G (x + 1) y)] at key
  exact key
theorem many_v (hf : Fld W H (czOf sty) p G mags marks known below latest early again) (hW : W ≤ 64) (hH : H ≤ 64) {x y : Nat} (hx : x < W) (hy : y < H) : P_X11_many (nI x) (nI y) 0 1 (nI W) (nI H) sty 4096 known 4096 below ∧ F_X11_many (nI x) (nI y) 0 1 (nI W) (nI H) sty known below = nI (vC (czOf sty) G x y) ∧ P_X11_sum (nI x) (nI y) 0 1 (nI W) (nI H) sty 4096 known 4096 below ∧ F_X11_sum (nI x) (nI y) 0 1 (nI W) (nI H) sty known below = sgnI (vC (czOf sty) G x y) (vM (czOf sty) G x y) := by
  have key := pair_ok hf hW hH hx hy (tI_add0 (show x < 2 ^ 20 by omega)) (tI_add1 (show y < 2 ^ 20 by omega)) (tI_sub0 (show x < 2 ^ 20 by omega)) (tI_sub1 (show y < 2 ^ 20 by omega)) (by omega) (by omega) (by omega) (by omega) 0 1 rfl rfl rfl rfl
  have c1 : (0 ≤ (x : Int) ∧ 0 ≤ (y : Int) + 1 ∧ (czOf sty = true → (y : Int) + 1 < ((y / 4 * 4 + 4 : Nat) : Int))) ↔ vis (czOf sty) y = true := ⟨fun z => vis_iff.mpr z.2.2, fun z => ⟨by omega, by omega, vis_iff.mp z⟩⟩
  have c2 : (0 ≤ (x : Int) ∧ 0 ≤ (y : Int) - 1 ∧ (czOf sty = true → (y : Int) - 1 < ((y / 4 * 4 + 4 : Nat) : Int))) ↔ 1 ≤ y := ⟨fun z => by omega, fun _ => ⟨by omega, by omega, fun _ => by omega⟩⟩
  rw [ite_b c1, ite_b c2, ite_b c1, ite_b c2, show ((y : Int) + 1).toNat = y + 1 by omega, show ((y : Int) - 1).toNat = y - 1 by omega, Int.toNat_natCast, Nat.add_comm, Nat.add_comm (if vis (czOf sty) y = true then m1 G x (y + 1) else 0)] at key
  exact key
theorem many_d (hf : Fld W H (czOf sty) p G mags marks known below latest early again) (hW : W ≤ 64) (hH : H ≤ 64) {x y : Nat} (hx : x < W) (hy : y < H) : ∃ d1 d2 : Nat, P_X11_many (nI x) (nI y) 1 1 (nI W) (nI H) sty 4096 known 4096 below ∧ F_X11_many (nI x) (nI y) 1 1 (nI W) (nI H) sty known below = nI d1 ∧ P_X11_many (nI x) (nI y) 1 (-1) (nI W) (nI H) sty 4096 known 4096 below ∧ F_X11_many (nI x) (nI y) 1 (-1) (nI W) (nI H) sty known below = nI d2 ∧ d1 ≤ 2 ∧ d2 ≤ 2 ∧ d1 + d2 = dC (czOf sty) G x y := by
  obtain ⟨k1, k2, -, -⟩ := pair_ok hf hW hH hx hy (tI_add1 (show x < 2 ^ 20 by omega)) (tI_add1 (show y < 2 ^ 20 by omega)) (tI_sub1 (show x < 2 ^ 20 by omega)) (tI_sub1 (show y < 2 ^ 20 by omega)) (by omega) (by omega) (by omega) (by omega) 1 1 rfl rfl rfl rfl
  obtain ⟨l1, l2, -, -⟩ := pair_ok hf hW hH hx hy (tI_add1 (show x < 2 ^ 20 by omega)) (tI_addm (show y < 2 ^ 20 by omega)) (tI_sub1 (show x < 2 ^ 20 by omega)) (tI_subm (show y < 2 ^ 20 by omega)) (by omega) (by omega) (by omega) (by omega) 1 (-1) rfl rfl rfl rfl
  have c1 : (0 ≤ (x : Int) + 1 ∧ 0 ≤ (y : Int) + 1 ∧ (czOf sty = true → (y : Int) + 1 < ((y / 4 * 4 + 4 : Nat) : Int))) ↔ vis (czOf sty) y = true := ⟨fun z => vis_iff.mpr z.2.2, fun z => ⟨by omega, by omega, vis_iff.mp z⟩⟩
  have c2 : (0 ≤ (x : Int) - 1 ∧ 0 ≤ (y : Int) - 1 ∧ (czOf sty = true → (y : Int) - 1 < ((y / 4 * 4 + 4 : Nat) : Int))) ↔ (1 ≤ y ∧ 1 ≤ x) := ⟨fun z => by omega, fun _ => ⟨by omega, by omega, fun _ => by omega⟩⟩
  have c3 : (0 ≤ (x : Int) + 1 ∧ 0 ≤ (y : Int) - 1 ∧ (czOf sty = true → (y : Int) - 1 < ((y / 4 * 4 + 4 : Nat) : Int))) ↔ 1 ≤ y := ⟨fun z => by omega, fun _ => ⟨by omega, by omega, fun _ => by omega⟩⟩
  have c4 : (0 ≤ (x : Int) - 1 ∧ 0 ≤ (y : Int) + 1 ∧ (czOf sty = true → (y : Int) + 1 < ((y / 4 * 4 + 4 : Nat) : Int))) ↔ (vis (czOf sty) y = true ∧ 1 ≤ x) := ⟨fun z => ⟨vis_iff.mpr z.2.2, by omega⟩, fun z => ⟨by omega, by omega, vis_iff.mp z.1⟩⟩
  rw [ite_b c1, ite_b c2, show ((x : Int) + 1).toNat = x + 1 by omega, show ((x : Int) - 1).toNat = x - 1 by omega, show ((y : Int) + 1).toNat = y + 1 by omega, show ((y : Int) - 1).toNat = y - 1 by omega] at k2
  rw [ite_b c3, ite_b c4, show ((x : Int) + 1).toNat = x + 1 by omega, show ((x : Int) - 1).toNat = x - 1 by omega, show ((y : Int) + 1).toNat = y + 1 by omega, show ((y : Int) - 1).toNat = y - 1 by omega] at l2
  refine ⟨_, _, k1, k2, l1, l2, ?_, ?_, ?_⟩
  · have h1 := s1_le G (x - 1) (y - 1)
    have h4 := s1_le G (x + 1) (y + 1)
    split <;> split <;> omega
  · have h1 := s1_le G (x - 1) (y + 1)
    have h4 := s1_le G (x + 1) (y - 1)
    split <;> split <;> omega
  · unfold dC
    by_cases a1 : 1 ≤ x <;> by_cases a2 : 1 ≤ y <;> by_cases a3 : vis (czOf sty) y = true <;> simp [a1, a2, a3] <;> omega
theorem x11_zero (hf : Fld W H (czOf sty) p G mags marks known below latest early again) (hW : W ≤ 64) (hH : H ≤ 64) {x y band : Nat} (hx : x < W) (hy : y < H) (hb : band < 4) : P_X11_zeroContext (nI x) (nI y) (nI W) (nI H) sty 4096 known 4096 below ∧ F_X11_zeroContext (nI x) (nI y) (nI W) (nI H) (nI band) sty known below = nI (zcN band (hC G x y) (vC (czOf sty) G x y) (dC (czOf sty) G x y)) := by
  obtain ⟨h1, h2, -, -⟩ := many_h hf hW hH hx hy
  obtain ⟨v1, v2, -, -⟩ := many_v hf hW hH hx hy
  obtain ⟨d1, d2, e1, e2, e3, e4, e5, e6, e7⟩ := many_d hf hW hH hx hy
  refine ⟨⟨h1, fun _ _ => ⟨v1, fun _ _ => ⟨e1, fun _ _ => e3⟩⟩⟩, ?_⟩
  rw [← e7, ← zcM_ok hb (hC_le G x y) (vC_le _ G x y) e5 e6]
  unfold F_X11_zeroContext zJ
  rw [h2, v2, e2, e4]
end
