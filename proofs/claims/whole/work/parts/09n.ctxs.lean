/-! ===== PURE: contexts of a coefficient, class and reference ===== -/
def zcN (band h v d : Nat) : Nat :=
  if band = 3 then (if 2 < d then 8 else if d = 2 then (if 0 < h + v then 7 else 6) else if d = 1 then 3 + min (h + v) 2 else min (h + v) 2)
  else (if (if band = 1 then v else h) = 2 then 8 else if (if band = 1 then v else h) = 1 then (if 0 < (if band = 1 then h else v) then 7 else if 0 < d then 6 else 5) else if 0 < (if band = 1 then h else v) then (if band = 1 then h else v) + 2 else min d 2)
def zI (band h v d : Int32) : Int32 := if band = (3 : Int32) then F_X5_crossContext (h + v) d else (if band = (1 : Int32) then F_X5_sideContext v h d else F_X5_sideContext h v d)
def zJ (band r1 r2 r3 r4 : Int32) : Int32 := if band = (3 : Int32) then (if (r3 + r4) ≤ (2 : Int32) then (if (r3 + r4) = (2 : Int32) then (if (r1 + r2) ≤ (0 : Int32) then (6 : Int32) else (7 : Int32)) else (if (r3 + r4) = (1 : Int32) then (if (r1 + r2) ≤ (1 : Int32) then ((3 : Int32) + (r1 + r2)) else (5 : Int32)) else (if (r1 + r2) ≤ (1 : Int32) then (r1 + r2) else (2 : Int32)))) else (8 : Int32)) else (let j_7 := J_X11_zeroContext_j_7 band r1 r2; let j_9 := J_X11_zeroContext_j_9 band r1 r2; if j_7 = (2 : Int32) then (8 : Int32) else (if j_7 = (1 : Int32) then (if j_9 ≤ (0 : Int32) then (if (r3 + r4) ≤ (0 : Int32) then (5 : Int32) else (6 : Int32)) else (7 : Int32)) else (if j_9 ≤ (0 : Int32) then (if (r3 + r4) ≤ (1 : Int32) then (r3 + r4) else (2 : Int32)) else ((2 : Int32) + j_9))))
theorem zc_all : ((List.range 4).all fun band => (List.range 3).all fun h => (List.range 3).all fun v => (List.range 5).all fun d => zI (nI band) (nI h) (nI v) (nI d) == nI (zcN band h v d) && (Nat.blt (zcN band h v d) 9 && ((zcN band h v d == 0) == (h + 4 * v + 16 * d == 0)))) = true := by decide +kernel
theorem zc_allM : ((List.range 4).all fun band => (List.range 3).all fun h => (List.range 3).all fun v => (List.range 3).all fun d1 => (List.range 3).all fun d2 => zJ (nI band) (nI h) (nI v) (nI d1) (nI d2) == nI (zcN band h v (d1 + d2))) = true := by decide +kernel
theorem zc_ok {band h v d : Nat} (hb : band < 4) (hh : h ≤ 2) (hv : v ≤ 2) (hd : d ≤ 4) : zI (nI band) (nI h) (nI v) (nI d) = nI (zcN band h v d) ∧ zcN band h v d < 9 ∧ (zcN band h v d = 0 ↔ h + 4 * v + 16 * d = 0) := by
  have a := zc_all
  rw [List.all_eq_true] at a
  have a := a band (List.mem_range.mpr hb)
  rw [List.all_eq_true] at a
  have a := a h (List.mem_range.mpr (by omega))
  rw [List.all_eq_true] at a
  have a := a v (List.mem_range.mpr (by omega))
  rw [List.all_eq_true] at a
  have a := a d (List.mem_range.mpr (by omega))
  simp only [Bool.and_eq_true, beq_iff_eq, Nat.blt_eq] at a
  refine ⟨a.1, a.2.1, ?_⟩
  have b := a.2.2
  constructor
  · intro x
    rw [x] at b
    have : (h + 4 * v + 16 * d == 0) = true := by rw [← b]; rfl
    simpa using this
  · intro x
    rw [x] at b
    have : (zcN band h v d == 0) = true := by rw [b]; rfl
    simpa using this
theorem zcM_ok {band h v d1 d2 : Nat} (hb : band < 4) (hh : h ≤ 2) (hv : v ≤ 2) (h1 : d1 ≤ 2) (h2 : d2 ≤ 2) : zJ (nI band) (nI h) (nI v) (nI d1) (nI d2) = nI (zcN band h v (d1 + d2)) := by
  have a := zc_allM
  rw [List.all_eq_true] at a
  have a := a band (List.mem_range.mpr hb)
  rw [List.all_eq_true] at a
  have a := a h (List.mem_range.mpr (by omega))
  rw [List.all_eq_true] at a
  have a := a v (List.mem_range.mpr (by omega))
  rw [List.all_eq_true] at a
  have a := a d1 (List.mem_range.mpr (by omega))
  rw [List.all_eq_true] at a
  have a := a d2 (List.mem_range.mpr (by omega))
  simpa using a
/-! signs -/
def sgnI (h m : Nat) : Int32 := if 2 * m < h then 1 else if h < 2 * m then -1 else 0
theorem sgn_all : ((List.range 3).all fun h => (List.range 3).all fun m => F_J6_signum_0f7a4 (nI h - (2 : Int32) * nI m) == sgnI h m) = true := by decide +kernel
theorem sgn_ok {h m : Nat} (hh : h ≤ 2) (hm : m ≤ 2) : F_J6_signum_0f7a4 (nI h - (2 : Int32) * nI m) = sgnI h m := by
  have a := sgn_all
  rw [List.all_eq_true] at a
  have a := a h (List.mem_range.mpr (by omega))
  rw [List.all_eq_true] at a
  have a := a m (List.mem_range.mpr (by omega))
  simpa using a
def plI (h m v w : Nat) : Int32 := (3 : Int32) * sgnI h m + sgnI v w
/-- is the sign turned; the sign's context -/
def tN (h m v w : Nat) : Nat := if 2 * m < h then 0 else if h < 2 * m then 1 else if 2 * w ≤ v then 0 else 1
def cN (h m v w : Nat) : Nat := ((9 : Int32) + (if (0 : Int32) ≤ plI h m v w then plI h m v w else (0 : Int32) - plI h m v w)).toNatClampNeg
def rN (h m v w : Nat) : Nat := (((9 : Int32) + ((3 : Int32) * sgnI h m)) + sgnI v w).toNatClampNeg
theorem sign_all : ((List.range 3).all fun h => (List.range 3).all fun m => (List.range 3).all fun v => (List.range 3).all fun w =>
    ((9 : Int32) + (if (0 : Int32) ≤ plI h m v w then plI h m v w else (0 : Int32) - plI h m v w)) == nI (cN h m v w) && (Nat.blt (cN h m v w) 19 && (J_X9_becomeSignificant_j_5 0 (plI h m v w) == nI (tN h m v w) && (J_X9_becomeSignificant_j_5 1 (plI h m v w) == nI 0 &&
    (J_X11_codeSign_j_7 0 (sgnI h m) (sgnI v w) == nI (tN h m v w) && (J_X11_codeSign_j_7 1 (sgnI h m) (sgnI v w) == nI 0 && (J_X11_codeSign_j_9 (sgnI h m) (sgnI v w) (nI (tN h m v w)) == nI (cN h m v w) && (J_X11_codeSign_j_9 (sgnI h m) (sgnI v w) (nI 0) == nI (rN h m v w) && (Nat.blt (rN h m v w) 19 && Nat.blt (tN h m v w) 2))))))))) = true := by decide +kernel
theorem sign_ok {h m v w : Nat} (hh : h ≤ 2) (hm : m ≤ 2) (hv : v ≤ 2) (hw : w ≤ 2) : ((9 : Int32) + (if (0 : Int32) ≤ plI h m v w then plI h m v w else (0 : Int32) - plI h m v w)) = nI (cN h m v w) ∧ cN h m v w < 19 ∧ J_X9_becomeSignificant_j_5 0 (plI h m v w) = nI (tN h m v w) ∧ J_X9_becomeSignificant_j_5 1 (plI h m v w) = nI 0 ∧ J_X11_codeSign_j_7 0 (sgnI h m) (sgnI v w) = nI (tN h m v w) ∧ J_X11_codeSign_j_7 1 (sgnI h m) (sgnI v w) = nI 0 ∧ J_X11_codeSign_j_9 (sgnI h m) (sgnI v w) (nI (tN h m v w)) = nI (cN h m v w) ∧ J_X11_codeSign_j_9 (sgnI h m) (sgnI v w) (nI 0) = nI (rN h m v w) ∧ rN h m v w < 19 ∧ tN h m v w < 2 := by
  have a := sign_all
  rw [List.all_eq_true] at a
  have a := a h (List.mem_range.mpr (by omega))
  rw [List.all_eq_true] at a
  have a := a m (List.mem_range.mpr (by omega))
  rw [List.all_eq_true] at a
  have a := a v (List.mem_range.mpr (by omega))
  rw [List.all_eq_true] at a
  have a := a w (List.mem_range.mpr (by omega))
  simp only [Bool.and_eq_true, beq_iff_eq, Nat.blt_eq] at a
  exact a
/-! the class, of a mark -/
section
variable {marks : Nat → Int32} {i n : Nat} {cz : Bool} {G : GF} {x y : Nat}
theorem mk_parts (h : G.lt x y ≤ 30) : (nI (markN cz G x y) >>> ((0 : Int32) &&& 31)) &&& (3 : Int32) = nI (hC G x y) ∧ (nI (markN cz G x y) >>> ((2 : Int32) &&& 31)) &&& (3 : Int32) = nI (vC cz G x y) ∧ (nI (markN cz G x y) >>> ((4 : Int32) &&& 31)) &&& (7 : Int32) = nI (dC cz G x y) ∧ (nI (markN cz G x y) >>> ((7 : Int32) &&& 31)) &&& (3 : Int32) = nI (hM G x y) ∧ (nI (markN cz G x y) >>> ((9 : Int32) &&& 31)) &&& (3 : Int32) = nI (vM cz G x y) := by
  obtain ⟨b1, b2, b3, b4, b5, -⟩ := mark_bits cz G x y
  have hl := markN_lt (cz := cz) h
  refine ⟨?_, ?_, ?_, ?_, ?_⟩
  · rw [pk_shrN (by omega) _ 0 (by decide), pk_andN (by omega) 2 (by decide), ← b1]; congr 1; omega
  · rw [pk_shrN (by omega) _ 2 (by decide), pk_andN (by omega) 2 (by decide), ← b2]
  · rw [pk_shrN (by omega) _ 4 (by decide), pk_andN (by omega) 3 (by decide), ← b3]
  · rw [pk_shrN (by omega) _ 7 (by decide), pk_andN (by omega) 2 (by decide), ← b4]
  · rw [pk_shrN (by omega) _ 9 (by decide), pk_andN (by omega) 2 (by decide), ← b5]
theorem x5_zero {band : Nat} (hi : i < 2 ^ 31) (hm : marks i = nI (markN cz G x y)) (h : G.lt x y ≤ 30) (hb : band < 4) : F_X5_zeroContext (nI i) (nI band) marks = nI (zcN band (hC G x y) (vC cz G x y) (dC cz G x y)) := by
  obtain ⟨p1, p2, p3, -, -⟩ := mk_parts (cz := cz) h
  obtain ⟨z1, -, -⟩ := zc_ok hb (hC_le G x y) (vC_le cz G x y) (dC_le cz G x y)
  rw [← z1]
  unfold F_X5_zeroContext zI
  rw [nI_clamp hi, hm, p1, p2, p3]
theorem x5_pull (hi : i < 2 ^ 31) (hm : marks i = nI (markN cz G x y)) (h : G.lt x y ≤ 30) : F_X5_signPull (nI i) marks = plI (hC G x y) (hM G x y) (vC cz G x y) (vM cz G x y) := by
  obtain ⟨p1, p2, -, p4, p5⟩ := mk_parts (cz := cz) h
  have a1 := hC_le G x y
  have a2 := vC_le cz G x y
  have a4 := hM_le G x y
  have a5 := vM_le cz G x y
  unfold F_X5_signPull plI
  rw [nI_clamp hi, hm, p1, p2, p4, p5, sgn_ok a1 (by omega), sgn_ok a2 (by omega)]
def agN (near : Nat) (ag : Bool) : Nat := if ag then 16 else if near = 0 then 14 else 15
theorem x5_again (hi : i < 2 ^ 31) (hm : marks i = nI (markN cz G x y)) (h : G.lt x y ≤ 30) : F_X5_againContext (nI i) marks = nI (agN (hC G x y + 4 * vC cz G x y + 16 * dC cz G x y) (G.ag x y)) := by
  obtain ⟨-, -, -, -, -, -, -, -, b9, -⟩ := mark_bits cz G x y
  have hl := markN_lt (cz := cz) h
  have hn : markN cz G x y % 128 = hC G x y + 4 * vC cz G x y + 16 * dC cz G x y := by
    have a1 := hC_le G x y
    have a2 := vC_le cz G x y
    have a3 := dC_le cz G x y
    unfold markN
    omega
  have a1 := hC_le G x y
  have a2 := vC_le cz G x y
  have a3 := dC_le cz G x y
  unfold F_X5_againContext agN
  rw [nI_clamp hi, hm]
  by_cases c : G.ag x y = true
  · have e : ¬ nI (markN cz G x y) &&& (16384 : Int32) = (0 : Int32) := fun q => by
      have := (mk_16384 hl).mp q
      rw [b9, c] at this
      exact absurd this (by decide)
    rw [if_neg e, if_pos c]; rfl
  · have c : G.ag x y = false := by simpa using c
    have e : nI (markN cz G x y) &&& (16384 : Int32) = (0 : Int32) := (mk_16384 hl).mpr (by rw [b9, c]; rfl)
    rw [if_pos e, c, mk_127 hl, hn]
    by_cases c2 : hC G x y + 4 * vC cz G x y + 16 * dC cz G x y = 0
    · rw [c2]; rfl
    · have e2 : ¬ nI (hC G x y + 4 * vC cz G x y + 16 * dC cz G x y) = (0 : Int32) := nI_ne0 (by omega) (by omega)
      rw [if_neg e2]
      simp only [Bool.false_eq_true, if_false, c2]
      rfl
end
