/-! ===== PURE: bytes come in ===== -/
def bt (e : Nat) (b : Nat → Nat) (p : Nat) : Nat := if p < e then b p else 255
def iAdd (e : Nat) (b : Nat → Nat) (p : Nat) : Nat := if bt e b p = 255 then (if bt e b (p + 1) ≤ 143 then bt e b (p + 1) * 512 else 65280) else bt e b (p + 1) * 256
def iRm (e : Nat) (b : Nat → Nat) (p : Nat) : Nat := if bt e b p = 255 then (if bt e b (p + 1) ≤ 143 then 7 else 8) else 8
def iPl (e : Nat) (b : Nat → Nat) (p : Nat) : Nat := if bt e b p = 255 then (if bt e b (p + 1) ≤ 143 then p + 1 else p) else p + 1
theorem bt_lt {e n : Nat} {b : Nat → Nat} (he : e ≤ n) (hb : ∀ j, j < n → b j < 256) (p : Nat) : bt e b p < 256 := by
  unfold bt
  split
  · exact hb p (by omega)
  · omega
theorem iPl_le {e p : Nat} {b : Nat → Nat} (h : p ≤ e) : iPl e b p ≤ e := by
  unfold iPl
  by_cases c : p < e
  · split <;> try split
    all_goals omega
  · have h1 : bt e b p = 255 := if_neg c
    have h2 : bt e b (p + 1) = 255 := if_neg (by omega)
    rw [if_pos h1, if_neg (by omega)]; exact h
theorem iPl_ge {e p : Nat} {b : Nat → Nat} : p ≤ iPl e b p := by
  unfold iPl
  split <;> try split
  all_goals omega
theorem iRm_in (e : Nat) (b : Nat → Nat) (p : Nat) : 7 ≤ iRm e b p ∧ iRm e b p ≤ 8 := by
  unfold iRm
  split <;> try split
  all_goals omega
theorem iAdd_lt {e n : Nat} {b : Nat → Nat} (he : e ≤ n) (hb : ∀ j, j < n → b j < 256) (p : Nat) : iAdd e b p < 131072 := by
  have := bt_lt he hb (p + 1)
  unfold iAdd
  split <;> try split
  all_goals omega
theorem byteOf_ok {e n p bn : Nat} {f : Nat → Int32} {b : Nat → Nat} (he : e ≤ n) (hn : n ≤ bn) (hbn : bn ≤ 131072) (hp : p < 2 ^ 31) (h : cEq n f b) : P_X1_byteOf (nI p) (nI e) (nI n) bn ∧ F_X1_byteOf (nI p) (nI e) (nI n) f = nI (bt e b p) := by
  have h0 : ¬ nI p < (0 : Int32) := nI_pos hp
  unfold P_X1_byteOf F_X1_byteOf bt
  rw [if_neg h0]
  by_cases c : p < e
  · have h1 : ¬ nI e ≤ nI p := nI_ge c (by omega)
    have h2 : ¬ nI n ≤ nI p := nI_ge (by omega) (by omega)
    rw [if_neg h1, if_neg h2, if_pos c, nI_clamp hp, h p (by omega)]
    exact ⟨fun _ _ _ => vp_in_nI (by omega) (by omega), rfl⟩
  · have h1 : nI e ≤ nI p := nI_le (by omega) hp
    rw [if_pos h1, if_neg c]
    exact ⟨fun _ x => absurd h1 x, rfl⟩
theorem byteAt_ok {e n fr k : Nat} {f : Nat → Int32} {b : Nat → Nat} (he : e ≤ n) (hf : fr ≤ e) (hn : n ≤ 65536) (hk : k < 2 ^ 30) (h : cEq n f b) : P_X11_byteAt (nI k) (nI fr) (nI (e - fr)) 65536 ∧ F_X11_byteAt (nI k) (nI fr) (nI (e - fr)) f = nI (bt e b (fr + k)) := by
  unfold P_X11_byteAt F_X11_byteAt bt
  rw [nI_add]
  by_cases c : fr + k < e
  · have h1 : ¬ nI (e - fr) ≤ nI k := nI_ge (by omega) (by omega)
    rw [if_neg h1, if_pos c, nI_clamp (by omega), h _ (by omega)]
    exact ⟨fun _ => vp_in_nI (by omega) (by decide), rfl⟩
  · have h1 : nI (e - fr) ≤ nI k := nI_le (by omega) (by omega)
    rw [if_pos h1, if_neg c]
    exact ⟨fun x => absurd h1 x, rfl⟩
theorem i255 {x : Nat} (h : x < 256) : nI x = (255 : Int32) ↔ x = 255 := nI_eq (b := 255) (by omega) (by omega)
theorem i143 {x : Nat} (h : x < 256) : nI x ≤ (143 : Int32) ↔ x ≤ 143 := nI_leI (b := 143) (by omega) (by omega)
theorem shl8 {x : Nat} (h : x < 256) : nI x <<< ((8 : Int32) &&& 31) = nI (x * 256) := pk_shlN _ 8 (by decide) (by omega)
theorem shl9 {x : Nat} (h : x < 256) : nI x <<< ((9 : Int32) &&& 31) = nI (x * 512) := pk_shlN _ 9 (by decide) (by omega)
theorem byteIn_ok {e n p bn w : Nat} {f : Nat → Int32} {b : Nat → Nat} (he : e ≤ n) (hn : n ≤ bn) (hbn : bn ≤ 131072) (hp : p ≤ e) (h : cEq n f b) (hb : ∀ j, j < n → b j < 256) : P_X2_byteIn (nI n) bn f (nI p) (nI e) ∧ F_X2_byteIn (nI n) f (nI p) (nI e) (nI w) = (nI (iPl e b p), nI (w + iAdd e b p), nI (iRm e b p)) := by
  obtain ⟨a1, a2⟩ := byteOf_ok (p := p) he hn hbn (by omega) h
  obtain ⟨b1, b2⟩ := byteOf_ok (p := p + 1) he hn hbn (by omega) h
  rw [nI_succ] at b1 b2
  have l1 := bt_lt he hb p
  have l2 := bt_lt he hb (p + 1)
  refine ⟨⟨a1, fun _ _ _ _ => b1⟩, ?_⟩
  have n10 : ¬ (1 : Int32) = 0 := by decide
  unfold F_X2_byteIn
  simp only [a2, b2]
  unfold iPl iAdd iRm
  by_cases c : bt e b p = 255
  · have hj : J_X2_byteIn_j_3 (nI (bt e b p)) = 1 := by unfold J_X2_byteIn_j_3; rw [if_pos ((i255 l1).mpr c)]
    rw [hj, if_neg n10, if_pos c, if_pos c, if_pos c]
    by_cases d : bt e b (p + 1) ≤ 143
    · have hd : nI (bt e b (p + 1)) ≤ (143 : Int32) := (i143 l2).mpr d
      rw [if_pos hd, if_pos d, if_pos d, if_pos d, if_neg n10]
      unfold J_X2_byteIn_j_11
      rw [if_neg n10, shl9 l2, nI_add, nI_succ]
      rfl
    · have hd : ¬ nI (bt e b (p + 1)) ≤ (143 : Int32) := fun x => d ((i143 l2).mp x)
      rw [if_neg hd, if_neg d, if_neg d, if_neg d]
      have e2 : nI w + (65280 : Int32) = nI (w + 65280) := nI_add w 65280
      rw [e2]
      rfl
  · have hj : J_X2_byteIn_j_3 (nI (bt e b p)) = 0 := by unfold J_X2_byteIn_j_3; rw [if_neg (fun x => c ((i255 l1).mp x))]
    rw [hj, if_pos rfl, if_neg c, if_neg c, if_neg c, if_pos rfl]
    unfold J_X2_byteIn_j_7
    rw [if_pos rfl, shl8 l2, nI_add, nI_succ]
    rfl
theorem comesIn_ok {e n fr p : Nat} {f : Nat → Int32} {b : Nat → Nat} (he : e ≤ n) (hn : n ≤ 65536) (hf : fr ≤ p) (hp : p ≤ e) (h : cEq n f b) (hb : ∀ j, j < n → b j < 256) : P_X11_comesIn (nI fr) (nI (e - fr)) (nI (p + 1 - fr)) (nI (bt e b p)) 65536 f ∧ F_X11_comesIn (nI fr) (nI (e - fr)) (nI (p + 1 - fr)) (nI (bt e b p)) f = (nI (iAdd e b p), nI (iRm e b p), nI (iPl e b p + 1 - fr), nI (bt e b (iPl e b p))) := by
  obtain ⟨a1, a2⟩ := byteAt_ok (fr := fr) (k := p + 1 - fr) he (by omega) hn (by omega) h
  rw [show fr + (p + 1 - fr) = p + 1 by omega] at a2
  have l1 := bt_lt he hb p
  have l2 := bt_lt he hb (p + 1)
  refine ⟨⟨fun _ => ⟨a1, fun _ _ _ _ _ => a1⟩, fun _ _ _ => a1⟩, ?_⟩
  unfold F_X11_comesIn
  simp only [a2]
  unfold iPl iAdd iRm
  by_cases c : bt e b p = 255
  · have hj : J_X11_comesIn_j_8 (nI (bt e b p)) = 7 := by unfold J_X11_comesIn_j_8; rw [if_pos ((i255 l1).mpr c)]
    rw [if_pos ((i255 l1).mpr c), if_pos c, if_pos c, if_pos c]
    by_cases d : bt e b (p + 1) ≤ 143
    · have hd : nI (bt e b (p + 1)) ≤ (143 : Int32) := (i143 l2).mpr d
      have e9 : ((16 : Int32) - 7) = 9 := by decide
      rw [if_pos hd, if_pos d, if_pos d, if_pos d, hj, e9, shl9 l2, ← nI_succ, show p + 1 - fr + 1 = p + 1 + 1 - fr by omega]
      rfl
    · have hd : ¬ nI (bt e b (p + 1)) ≤ (143 : Int32) := fun x => d ((i143 l2).mp x)
      rw [if_neg hd, if_neg d, if_neg d, if_neg d]
      rfl
  · have hj : J_X11_comesIn_j_3 (nI (bt e b p)) = 8 := by unfold J_X11_comesIn_j_3; rw [if_neg (fun x => c ((i255 l1).mp x))]
    have e8 : ((16 : Int32) - 8) = 8 := by decide
    rw [if_neg (fun x => c ((i255 l1).mp x)), if_neg c, if_neg c, if_neg c, hj, e8, shl8 l2, ← nI_succ, show p + 1 - fr + 1 = p + 1 + 1 - fr by omega]
    rfl
/-! numbers of 64 bits -/
theorem l_add {a b : Int64} {x y : Int} (ha : a.toInt = x) (hb : b.toInt = y) (h1 : -2 ^ 62 ≤ x + y) (h2 : x + y < 2 ^ 62) : (a + b).toInt = x + y := by
  rw [Int64.toInt_add, ha, hb]
  exact Int.bmod_eq_of_le (by omega) (by omega)
theorem l_sub {a b : Int64} {x y : Int} (ha : a.toInt = x) (hb : b.toInt = y) (h1 : -2 ^ 62 ≤ x - y) (h2 : x - y < 2 ^ 62) : (a - b).toInt = x - y := by
  rw [Int64.toInt_sub, ha, hb]
  exact Int.bmod_eq_of_le (by omega) (by omega)
theorem l_dbl {a : Int64} {x : Int} (ha : a.toInt = x) (h1 : -2 ^ 61 ≤ x) (h2 : x < 2 ^ 61) : ((2 : Int64) * a).toInt = 2 * x := by
  rw [Int64.toInt_mul, ha, show (2 : Int64).toInt = 2 by decide]
  exact Int.bmod_eq_of_le (by omega) (by omega)
theorem lNn {n : Nat} (h : n < 2 ^ 64) : (lN n).toBitVec.toNat = n := Nat.mod_eq_of_lt h
theorem l_shl {n : Nat} (s : Int64) (k : Nat) (hs : (s.toBitVec.smod 64).toNat = k) (h : n * 2 ^ k < 2 ^ 63) : (lN n <<< s).toInt = ((n * 2 ^ k : Nat) : Int) := by
  have e : lN n <<< s = lN (n * 2 ^ k) := by
    apply Int64.toBitVec_inj.mp
    apply BitVec.eq_of_toNat_eq
    have hn : n < 2 ^ 64 := Nat.lt_of_le_of_lt (Nat.le_mul_of_pos_right n (Nat.two_pow_pos k)) (by omega)
    show ((lN n).toBitVec <<< (s.toBitVec.smod 64).toNat).toNat = _
    rw [hs, BitVec.toNat_shiftLeft, Nat.shiftLeft_eq, lNn hn, lNn (by omega), Nat.mod_eq_of_lt (by omega)]
  rw [e]
  exact pk_lT h
theorem shl16 {n : Nat} (h : n < 2 ^ 31) : ((nI n).toInt64 <<< ((16 : Int32).toInt64 &&& 63)).toInt = ((n * 65536 : Nat) : Int) := by
  rw [nI_l h]
  exact l_shl _ 16 (by decide) (by omega)
theorem l_shr (a s : Int64) (k : Nat) (hs : (s.toBitVec.smod 64).toNat = k) : (a >>> s).toInt = a.toInt >>> k := by
  show (a.toBitVec.sshiftRight (s.toBitVec.smod 64).toNat).toInt = _
  rw [hs, BitVec.toInt_sshiftRight]
  rfl
theorem round_ok {sz W : Nat} {u : Int64} (hs : sz < 2 ^ 20) (hW : W < 2 ^ 33) (hu : u.toInt = (sz * 65536 : Nat) - 1 - (W : Int)) : (F_X11_round (nI sz) u).toInt = (sz * 65536 : Nat) - 1 - ((W % 2 ^ 32 : Nat) : Int) := by
  have h1 := shl16 (n := sz) (by omega)
  have h2 : (((nI sz).toInt64 <<< ((16 : Int32).toInt64 &&& 63)) - (1 : Int64)).toInt = (sz * 65536 : Nat) - 1 := l_sub h1 (show (1 : Int64).toInt = 1 by decide) (by omega) (by omega)
  have h3 : ((((nI sz).toInt64 <<< ((16 : Int32).toInt64 &&& 63)) - (1 : Int64)) - u).toInt = (W : Int) := by
    rw [l_sub h2 hu (by omega) (by omega)]; omega
  have h4 : (((((nI sz).toInt64 <<< ((16 : Int32).toInt64 &&& 63)) - (1 : Int64)) - u) >>> ((32 : Int32).toInt64 &&& 63)).toInt = ((W / 2 ^ 32 : Nat) : Int) := by
    rw [l_shr _ _ 32 (by decide), h3]
    rw [Int.shiftRight_eq_div_pow]
    omega
  unfold F_X11_round
  by_cases c : W < 2 ^ 32
  · have h5 : lg_cmp (((((nI sz).toInt64 <<< ((16 : Int32).toInt64 &&& 63)) - (1 : Int64)) - u) >>> ((32 : Int32).toInt64 &&& 63)) (0 : Int64) = 0 := by
      rw [lg_cmp_eq]
      apply Int64.toInt_inj.mp
      rw [h4, Nat.div_eq_of_lt c]
      decide
    rw [if_pos h5, hu, Nat.mod_eq_of_lt c]
  · have h5 : ¬ lg_cmp (((((nI sz).toInt64 <<< ((16 : Int32).toInt64 &&& 63)) - (1 : Int64)) - u) >>> ((32 : Int32).toInt64 &&& 63)) (0 : Int64) = 0 := by
      rw [lg_cmp_eq]
      intro x
      have x2 := congrArg Int64.toInt x
      rw [h4, show (0 : Int64).toInt = 0 by decide] at x2
      omega
    rw [if_neg h5, l_add hu (show (4294967296 : Int64).toInt = 4294967296 by decide) (by omega) (by omega)]
    omega
