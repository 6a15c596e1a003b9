/-! ===== PURE: doubling while reading ===== -/
def qW (e : Nat) (b : Nat → Nat) (room pl w : Nat) : Nat := if room = 0 then (w + iAdd e b pl) % 4294967296 else w
def qR (e : Nat) (b : Nat → Nat) (room pl : Nat) : Nat := if room = 0 then iRm e b pl else room
def qP (e : Nat) (b : Nat → Nat) (room pl : Nat) : Nat := if room = 0 then iPl e b pl else pl
def qRen (e : Nat) (b : Nat → Nat) : Nat → Nat → Nat → Nat → Nat → Nat × Nat × Nat × Nat
  | 0, sz, w, room, pl => (sz, w, room, pl)
  | k + 1, sz, w, room, pl => if 32768 ≤ sz then (sz, w, room, pl) else qRen e b k (2 * sz) (2 * qW e b room pl w % 4294967296) (qR e b room pl - 1) (qP e b room pl)
theorem nI_mod (x : Nat) : nI (x % 4294967296) = nI x := by
  apply Int32.toBitVec_inj.mp
  apply BitVec.eq_of_toNat_eq
  show x % 4294967296 % 2 ^ 32 = x % 2 ^ 32
  omega
theorem q_in {e room pl w : Nat} {b : Nat → Nat} (hr : room ≤ 8) (hp : pl ≤ e) (hw : w < 4294967296) : 1 ≤ qR e b room pl ∧ qR e b room pl ≤ 8 ∧ qP e b room pl ≤ e ∧ pl ≤ qP e b room pl ∧ qW e b room pl w < 4294967296 := by
  have h1 := iRm_in e b pl
  have h2 := iPl_le (b := b) hp
  have h3 := iPl_ge (e := e) (b := b) (p := pl)
  unfold qR qP qW
  by_cases c : room = 0
  · rw [if_pos c, if_pos c, if_pos c]; omega
  · rw [if_neg c, if_neg c, if_neg c]; omega
section
variable {e n fr bn : Nat} {f mf : Nat → Int32} {b : Nat → Nat}
theorem n2_step {room pl w : Nat} (he : e ≤ n) (hn : n ≤ bn) (hbn : bn ≤ 131072) (h : cEq n f b) (hb : ∀ j, j < n → b j < 256) (hr : room ≤ 8) (hp : pl ≤ e) : PJ_N2_j_16 (nI n) bn f (nI e) (nI pl) (nI room) ∧ J_N2_j_16 (nI n) f (nI e) (nI pl) (nI w) (nI room) = (nI (qP e b room pl), nI (qW e b room pl w), nI (qR e b room pl)) := by
  unfold PJ_N2_j_16 J_N2_j_16 qP qW qR
  by_cases c : room = 0
  · have c0 : nI room = (0 : Int32) := by rw [c]; rfl
    obtain ⟨a1, a2⟩ := byteIn_ok (w := w) he hn hbn hp h hb
    rw [if_pos c0, if_pos c, if_pos c, if_pos c, nI_mod, a2]
    exact ⟨fun _ => a1, rfl⟩
  · have c0 : ¬ nI room = (0 : Int32) := nI_ne0 (by omega) (by omega)
    rw [if_neg c0, if_neg c, if_neg c, if_neg c]
    exact ⟨fun x => absurd x c0, rfl⟩
theorem n2_ren (he : e ≤ n) (hn : n ≤ bn) (hbn : bn ≤ 131072) (h : cEq n f b) (hb : ∀ j, j < n → b j < 256) : ∀ (k i fuel sz w room pl : Nat), 32768 ≤ sz * 2 ^ k → i + k ≤ 15 → k < fuel → sz < 65536 → w < 4294967296 → room ≤ 8 → pl ≤ e →
    PL_N2_j_11 (nI n) bn f (nI e) fuel (nI i) (nI pl) (nI w) (nI sz) (nI room) ∧ ∃ i' : Int32, L_N2_j_11 (nI n) f (nI e) fuel (nI i) (nI pl) (nI w) (nI sz) (nI room) = (i', nI (qRen e b k sz w room pl).2.2.2, nI (qRen e b k sz w room pl).2.1, nI (qRen e b k sz w room pl).1, nI (qRen e b k sz w room pl).2.2.1) := by
  have stay : ∀ (i fuel sz w room pl : Nat), 32768 ≤ sz → sz < 65536 → 0 < fuel → PL_N2_j_11 (nI n) bn f (nI e) fuel (nI i) (nI pl) (nI w) (nI sz) (nI room) ∧ ∃ i' : Int32, L_N2_j_11 (nI n) f (nI e) fuel (nI i) (nI pl) (nI w) (nI sz) (nI room) = (i', nI pl, nI w, nI sz, nI room) := by
    intro i fuel sz w room pl h1 h2 h3
    obtain ⟨m, rfl⟩ : ∃ m, fuel = m + 1 := ⟨fuel - 1, by omega⟩
    have e : (32768 : Int32) ≤ nI sz := nI_le (a := 32768) h1 (by omega)
    rw [PL_N2_j_11, L_N2_j_11, if_pos e]
    refine ⟨fun _ x => absurd e x, nI i, ?_⟩
    split <;> rfl
  intro k
  induction k with
  | zero =>
    intro i fuel sz w room pl h1 h2 h3 h4 h5 h6 h7
    exact stay i fuel sz w room pl (by simpa using h1) h4 (by omega)
  | succ k ih =>
    intro i fuel sz w room pl h1 h2 h3 h4 h5 h6 h7
    by_cases c : 32768 ≤ sz
    · have hs : qRen e b (k + 1) sz w room pl = (sz, w, room, pl) := by rw [qRen, if_pos c]
      rw [hs]
      exact stay i fuel sz w room pl c h4 (by omega)
    · obtain ⟨m, rfl⟩ : ∃ m, fuel = m + 1 := ⟨fuel - 1, by omega⟩
      have n15 : ¬ (15 : Int32) ≤ nI i := nI_ge (b := 15) (by omega) (by omega)
      have n32 : ¬ (32768 : Int32) ≤ nI sz := nI_ge (b := 32768) (by omega) (by omega)
      have hk : 32768 ≤ 2 * sz * 2 ^ k := by rw [Nat.pow_succ] at h1; rw [show 2 * sz * 2 ^ k = sz * (2 ^ k * 2) by rw [Nat.mul_comm (2 ^ k) 2, Nat.mul_comm 2 sz, Nat.mul_assoc]]; exact h1
      have hs : qRen e b (k + 1) sz w room pl = qRen e b k (2 * sz) (2 * qW e b room pl w % 4294967296) (qR e b room pl - 1) (qP e b room pl) := by rw [qRen, if_neg c]
      obtain ⟨q1, q2, q3, q4, q5⟩ := q_in (b := b) h6 h7 h5
      obtain ⟨s1, s2⟩ := n2_step (room := room) (pl := pl) (w := w) he hn hbn h hb h6 h7
      obtain ⟨t1, i', t2⟩ := ih (i + 1) m (2 * sz) (2 * qW e b room pl w % 4294967296) (qR e b room pl - 1) (qP e b room pl) hk (by omega) (by omega) (by omega) (Nat.mod_lt _ (by omega)) (by omega) q3
      rw [nI_mod, nI_succ] at t1 t2
      rw [PL_N2_j_11, L_N2_j_11, if_neg n15, if_neg n32, hs]
      refine ⟨fun _ _ => ⟨s1, fun j ej => ?_⟩, i', ?_⟩
      · rw [← ej, s2]
        show PL_N2_j_11 (nI n) bn f (nI e) m (nI i + 1) (nI (qP e b room pl)) (nI (qW e b room pl w) * 2) (nI sz * 2) (nI (qR e b room pl) - 1)
        rw [dbl, dbl, pred_ok q1]
        exact t1
      · rw [s2]
        show L_N2_j_11 (nI n) f (nI e) m (nI i + 1) (nI (qP e b room pl)) (nI (qW e b room pl w) * 2) (nI sz * 2) (nI (qR e b room pl) - 1) = _
        rw [dbl, dbl, pred_ok q1]
        exact t2
theorem n2_same : ∀ (n : Nat) (rc : Int32) (f : Nat → Int32) (ce v p w s r : Int32), L_N2_j_24 rc f ce n v p w s r = L_N2_j_11 rc f ce n v p w s r := by
  intro n
  induction n with
  | zero => intros; rfl
  | succ n ih =>
    intro rc f ce v p w s r
    rw [L_N2_j_24, L_N2_j_11]
    simp only [ih]
    rfl
theorem n2_sameP : ∀ (n : Nat) (rc : Int32) (bn : Nat) (f : Nat → Int32) (ce v p w s r : Int32), PL_N2_j_11 rc bn f ce n v p w s r → PL_N2_j_24 rc bn f ce n v p w s r := by
  intro n
  induction n with
  | zero => intro rc bn f ce v p w s r h; exact h
  | succ n ih =>
    intro rc bn f ce v p w s r h
    rw [PL_N2_j_11] at h
    rw [PL_N2_j_24]
    exact fun a1 a2 => ⟨(h a1 a2).1, fun j ej => ih _ _ _ _ _ _ _ _ _ ((h a1 a2).2 j ej)⟩
/-- the reference -/
theorem rc_step {room pl w sz : Nat} {u : Int64} (he : e ≤ n) (hn : n ≤ 65536) (hf : fr ≤ pl) (h : cEq n mf b) (hb : ∀ j, j < n → b j < 256) (hr : room ≤ 8) (hp : pl ≤ e) (hs : sz < 65536) (hw : w < 4294967296) (hu : u.toInt = (sz * 65536 : Nat) - 1 - (w : Int)) : PJ_X11_readCoded_j_19 (nI fr) (nI (e - fr)) 65536 mf (nI room) (nI (pl + 1 - fr)) (nI (bt e b pl)) ∧ ∃ u' : Int64, J_X11_readCoded_j_19 (nI fr) (nI (e - fr)) mf (nI sz) (nI room) (nI (pl + 1 - fr)) (nI (bt e b pl)) u = (nI (qR e b room pl), nI (qP e b room pl + 1 - fr), nI (bt e b (qP e b room pl)), u') ∧ u'.toInt = (sz * 65536 : Nat) - 1 - (qW e b room pl w : Int) := by
  unfold PJ_X11_readCoded_j_19 J_X11_readCoded_j_19 qP qW qR
  by_cases c : room = 0
  · have c0 : nI room = (0 : Int32) := by rw [c]; rfl
    obtain ⟨a1, a2⟩ := comesIn_ok (fr := fr) (p := pl) he hn hf hp h hb
    have h3 := iAdd_lt he hb pl
    rw [if_pos c0, if_pos c, if_pos c, if_pos c, a2]
    refine ⟨fun _ => a1, _, rfl, ?_⟩
    show (F_X11_round (nI sz) (u - (nI (iAdd e b pl)).toInt64)).toInt = _
    rw [round_ok (sz := sz) (W := w + iAdd e b pl) (by omega) (by omega)]
    · rw [nI_l (by omega), l_sub hu (pk_lT (n := iAdd e b pl) (by omega)) (by omega) (by omega)]
      omega
  · have c0 : ¬ nI room = (0 : Int32) := nI_ne0 (by omega) (by omega)
    rw [if_neg c0, if_neg c, if_neg c, if_neg c]
    exact ⟨fun x => absurd x c0, u, rfl, hu⟩
theorem rc_ren (he : e ≤ n) (hn : n ≤ 65536) (h : cEq n mf b) (hb : ∀ j, j < n → b j < 256) : ∀ (k fuel sz w room pl : Nat) (u : Int64), 32768 ≤ sz * 2 ^ k → k < fuel → sz < 65536 → w < 4294967296 → room ≤ 8 → fr ≤ pl → pl ≤ e → u.toInt = (sz * 65536 : Nat) - 1 - (w : Int) →
    PL_X11_readCoded_j_14 (nI fr) (nI (e - fr)) 65536 mf fuel (nI sz) (nI room) (nI (pl + 1 - fr)) (nI (bt e b pl)) u ∧ ∃ u' : Int64, L_X11_readCoded_j_14 (nI fr) (nI (e - fr)) mf fuel (nI sz) (nI room) (nI (pl + 1 - fr)) (nI (bt e b pl)) u = (nI (qRen e b k sz w room pl).1, nI (qRen e b k sz w room pl).2.2.1, nI ((qRen e b k sz w room pl).2.2.2 + 1 - fr), nI (bt e b (qRen e b k sz w room pl).2.2.2), u') ∧ u'.toInt = ((qRen e b k sz w room pl).1 * 65536 : Nat) - 1 - ((qRen e b k sz w room pl).2.1 : Int) := by
  have stay : ∀ (fuel sz w room pl : Nat) (u : Int64), 32768 ≤ sz → sz < 65536 → 0 < fuel → u.toInt = (sz * 65536 : Nat) - 1 - (w : Int) → PL_X11_readCoded_j_14 (nI fr) (nI (e - fr)) 65536 mf fuel (nI sz) (nI room) (nI (pl + 1 - fr)) (nI (bt e b pl)) u ∧ ∃ u' : Int64, L_X11_readCoded_j_14 (nI fr) (nI (e - fr)) mf fuel (nI sz) (nI room) (nI (pl + 1 - fr)) (nI (bt e b pl)) u = (nI sz, nI room, nI (pl + 1 - fr), nI (bt e b pl), u') ∧ u'.toInt = (sz * 65536 : Nat) - 1 - (w : Int) := by
    intro fuel sz w room pl u h1 h2 h3 h4
    obtain ⟨m, rfl⟩ : ∃ m, fuel = m + 1 := ⟨fuel - 1, by omega⟩
    have e : (32768 : Int32) ≤ nI sz := nI_le (a := 32768) h1 (by omega)
    rw [PL_X11_readCoded_j_14, L_X11_readCoded_j_14, if_pos e]
    exact ⟨fun x => absurd e x, u, rfl, h4⟩
  intro k
  induction k with
  | zero =>
    intro fuel sz w room pl u h1 h3 h4 h5 h6 h7 h8 h9
    exact stay fuel sz w room pl u (by simpa using h1) h4 (by omega) h9
  | succ k ih =>
    intro fuel sz w room pl u h1 h3 h4 h5 h6 h7 h8 h9
    by_cases c : 32768 ≤ sz
    · have hs : qRen e b (k + 1) sz w room pl = (sz, w, room, pl) := by rw [qRen, if_pos c]
      rw [hs]
      exact stay fuel sz w room pl u c h4 (by omega) h9
    · obtain ⟨m, rfl⟩ : ∃ m, fuel = m + 1 := ⟨fuel - 1, by omega⟩
      have n32 : ¬ (32768 : Int32) ≤ nI sz := nI_ge (b := 32768) (by omega) (by omega)
      have hk : 32768 ≤ 2 * sz * 2 ^ k := by rw [Nat.pow_succ] at h1; rw [show 2 * sz * 2 ^ k = sz * (2 ^ k * 2) by rw [Nat.mul_comm (2 ^ k) 2, Nat.mul_comm 2 sz, Nat.mul_assoc]]; exact h1
      have hs : qRen e b (k + 1) sz w room pl = qRen e b k (2 * sz) (2 * qW e b room pl w % 4294967296) (qR e b room pl - 1) (qP e b room pl) := by rw [qRen, if_neg c]
      obtain ⟨q1, q2, q3, q4, q5⟩ := q_in (b := b) h6 h8 h5
      obtain ⟨s1, u1, s2, s3⟩ := rc_step (room := room) (pl := pl) (w := w) he hn h7 h hb h6 h8 h4 h5 h9
      have hu2 : (((2 : Int64) * u1) + (1 : Int64)).toInt = (2 * sz * 65536 : Nat) - 1 - ((2 * qW e b room pl w : Nat) : Int) := by
        rw [l_add (l_dbl s3 (by omega) (by omega)) (show (1 : Int64).toInt = 1 by decide) (by omega) (by omega)]
        omega
      have hu3 := round_ok (sz := 2 * sz) (W := 2 * qW e b room pl w) (by omega) (by omega) hu2
      obtain ⟨t1, u', t2, t3⟩ := ih m (2 * sz) (2 * qW e b room pl w % 4294967296) (qR e b room pl - 1) (qP e b room pl) (F_X11_round (nI (2 * sz)) ((2 : Int64) * u1 + (1 : Int64))) hk (by omega) (by omega) (Nat.mod_lt _ (by omega)) (by omega) (by omega) q3 hu3
      rw [PL_X11_readCoded_j_14, L_X11_readCoded_j_14, if_neg n32, hs, nI_add, ← Nat.two_mul]
      refine ⟨fun _ => ⟨s1, fun j ej r er => ?_⟩, u', ?_, t3⟩
      · rw [← er, ← ej, s2]
        show PL_X11_readCoded_j_14 (nI fr) (nI (e - fr)) 65536 mf m (nI (2 * sz)) (nI (qR e b room pl) - 1) (nI (qP e b room pl + 1 - fr)) (nI (bt e b (qP e b room pl))) _
        rw [pred_ok q1]
        exact t1
      · rw [s2]
        show L_X11_readCoded_j_14 (nI fr) (nI (e - fr)) mf m (nI (2 * sz)) (nI (qR e b room pl) - 1) (nI (qP e b room pl + 1 - fr)) (nI (bt e b (qP e b room pl))) _ = _
        rw [pred_ok q1]
        exact t2
theorem rc_same : ∀ (n : Nat) (pl li : Int32) (f : Nat → Int32) (s r x la : Int32) (u : Int64), L_X11_readCoded_j_30 pl li f n s r x la u = L_X11_readCoded_j_14 pl li f n s r x la u := by
  intro n
  induction n with
  | zero => intros; rfl
  | succ n ih =>
    intro pl li f s r x la u
    rw [L_X11_readCoded_j_30, L_X11_readCoded_j_14]
    simp only [ih]
    rfl
theorem rc_sameP : ∀ (n : Nat) (pl li : Int32) (bn : Nat) (f : Nat → Int32) (s r x la : Int32) (u : Int64), PL_X11_readCoded_j_14 pl li bn f n s r x la u → PL_X11_readCoded_j_30 pl li bn f n s r x la u := by
  intro n
  induction n with
  | zero => intro pl li bn f s r x la u h; exact h
  | succ n ih =>
    intro pl li bn f s r x la u h
    rw [PL_X11_readCoded_j_14] at h
    rw [PL_X11_readCoded_j_30]
    exact fun a1 => ⟨(h a1).1, fun j ej r er => ih _ _ _ _ _ _ _ _ _ ((h a1).2 j ej r er)⟩
end
theorem qRen_in (e : Nat) (b : Nat → Nat) : ∀ (k sz w room pl : Nat), 32768 ≤ sz * 2 ^ k → sz < 65536 → w < 4294967296 → room ≤ 8 → pl ≤ e →
    32768 ≤ (qRen e b k sz w room pl).1 ∧ (qRen e b k sz w room pl).1 < 65536 ∧ (qRen e b k sz w room pl).2.1 < 4294967296 ∧ (qRen e b k sz w room pl).2.2.1 ≤ 8 ∧ pl ≤ (qRen e b k sz w room pl).2.2.2 ∧ (qRen e b k sz w room pl).2.2.2 ≤ e := by
  intro k
  induction k with
  | zero => intro sz w room pl h1 h2 h3 h4 h5; exact ⟨by show 32768 ≤ sz; simpa using h1, h2, h3, h4, Nat.le_refl _, h5⟩
  | succ k ih =>
    intro sz w room pl h1 h2 h3 h4 h5
    by_cases c : 32768 ≤ sz
    · rw [show qRen e b (k + 1) sz w room pl = (sz, w, room, pl) by rw [qRen, if_pos c]]
      exact ⟨c, h2, h3, h4, Nat.le_refl _, h5⟩
    · rw [show qRen e b (k + 1) sz w room pl = qRen e b k (2 * sz) (2 * qW e b room pl w % 4294967296) (qR e b room pl - 1) (qP e b room pl) by rw [qRen, if_neg c]]
      have hk : 32768 ≤ 2 * sz * 2 ^ k := by rw [Nat.pow_succ] at h1; rw [show 2 * sz * 2 ^ k = sz * (2 ^ k * 2) by rw [Nat.mul_comm (2 ^ k) 2, Nat.mul_comm 2 sz, Nat.mul_assoc]]; exact h1
      obtain ⟨q1, q2, q3, q4, q5⟩ := q_in (b := b) h4 h5 h3
      obtain ⟨t1, t2, t3, t4, t5, t6⟩ := ih (2 * sz) (2 * qW e b room pl w % 4294967296) (qR e b room pl - 1) (qP e b room pl) hk (by omega) (Nat.mod_lt _ (by omega)) (by omega) q3
      exact ⟨t1, t2, t3, t4, by omega, t6⟩
