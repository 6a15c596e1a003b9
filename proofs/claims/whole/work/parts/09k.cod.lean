/-! ===== PURE: both coders side by side ===== -/
/-- the cells of the class that bits go through -/
abbrev CS : Type := Int32 × Int32 × Nat × (Nat → Int32) × (Nat → Int32) × (Nat → Int32) × Int32 × Int32 × Int32 × Int32 × Int32 × Int32 × Int32 × Int32 × Int32 × Int32 × Int32 × Int32 × Int32
def CS.count (s : CS) : Int32 := s.1
def CS.start (s : CS) : Int32 := s.2.1
def CS.bn (s : CS) : Nat := s.2.2.1
def CS.bf (s : CS) : Nat → Int32 := s.2.2.2.1
def CS.sf (s : CS) : Nat → Int32 := s.2.2.2.2.1
def CS.lf (s : CS) : Nat → Int32 := s.2.2.2.2.2.1
def CS.low (s : CS) : Int32 := s.2.2.2.2.2.2.1
def CS.size (s : CS) : Int32 := s.2.2.2.2.2.2.2.1
def CS.room (s : CS) : Int32 := s.2.2.2.2.2.2.2.2.1
def CS.free (s : CS) : Int32 := s.2.2.2.2.2.2.2.2.2.1
def CS.place (s : CS) : Int32 := s.2.2.2.2.2.2.2.2.2.2.1
def CS.cend (s : CS) : Int32 := s.2.2.2.2.2.2.2.2.2.2.2.1
def CS.window (s : CS) : Int32 := s.2.2.2.2.2.2.2.2.2.2.2.2.1
def CS.csize (s : CS) : Int32 := s.2.2.2.2.2.2.2.2.2.2.2.2.2.1
def CS.croom (s : CS) : Int32 := s.2.2.2.2.2.2.2.2.2.2.2.2.2.2.1
def CS.rplace (s : CS) : Int32 := s.2.2.2.2.2.2.2.2.2.2.2.2.2.2.2.1
def CS.rend (s : CS) : Int32 := s.2.2.2.2.2.2.2.2.2.2.2.2.2.2.2.2.1
def CS.cur (s : CS) : Int32 := s.2.2.2.2.2.2.2.2.2.2.2.2.2.2.2.2.2.1
def CS.left (s : CS) : Int32 := s.2.2.2.2.2.2.2.2.2.2.2.2.2.2.2.2.2.2
/-- the reference's -/
abbrev MS : Type := Int32 × Int32 × Int32 × Int32 × Int32 × Int32 × Int32 × Int32 × Int32 × Int32 × Int64 × (Nat → Int32) × (Nat → Int32) × (Nat → Int32)
def MS.size (s : MS) : Int32 := s.1
def MS.begin (s : MS) : Int32 := s.2.1
def MS.low (s : MS) : Int32 := s.2.2.1
def MS.carried (s : MS) : Int32 := s.2.2.2.1
def MS.span (s : MS) : Int32 := s.2.2.2.2.1
def MS.room (s : MS) : Int32 := s.2.2.2.2.2.1
def MS.place (s : MS) : Int32 := s.2.2.2.2.2.2.1
def MS.limit (s : MS) : Int32 := s.2.2.2.2.2.2.2.1
def MS.next (s : MS) : Int32 := s.2.2.2.2.2.2.2.2.1
def MS.last (s : MS) : Int32 := s.2.2.2.2.2.2.2.2.2.1
def MS.upper (s : MS) : Int64 := s.2.2.2.2.2.2.2.2.2.2.1
def MS.sf (s : MS) : Nat → Int32 := s.2.2.2.2.2.2.2.2.2.2.2.1
def MS.lf (s : MS) : Nat → Int32 := s.2.2.2.2.2.2.2.2.2.2.2.2.1
def MS.bf (s : MS) : Nat → Int32 := s.2.2.2.2.2.2.2.2.2.2.2.2.2
def CS.T (c : CS) (v : Int32) : (Int32 × Int32 × Nat × (Nat → Int32) × (Nat → Int32) × (Nat → Int32) × Int32 × Int32 × Int32 × Int32 × Int32 × Int32 × Int32 × Int32 × Int32 × Int32 × Int32) :=
  (v, c.count, c.bn, c.bf, c.sf, c.lf, c.low, c.size, c.room, c.free, c.place, c.window, c.csize, c.croom, c.rplace, c.cur, c.left)
def MS.T (m : MS) (v : Int32) : (Int32 × Int32 × Int32 × Int32 × Int32 × Int32 × Int32 × Int32 × Int64 × (Nat → Int32) × (Nat → Int32) × (Nat → Int32)) :=
  (v, m.size, m.low, m.carried, m.span, m.room, m.next, m.last, m.upper, m.sf, m.lf, m.bf)
/-- contexts and bytes are the same, as numbers -/
def Tie (c : CS) (m : MS) (cs cl b : Nat → Nat) (n : Nat) : Prop :=
  (cEq 19 c.sf cs) ∧
  (cEq 19 c.lf cl) ∧
  (cEq 19 m.sf cs) ∧
  (cEq 19 m.lf cl) ∧
  (cOk cs cl) ∧
  (c.count = nI n) ∧
  (rOk n c.bn c.bf b) ∧
  (m.size = nI n) ∧
  (cEq n m.bf b) ∧
  (∀ j, j < n → b j < 256) ∧
  (n ≤ 65536)
theorem Tie.hcs {c : CS} {m : MS} {cs cl b : Nat → Nat} {n : Nat} (h : Tie c m cs cl b n) : cEq 19 c.sf cs := h.1
theorem Tie.hcl {c : CS} {m : MS} {cs cl b : Nat → Nat} {n : Nat} (h : Tie c m cs cl b n) : cEq 19 c.lf cl := h.2.1
theorem Tie.hms {c : CS} {m : MS} {cs cl b : Nat → Nat} {n : Nat} (h : Tie c m cs cl b n) : cEq 19 m.sf cs := h.2.2.1
theorem Tie.hml {c : CS} {m : MS} {cs cl b : Nat → Nat} {n : Nat} (h : Tie c m cs cl b n) : cEq 19 m.lf cl := h.2.2.2.1
theorem Tie.ok {c : CS} {m : MS} {cs cl b : Nat → Nat} {n : Nat} (h : Tie c m cs cl b n) : cOk cs cl := h.2.2.2.2.1
theorem Tie.cnt {c : CS} {m : MS} {cs cl b : Nat → Nat} {n : Nat} (h : Tie c m cs cl b n) : c.count = nI n := h.2.2.2.2.2.1
theorem Tie.row {c : CS} {m : MS} {cs cl b : Nat → Nat} {n : Nat} (h : Tie c m cs cl b n) : rOk n c.bn c.bf b := h.2.2.2.2.2.2.1
theorem Tie.siz {c : CS} {m : MS} {cs cl b : Nat → Nat} {n : Nat} (h : Tie c m cs cl b n) : m.size = nI n := h.2.2.2.2.2.2.2.1
theorem Tie.mb {c : CS} {m : MS} {cs cl b : Nat → Nat} {n : Nat} (h : Tie c m cs cl b n) : cEq n m.bf b := h.2.2.2.2.2.2.2.2.1
theorem Tie.by8 {c : CS} {m : MS} {cs cl b : Nat → Nat} {n : Nat} (h : Tie c m cs cl b n) : ∀ j, j < n → b j < 256 := h.2.2.2.2.2.2.2.2.2.1
theorem Tie.top {c : CS} {m : MS} {cs cl b : Nat → Nat} {n : Nat} (h : Tie c m cs cl b n) : n ≤ 65536 := h.2.2.2.2.2.2.2.2.2.2
def Cod0 (N K : Nat) (c : CS) (m : MS) : Prop := ∃ (cs cl b : Nat → Nat) (n st low sz room z : Nat), Tie c m cs cl b n ∧ c.start = nI st ∧ m.begin = nI st ∧ st ≤ n ∧ 32768 ≤ sz ∧ sz < 65536 ∧ (low + sz) * 2 ^ room ≤ 150994944 ∧ 1 ≤ room ∧ room ≤ 12 ∧ zOk st n b z ∧
  c.low = nI low ∧ c.size = nI sz ∧ c.room = nI room ∧ m.low = nI (rLow st n b low room) ∧ m.carried = bI (rCar st n b low room) ∧ m.span = nI sz ∧ m.room = nI room ∧ 75 * n + 2 * phiS cs 19 + 2 * psi sz ≤ 36 * N + 10 * room + 5 * z + K
def Cod1 (N K : Nat) (c : CS) (m : MS) : Prop := ∃ (cs cl b : Nat → Nat) (n st free : Nat), Tie c m cs cl b n ∧ c.start = nI st ∧ m.begin = nI st ∧ wOk st free n b ∧ c.free = nI free ∧ m.room = nI free ∧ 75 * n + 2 * phiS cs 19 ≤ 36 * N + 10 * free + K
def Cod2 (c : CS) (m : MS) : Prop := ∃ (cs cl b : Nat → Nat) (n e fr sz w room pl : Nat), Tie c m cs cl b n ∧ e ≤ n ∧ fr ≤ pl ∧ pl ≤ e ∧ 32768 ≤ sz ∧ sz < 65536 ∧ w < 4294967296 ∧ room ≤ 8 ∧
  c.place = nI pl ∧ c.cend = nI e ∧ c.window = nI w ∧ c.csize = nI sz ∧ c.croom = nI room ∧ m.place = nI fr ∧ m.limit = nI (e - fr) ∧ m.next = nI (pl + 1 - fr) ∧ m.last = nI (bt e b pl) ∧ m.span = nI sz ∧ m.room = nI room ∧ m.upper.toInt = (sz * 65536 : Nat) - 1 - (w : Int)
def Cod3 (N : Nat) (c : CS) (m : MS) : Prop := ∃ (cs cl b : Nat → Nat) (n e fr left cur pl : Nat), Tie c m cs cl b n ∧ e ≤ n ∧ fr ≤ pl ∧ fr ≤ e ∧ pl ≤ fr + N ∧ left ≤ 8 ∧ cur < 256 ∧ (pl = fr → cur ≠ 255) ∧
  c.rplace = nI pl ∧ c.rend = nI e ∧ c.cur = nI cur ∧ c.left = nI left ∧ m.place = nI fr ∧ m.limit = nI (e - fr) ∧ m.next = nI (pl - fr) ∧ m.last = nI cur ∧ m.room = nI left
/-- 0 coded writer, 1 raw writer, 2 coded reader, 3 raw reader; N bits so far; K what else was spent -/
def Cod (bk N K : Nat) (c : CS) (m : MS) : Prop := match bk with
  | 0 => Cod0 N K c m
  | 1 => Cod1 N K c m
  | 2 => Cod2 c m
  | _ => Cod3 N c m
def wrI (bk : Nat) : Int32 := if bk < 2 then 1 else 0
def rawI (bk : Nat) : Int32 := if bk % 2 = 1 then 1 else 0
def Kept (bk : Nat) (c c' : CS) (m m' : MS) : Prop := c'.start = c.start ∧ c'.cend = c.cend ∧ c'.rend = c.rend ∧ m'.begin = m.begin ∧ m'.place = m.place ∧ m'.limit = m.limit ∧ c.bn ≤ c'.bn ∧ (2 ≤ bk → c'.count = c.count ∧ c'.bn = c.bn ∧ c'.bf = c.bf ∧ m'.size = m.size ∧ m'.bf = m.bf)
theorem Kept.refl (bk : Nat) (c : CS) (m : MS) : Kept bk c c m m := ⟨rfl, rfl, rfl, rfl, rfl, rfl, Nat.le_refl _, fun _ => ⟨rfl, rfl, rfl, rfl, rfl⟩⟩
theorem Kept.trans {bk : Nat} {c c1 c2 : CS} {m m1 m2 : MS} (h1 : Kept bk c c1 m m1) (h2 : Kept bk c1 c2 m1 m2) : Kept bk c c2 m m2 := by
  obtain ⟨a1, a2, a3, a4, a5, a6, a7, a8⟩ := h1
  obtain ⟨b1, b2, b3, b4, b5, b6, b7, b8⟩ := h2
  refine ⟨b1.trans a1, b2.trans a2, b3.trans a3, b4.trans a4, b5.trans a5, b6.trans a6, Nat.le_trans a7 b7, fun h => ?_⟩
  obtain ⟨x1, x2, x3, x4, x5⟩ := a8 h
  obtain ⟨y1, y2, y3, y4, y5⟩ := b8 h
  exact ⟨y1.trans x1, y2.trans x2, y3.trans x3, y4.trans x4, y5.trans x5⟩
/-- a bit goes through on both sides alike -/
def NextOut (bk N K k k' bit bit' : Nat) (c : CS) (m : MS) (mp mo : Nat → Int32) : Prop :=
    ∃ (v : Nat) (c' : CS) (m' : MS), v < 2 ∧ (bk < 2 → v = bit) ∧ F_B_next c.count c.start c.bn c.bf 19 c.sf 19 c.lf c.low c.size c.room c.free c.place c.cend c.window c.csize c.croom c.rplace c.rend c.cur c.left (nI bit) (nI k) bk = c'.T (nI v) ∧
    P_B_next c.count c.start c.bn c.bf 19 c.sf 19 c.lf c.low c.size c.room c.free c.place c.cend c.window c.csize c.croom c.rplace c.rend c.cur c.left (nI bit) (nI k) bk ∧
    D_B_next c.count c.start c.bn c.bf 19 c.sf 19 c.lf c.low c.size c.room c.free c.place c.cend c.window c.csize c.croom c.rplace c.rend c.cur c.left (nI bit) (nI k) bk + 3 * c.bn ≤ 3 * c'.bn ∧
    F_X11_code (nI k') (nI bit') (wrI bk) (rawI bk) m.size m.begin m.low m.carried m.span m.room m.place m.limit m.next m.last m.upper mp mo m.sf m.lf m.bf = m'.T (nI v) ∧
    P_X11_code (nI k') (nI bit') (wrI bk) (rawI bk) m.size m.begin m.low m.carried m.span m.room m.place m.limit m.next m.last m.upper 47 mp 47 mo 19 m.sf 19 m.lf 65536 m.bf ∧ Kept bk c c' m m' ∧ Cod bk (N + 1) K c' m'
theorem next0 {N K k k' bit bit' : Nat} {c : CS} {m : MS} {mp mo : Nat → Int32} (hmp : cEq 47 mp nP) (hmo : cEq 47 mo nO) (h : Cod 0 N K c m) (hk : k < 19) (hk' : 0 % 2 = 0 → k' = k) (hb : bit < 2) (hb' : 0 < 2 → bit' = bit) (hL : 36 * N + K ≤ 4913000) : NextOut 0 N K k k' bit bit' c m mp mo := by
  have n10 : ¬ (1 : Int32) = 0 := by decide
  obtain ⟨cs, cl, b, n, st, lw, sz, rm, z, ⟨t1, t2, t3, t4, t5, t6, t7, t8, t9, t10, t11⟩, e1, e2, e3, e4, e5, e6, e7, e8, e9, e10, e11, e12, e13, e14, e15, e16, e17⟩ := h
  obtain rfl := hk' rfl
  obtain rfl := hb' (by omega)
  have hz1 : z ≤ 1 := by rcases e9 with q | q <;> omega
  have hn : n + 15 < 65536 := by omega
  obtain ⟨a1, n', f', sf', lf', a2, a3, a4, a5, a6, a7⟩ := n3_next c.free c.place c.window c.csize c.croom c.rplace c.cur c.left hk hb t1 t2 t5 e4 e5 (inv28 e6 e8) e7 e8 t7 e3 t10 (by omega)
  obtain ⟨b1, g', msf', mlf', b2, b3, b4, b5⟩ := x11_wc hmp hmo hk hb t3 t4 t5 e4 e5 (inv28 e6 e8) e7 e8 t9 e3 t10 hn
  obtain ⟨d1, d2, d3, d4, d5, d6, d7, d8, d9, z', d10, d11⟩ := next_inv (bit := bit') hk t5 e4 e5 e6 e7 e8 e3 t10 e9
  have hz2 : z' ≤ 1 := by rcases d10 with q | q <;> omega
  refine ⟨bit', (nI (sNext st k' bit' cs cl sz lw rm n b).2.2.2.2.1, nI st, n', f', sf', lf', nI (sNext st k' bit' cs cl sz lw rm n b).2.2.1, nI (sNext st k' bit' cs cl sz lw rm n b).2.1, nI (sNext st k' bit' cs cl sz lw rm n b).2.2.2.1, c.free, c.place, c.cend, c.window, c.csize, c.croom, c.rplace, c.rend, c.cur, c.left), (nI (sNext st k' bit' cs cl sz lw rm n b).2.2.2.2.1, nI st, nI (rLow st (sNext st k' bit' cs cl sz lw rm n b).2.2.2.2.1 (sNext st k' bit' cs cl sz lw rm n b).2.2.2.2.2 (sNext st k' bit' cs cl sz lw rm n b).2.2.1 (sNext st k' bit' cs cl sz lw rm n b).2.2.2.1), bI (rCar st (sNext st k' bit' cs cl sz lw rm n b).2.2.2.2.1 (sNext st k' bit' cs cl sz lw rm n b).2.2.2.2.2 (sNext st k' bit' cs cl sz lw rm n b).2.2.1 (sNext st k' bit' cs cl sz lw rm n b).2.2.2.1), nI (sNext st k' bit' cs cl sz lw rm n b).2.1, nI (sNext st k' bit' cs cl sz lw rm n b).2.2.2.1, m.place, m.limit, m.next, m.last, m.upper, msf', mlf', g'), hb, fun _ => rfl, ?_, ?_, ?_, ?_, ?_, ⟨e1.symm, rfl, rfl, e2.symm, rfl, rfl, a6, fun x => absurd x (by omega)⟩, ?_⟩
  · rw [t6, e1, e10, e11, e12]; exact a2
  · rw [t6, e1, e10, e11, e12]; exact a1
  · rw [t6, e1, e10, e11, e12]; exact a7
  · rw [t8, e2, e13, e14, e15, e16]
    unfold F_X11_code
    rw [show wrI 0 = 1 by rfl, show rawI 0 = 0 by rfl, if_neg n10, if_pos rfl, b2]
    rfl
  · rw [t8, e2, e13, e14, e15, e16]
    exact ⟨fun x => absurd x n10, fun _ => ⟨fun _ => b1, fun x => absurd rfl x⟩⟩
  · exact ⟨_, _, _, _, _, _, _, _, z', ⟨a4, a5, b4, b5, d1, rfl, a3, rfl, b3, d8, by omega⟩, rfl, rfl, by omega, d2, d3, d4, d5, d6, d10, rfl, rfl, rfl, rfl, rfl, rfl, rfl, by omega⟩
theorem next1 {N K k k' bit bit' : Nat} {c : CS} {m : MS} {mp mo : Nat → Int32} (hmp : cEq 47 mp nP) (hmo : cEq 47 mo nO) (h : Cod 1 N K c m) (hk : k < 19) (hk' : 1 % 2 = 0 → k' = k) (hb : bit < 2) (hb' : 1 < 2 → bit' = bit) (hL : 36 * N + K ≤ 4913000) : NextOut 1 N K k k' bit bit' c m mp mo := by
  have n10 : ¬ (1 : Int32) = 0 := by decide
  obtain ⟨cs, cl, b, n, st, fr, ⟨t1, t2, t3, t4, t5, t6, t7, t8, t9, t10, t11⟩, e1, e2, e3, e4, e5, e6⟩ := h
  obtain rfl := hb' (by omega)
  have hfr := e3.2.1
  have hn : n + 15 < 65536 := by omega
  obtain ⟨a1, n', f', a2, a3, a4, a5⟩ := n8_next c.sf c.lf c.low c.size c.room c.place c.window c.csize c.croom c.rplace c.cur c.left e3 hb t7 (by omega)
  obtain ⟨b1, g', b2, b3⟩ := x11_wr e3 hb t9 (by omega)
  obtain ⟨w1, w2, w3, w4, w5, w6, w7, w8, w9⟩ := w_inv e3 hb
  refine ⟨bit', (nI (wN fr n), nI st, n', f', c.sf, c.lf, c.low, c.size, c.room, nI (wFr st fr n b - 1), c.place, c.cend, c.window, c.csize, c.croom, c.rplace, c.rend, c.cur, c.left), (nI (wN fr n), nI st, m.low, m.carried, m.span, nI (wFr st fr n b - 1), m.place, m.limit, m.next, m.last, m.upper, m.sf, m.lf, g'), hb, fun _ => rfl, ?_, ?_, ?_, ?_, ?_, ⟨e1.symm, rfl, rfl, e2.symm, rfl, rfl, a4, fun x => absurd x (by omega)⟩, ?_⟩
  · rw [t6, e1, e4]; exact a2
  · rw [t6, e1, e4]; exact a1
  · rw [t6, e1, e4]; exact a5
  · rw [t8, e2, e5]
    unfold F_X11_code
    rw [show wrI 1 = 1 by rfl, show rawI 1 = 1 by rfl, if_neg n10, if_neg n10, b2]
    rfl
  · rw [t8, e2, e5]
    exact ⟨fun x => absurd x n10, fun _ => ⟨fun x => absurd x n10, fun _ => b1⟩⟩
  · exact ⟨cs, cl, _, _, st, _, ⟨t1, t2, t3, t4, t5, rfl, a3, rfl, b3, w7.2.2.2, by omega⟩, rfl, rfl, w7, rfl, rfl, by omega⟩
theorem next2 {N K k k' bit bit' : Nat} {c : CS} {m : MS} {mp mo : Nat → Int32} (hmp : cEq 47 mp nP) (hmo : cEq 47 mo nO) (h : Cod 2 N K c m) (hk : k < 19) (hk' : 2 % 2 = 0 → k' = k) (hb : bit < 2) (hb' : 2 < 2 → bit' = bit) (hL : 36 * N + K ≤ 4913000) : NextOut 2 N K k k' bit bit' c m mp mo := by
  have n10 : ¬ (1 : Int32) = 0 := by decide
  obtain ⟨cs, cl, b, n, e, fr, sz, w, rm, pl, ⟨t1, t2, t3, t4, t5, t6, t7, t8, t9, t10, t11⟩, e1, e2, e3, e4, e5, e6, e7, e8, e9, e10, e11, e12, e13, e14, e15, e16, e17, e18, e19⟩ := h
  obtain rfl := hk' rfl
  obtain ⟨r1, r2, r3, r4⟩ := id t7
  obtain ⟨a1, sf', lf', a2, a3, a4⟩ := n2_next c.low c.size c.room c.free c.rplace c.cur c.left hk t1 t2 t5 e1 r1 r3 r4 t10 e4 e5 e6 e7 e3
  obtain ⟨b1, u', msf', mlf', b2, b3, b4, b5⟩ := rc_next hmp hmo hk t3 t4 t5 e1 t11 e2 t9 t10 e4 e5 e6 e7 e3 e19
  obtain ⟨d1, d2, d3, d4, d5, d6, d7, d8⟩ := qNext_in (b := b) hk t5 e4 e5 e6 e7 e3
  refine ⟨(qNext e b k' cs cl sz w rm pl).1, (nI n, c.start, c.bn, c.bf, sf', lf', c.low, c.size, c.room, c.free, nI (qNext e b k' cs cl sz w rm pl).2.2.2.2.2, nI e, nI (qNext e b k' cs cl sz w rm pl).2.2.2.1, nI (qNext e b k' cs cl sz w rm pl).2.2.1, nI (qNext e b k' cs cl sz w rm pl).2.2.2.2.1, c.rplace, c.rend, c.cur, c.left), (nI n, m.begin, m.low, m.carried, nI (qNext e b k' cs cl sz w rm pl).2.2.1, nI (qNext e b k' cs cl sz w rm pl).2.2.2.2.1, nI fr, nI (e - fr), nI ((qNext e b k' cs cl sz w rm pl).2.2.2.2.2 + 1 - fr), nI (bt e b (qNext e b k' cs cl sz w rm pl).2.2.2.2.2), u', msf', mlf', m.bf), d1, fun x => absurd x (by omega), ?_, ?_, ?_, ?_, ?_, ⟨rfl, e9.symm, rfl, rfl, e13.symm, e14.symm, Nat.le_refl _, fun _ => ⟨t6.symm, rfl, rfl, t8.symm, rfl⟩⟩, ?_⟩
  · rw [t6, e8, e9, e10, e11, e12]; exact a2
  · rw [t6, e8, e9, e10, e11, e12]; exact a1
  · show 0 + 3 * c.bn ≤ 3 * c.bn; omega
  · rw [e13, e14, e15, e16, e17, e18]
    unfold F_X11_code
    rw [show wrI 2 = 0 by rfl, show rawI 2 = 0 by rfl, if_pos rfl, if_pos rfl, b2, t8]
    rfl
  · rw [e13, e14, e15, e16, e17, e18]
    exact ⟨fun _ => ⟨fun _ => b1, fun x => absurd rfl x⟩, fun x => absurd rfl x⟩
  · exact ⟨_, _, b, n, e, fr, _, _, _, _, ⟨a3, a4, b4, b5, d2, rfl, t7, rfl, t9, t10, t11⟩, e1, by omega, d8, d3, d4, d5, d6, rfl, rfl, rfl, rfl, rfl, rfl, rfl, rfl, rfl, rfl, rfl, b3⟩
theorem next3 {N K k k' bit bit' : Nat} {c : CS} {m : MS} {mp mo : Nat → Int32} (hmp : cEq 47 mp nP) (hmo : cEq 47 mo nO) (h : Cod 3 N K c m) (hk : k < 19) (hk' : 3 % 2 = 0 → k' = k) (hb : bit < 2) (hb' : 3 < 2 → bit' = bit) (hL : 36 * N + K ≤ 4913000) : NextOut 3 N K k k' bit bit' c m mp mo := by
  have n10 : ¬ (1 : Int32) = 0 := by decide
  obtain ⟨cs, cl, b, n, e, fr, lt, cu, pl, ⟨t1, t2, t3, t4, t5, t6, t7, t8, t9, t10, t11⟩, e1, e2, e3, e4, e5, e6, e7, e8, e9, e10, e11, e12, e13, e14, e15, e16⟩ := h
  obtain ⟨r1, r2, r3, r4⟩ := id t7
  obtain ⟨a1, a2⟩ := n7_next c.sf c.lf c.low c.size c.room c.free c.place c.window c.csize c.croom e1 r1 r3 r4 t10 e5 e6 (show pl < 2 ^ 30 by omega)
  obtain ⟨b1, b2⟩ := rr_next e1 t11 e2 e3 t9 t10 e5 e6 (show pl < 2 ^ 30 by omega) e7
  obtain ⟨g1, g2, g3, g4, g5, g6⟩ := g_in (pl := pl) e1 t10 e5 e6
  refine ⟨gV e b lt cu pl, (nI n, c.start, c.bn, c.bf, c.sf, c.lf, c.low, c.size, c.room, c.free, c.place, c.cend, c.window, c.csize, c.croom, nI (gP lt pl), nI e, nI (gC e b lt cu pl), nI (gL lt cu - 1)), (nI n, m.begin, m.low, m.carried, m.span, nI (gL lt cu - 1), nI fr, nI (e - fr), nI (gP lt pl - fr), nI (gC e b lt cu pl), m.upper, m.sf, m.lf, m.bf), g6, fun x => absurd x (by omega), ?_, ?_, ?_, ?_, ?_, ⟨rfl, rfl, e9.symm, rfl, e12.symm, e13.symm, Nat.le_refl _, fun _ => ⟨t6.symm, rfl, rfl, t8.symm, rfl⟩⟩, ?_⟩
  · rw [t6, e8, e9, e10, e11]; exact a2
  · rw [t6, e8, e9, e10, e11]; exact a1
  · show 0 + 3 * c.bn ≤ 3 * c.bn; omega
  · rw [e12, e13, e14, e15, e16]
    unfold F_X11_code
    rw [show wrI 3 = 0 by rfl, show rawI 3 = 1 by rfl, if_pos rfl, if_neg n10, b2, t8]
    rfl
  · rw [e12, e13, e14, e15, e16]
    exact ⟨fun _ => ⟨fun x => absurd x n10, fun _ => b1⟩, fun x => absurd rfl x⟩
  · refine ⟨cs, cl, b, n, e, fr, _, _, _, ⟨t1, t2, t3, t4, t5, rfl, t7, rfl, t9, t10, t11⟩, e1, by omega, e3, by omega, by omega, g3, ?_, rfl, rfl, rfl, rfl, rfl, rfl, rfl, rfl, rfl⟩
    intro hq
    have hl0 : lt ≠ 0 := fun x => by unfold gP at hq; rw [if_pos x] at hq; omega
    unfold gC gP at *
    rw [if_neg hl0] at hq ⊢
    exact e7 hq
theorem next_sim {bk N K k k' bit bit' : Nat} {c : CS} {m : MS} {mp mo : Nat → Int32} (hmp : cEq 47 mp nP) (hmo : cEq 47 mo nO) (h : Cod bk N K c m) (hbk : bk < 4) (hk : k < 19) (hk' : bk % 2 = 0 → k' = k) (hb : bit < 2) (hb' : bk < 2 → bit' = bit) (hL : 36 * N + K ≤ 4913000) : NextOut bk N K k k' bit bit' c m mp mo := by
  rcases (show bk = 0 ∨ bk = 1 ∨ bk = 2 ∨ bk = 3 by omega) with rfl | rfl | rfl | rfl
  · exact next0 hmp hmo h hk hk' hb hb' hL
  · exact next1 hmp hmo h hk hk' hb hb' hL
  · exact next2 hmp hmo h hk hk' hb hb' hL
  · exact next3 hmp hmo h hk hk' hb hb' hL
