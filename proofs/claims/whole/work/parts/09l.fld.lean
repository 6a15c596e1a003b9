/-! ===== PURE: the field as numbers ===== -/
abbrev GF : Type := (Nat → Nat → Bool) × (Nat → Nat → Bool) × (Nat → Nat → Nat) × (Nat → Nat → Nat) × (Nat → Nat → Bool) × (Nat → Nat → Bool)
def GF.sg (s : GF) : Nat → Nat → Bool := s.1
def GF.ng (s : GF) : Nat → Nat → Bool := s.2.1
def GF.kn (s : GF) : Nat → Nat → Nat := s.2.2.1
def GF.lt (s : GF) : Nat → Nat → Nat := s.2.2.2.1
def GF.sn (s : GF) : Nat → Nat → Bool := s.2.2.2.2.1
def GF.ag (s : GF) : Nat → Nat → Bool := s.2.2.2.2.2
def s1 (G : GF) (x y : Nat) : Nat := if G.sg x y then 1 else 0
def m1 (G : GF) (x y : Nat) : Nat := if G.sg x y && G.ng x y then 1 else 0
/-- does row y see the row below it -/
def vis (cz : Bool) (y : Nat) : Bool := !(cz && (y + 1) % 4 == 0)
def hC (G : GF) (x y : Nat) : Nat := (if 1 ≤ x then s1 G (x - 1) y else 0) + s1 G (x + 1) y
def vC (cz : Bool) (G : GF) (x y : Nat) : Nat := (if 1 ≤ y then s1 G x (y - 1) else 0) + (if vis cz y then s1 G x (y + 1) else 0)
def dC (cz : Bool) (G : GF) (x y : Nat) : Nat := (if 1 ≤ y then (if 1 ≤ x then s1 G (x - 1) (y - 1) else 0) else 0) + (if 1 ≤ y then s1 G (x + 1) (y - 1) else 0) + ((if vis cz y then (if 1 ≤ x then s1 G (x - 1) (y + 1) else 0) else 0) + (if vis cz y then s1 G (x + 1) (y + 1) else 0))
def hM (G : GF) (x y : Nat) : Nat := (if 1 ≤ x then m1 G (x - 1) y else 0) + m1 G (x + 1) y
def vM (cz : Bool) (G : GF) (x y : Nat) : Nat := (if 1 ≤ y then m1 G x (y - 1) else 0) + (if vis cz y then m1 G x (y + 1) else 0)
def bN (b : Bool) : Nat := if b then 1 else 0
theorem bN_le (b : Bool) : bN b ≤ 1 := by cases b <;> decide
def markN (cz : Bool) (G : GF) (x y : Nat) : Nat := hC G x y + 4 * vC cz G x y + 16 * dC cz G x y + 128 * hM G x y + 512 * vM cz G x y + 2048 * bN (G.sg x y) + 4096 * bN (G.ng x y) + 8192 * bN (G.sn x y) + 16384 * bN (G.ag x y) + 65536 * G.lt x y
theorem s1_le (G : GF) (x y : Nat) : s1 G x y ≤ 1 := by unfold s1; split <;> omega
theorem m1_le (G : GF) (x y : Nat) : m1 G x y ≤ s1 G x y := by
  unfold m1 s1
  cases G.sg x y <;> cases G.ng x y <;> decide
theorem hC_le (G : GF) (x y : Nat) : hC G x y ≤ 2 := by
  have h1 := s1_le G (x - 1) y
  have h2 := s1_le G (x + 1) y
  unfold hC
  split <;> omega
theorem vC_le (cz : Bool) (G : GF) (x y : Nat) : vC cz G x y ≤ 2 := by
  have h1 := s1_le G x (y - 1)
  have h2 := s1_le G x (y + 1)
  unfold vC
  split <;> split <;> omega
theorem dC_le (cz : Bool) (G : GF) (x y : Nat) : dC cz G x y ≤ 4 := by
  have h1 := s1_le G (x - 1) (y - 1)
  have h2 := s1_le G (x + 1) (y - 1)
  have h3 := s1_le G (x - 1) (y + 1)
  have h4 := s1_le G (x + 1) (y + 1)
  unfold dC
  split <;> split <;> (try split) <;> omega
theorem hM_le (G : GF) (x y : Nat) : hM G x y ≤ hC G x y := by
  have h1 := m1_le G (x - 1) y
  have h2 := m1_le G (x + 1) y
  unfold hM hC
  split <;> omega
theorem vM_le (cz : Bool) (G : GF) (x y : Nat) : vM cz G x y ≤ vC cz G x y := by
  have h1 := m1_le G x (y - 1)
  have h2 := m1_le G x (y + 1)
  unfold vM vC
  split <;> split <;> omega
theorem markN_lt {cz : Bool} {G : GF} {x y : Nat} (h : G.lt x y ≤ 30) : markN cz G x y < 2031616 := by
  have a1 := hC_le G x y
  have a2 := vC_le cz G x y
  have a3 := dC_le cz G x y
  have a4 := hM_le G x y
  have a5 := vM_le cz G x y
  have b1 := bN_le (G.sg x y)
  have b2 := bN_le (G.ng x y)
  have b3 := bN_le (G.sn x y)
  have b4 := bN_le (G.ag x y)
  unfold markN
  omega
/-- what stands where in a mark -/
theorem mark_bits (cz : Bool) (G : GF) (x y : Nat) : markN cz G x y % 4 = hC G x y ∧ markN cz G x y / 4 % 4 = vC cz G x y ∧ markN cz G x y / 16 % 8 = dC cz G x y ∧ markN cz G x y / 128 % 4 = hM G x y ∧ markN cz G x y / 512 % 4 = vM cz G x y ∧ markN cz G x y / 2048 % 2 = bN (G.sg x y) ∧ markN cz G x y / 4096 % 2 = bN (G.ng x y) ∧ markN cz G x y / 8192 % 2 = bN (G.sn x y) ∧ markN cz G x y / 16384 % 2 = bN (G.ag x y) ∧ markN cz G x y / 65536 = G.lt x y := by
  have a1 := hC_le G x y
  have a2 := vC_le cz G x y
  have a3 := dC_le cz G x y
  have a4 := hM_le G x y
  have a5 := vM_le cz G x y
  have b1 := bN_le (G.sg x y)
  have b2 := bN_le (G.ng x y)
  have b3 := bN_le (G.sn x y)
  have b4 := bN_le (G.ag x y)
  unfold markN
  refine ⟨?_, ?_, ?_, ?_, ?_, ?_, ?_, ?_, ?_, ?_⟩ <;> omega
