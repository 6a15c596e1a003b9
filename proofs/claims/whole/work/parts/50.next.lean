/-- which of the four a Scan writes to or reads from: 0 coded writer, 1 raw writer, 2 coded reader, 3 raw reader -/
def bsel (bk a_cw a_rw a_cr a_rr : Nat) : Nat := match bk with
  | 0 => a_cw
  | 1 => a_rw
  | 2 => a_cr
  | _ => a_rr
abbrev xBits : MethodName := ⟨"PlaneBlocks$Bits", "next", "(II)I"⟩
theorem nw_moved {x : MethodName} {s U : State} (h : s.vm.Alike U.vm) (hZ : va_Nw (.declares x) s) : va_Nw (.declares x) U := va_tabs rfl (rfl : (s.setVm U.vm).vm = U.vm) (by rw [Cond.declares_setVm h]; exact hZ)
def Zd (tP tN tO : Nat) (A : Nat → Prop) (U : State) (H : Heap) : Prop := Zs tP tN tO A U H ∧ va_Nw (.declares xBits) U
theorem Zd.moved {tP tN tO : Nat} {A : Nat → Prop} {u U : State} {H : Heap} (hvm : u.vm.Alike U.vm) (h : Zd tP tN tO A u H) : Zd tP tN tO A U H := ⟨h.1.moved hvm, nw_moved hvm h.2⟩
theorem Zd.kept {tP tN tO : Nat} {A : Nat → Prop} {U : State} {H H1 : Heap} (h : Zd tP tN tO A U H) (hq : ∀ a : Nat, a < H.size → ¬ A a → H1[a]? = H[a]?) : Zd tP tN tO A U H1 := ⟨h.1.kept hq, h.2⟩
theorem Zd.narrow {tP tN tO : Nat} {A B : Nat → Prop} {U : State} {H : Heap} (h : Zd tP tN tO A U H) (hAB : ∀ q, B q → A q) : Zd tP tN tO B U H := ⟨h.1.narrow hAB, h.2⟩

abbrev wd_row_bytes_ctx_states_likely_cw_rw_cr_rr (cI : ClassId) (a_row : Nat) (a_bytes : Nat) (a_ctx : Nat) (a_states : Nat) (a_likely : Nat) (a_cw : Nat) (a_rw : Nat) (a_cr : Nat) (a_rr : Nat) (row_count : Int32) (row_start : Int32) (bytes_n : Nat) (bytes_f : Nat → Int32) (states_n : Nat) (states_f : Nat → Int32) (likely_n : Nat) (likely_f : Nat → Int32) (cw_low : Int32) (cw_size : Int32) (cw_room : Int32) (rw_free : Int32) (cr_place : Int32) (cr_end : Int32) (cr_window : Int32) (cr_size : Int32) (cr_room : Int32) (rr_place : Int32) (rr_end : Int32) (rr_current : Int32) (rr_left : Int32) : va_W := [(a_row, .inr (0, [.ref a_bytes, .int row_count, .int row_start])), (a_bytes, .inl (cI, bytes_n, .inl bytes_f)), (a_ctx, .inr (3, [.ref a_states, .ref a_likely])), (a_states, .inl (cI, states_n, .inl states_f)), (a_likely, .inl (cI, likely_n, .inl likely_f)), (a_cw, .inr (2, [.ref a_row, .ref a_ctx, .int cw_low, .int cw_size, .int cw_room])), (a_rw, .inr (7, [.ref a_row, .int rw_free])), (a_cr, .inr (1, [.ref a_row, .ref a_ctx, .int cr_place, .int cr_end, .int cr_window, .int cr_size, .int cr_room])), (a_rr, .inr (6, [.ref a_row, .int rr_place, .int rr_end, .int rr_current, .int rr_left]))]
abbrev rm_N3 (Dt : Nat) : Room := { frames := 4, cells := Dt, slots := Dt, locals := 105 }
abbrev Q_N3 (dC : Nat → ClassId) (dI : Nat → Nat → Nat) (cI cJ cZ : ClassId) (a_row : Nat) (a_bytes : Nat) (a_ctx : Nat) (a_states : Nat) (a_likely : Nat) (a_cw : Nat) (a_rw : Nat) (a_cr : Nat) (a_rr : Nat) (A : Nat → Prop) (row_count : Int32) (row_start : Int32) (bytes_n : Nat) (bytes_f : Nat → Int32) (states_n : Nat) (states_f : Nat → Int32) (likely_n : Nat) (likely_f : Nat → Int32) (cw_low : Int32) (cw_size : Int32) (cw_room : Int32) (rw_free : Int32) (cr_place : Int32) (cr_end : Int32) (cr_window : Int32) (cr_size : Int32) (cr_room : Int32) (rr_place : Int32) (rr_end : Int32) (rr_current : Int32) (rr_left : Int32) (g : (Int32 × Int32 × Nat × (Nat → Int32) × (Nat → Int32) × (Nat → Int32) × Int32 × Int32 × Int32 × Int32 × Int32 × Int32 × Int32 × Int32 × Int32 × Int32 × Int32)) : Array Value → State → Outcome → State → Prop := va_Qi (fun (r : Int32) (_ : Nat) => r = g.1) (fun u t => va_P (dC, dI) vwCl (wd_row_bytes_ctx_states_likely_cw_rw_cr_rr cI a_row u a_ctx a_states a_likely a_cw a_rw a_cr a_rr g.2.1 row_start g.2.2.1 g.2.2.2.1 states_n g.2.2.2.2.1 likely_n g.2.2.2.2.2.1 g.2.2.2.2.2.2.1 g.2.2.2.2.2.2.2.1 g.2.2.2.2.2.2.2.2.1 g.2.2.2.2.2.2.2.2.2.1 g.2.2.2.2.2.2.2.2.2.2.1 cr_end g.2.2.2.2.2.2.2.2.2.2.2.1 g.2.2.2.2.2.2.2.2.2.2.2.2.1 g.2.2.2.2.2.2.2.2.2.2.2.2.2.1 g.2.2.2.2.2.2.2.2.2.2.2.2.2.2.1 rr_end g.2.2.2.2.2.2.2.2.2.2.2.2.2.2.2.1 g.2.2.2.2.2.2.2.2.2.2.2.2.2.2.2.2) t.heap ∧ va_K (dC, dI) vwCl [(cI, .int), (cJ, .long), (cZ, .boolean)] t ∧ va_D A (wd_row_bytes_ctx_states_likely_cw_rw_cr_rr cI a_row u a_ctx a_states a_likely a_cw a_rw a_cr a_rr g.2.1 row_start g.2.2.1 g.2.2.2.1 states_n g.2.2.2.2.1 likely_n g.2.2.2.2.2.1 g.2.2.2.2.2.2.1 g.2.2.2.2.2.2.2.1 g.2.2.2.2.2.2.2.2.1 g.2.2.2.2.2.2.2.2.2.1 g.2.2.2.2.2.2.2.2.2.2.1 cr_end g.2.2.2.2.2.2.2.2.2.2.2.1 g.2.2.2.2.2.2.2.2.2.2.2.2.1 g.2.2.2.2.2.2.2.2.2.2.2.2.2.1 g.2.2.2.2.2.2.2.2.2.2.2.2.2.2.1 rr_end g.2.2.2.2.2.2.2.2.2.2.2.2.2.2.2.1 g.2.2.2.2.2.2.2.2.2.2.2.2.2.2.2.2)) A
set_option maxHeartbeats 4000000 in
set_option maxRecDepth 100000 in
theorem c_N3 (l : Launch) (dC : Nat → ClassId) (dI : Nat → Nat → Nat) (cI cJ cZ : ClassId) (tP tN tO : Nat) (a_row : Nat) (a_bytes : Nat) (a_ctx : Nat) (a_states : Nat) (a_likely : Nat) (a_cw : Nat) (a_rw : Nat) (a_cr : Nat) (a_rr : Nat) (sz : Nat) (row_count : Int32) (row_start : Int32) (bytes_n : Nat) (bytes_f : Nat → Int32) (states_n : Nat) (states_f : Nat → Int32) (likely_n : Nat) (likely_f : Nat → Int32) (cw_low : Int32) (cw_size : Int32) (cw_room : Int32) (rw_free : Int32) (cr_place : Int32) (cr_end : Int32) (cr_window : Int32) (cr_size : Int32) (cr_room : Int32) (rr_place : Int32) (rr_end : Int32) (rr_current : Int32) (rr_left : Int32) (p1 : Int32) (p2 : Int32) (hpre : P_N3 p1 p2 row_count row_start bytes_n bytes_f states_n states_f likely_n likely_f cw_low cw_size cw_room) : Met l yX3_next wsX3_next (rm_N3 (D_N3 p1 p2 row_count row_start bytes_n bytes_f states_f likely_f cw_low cw_size cw_room)) (va_Pc [.ref a_cw, .int p1, .int p2] (fun U => U.heap.size = sz ∧ va_P (dC, dI) vwCl (wd_row_bytes_ctx_states_likely_cw_rw_cr_rr cI a_row a_bytes a_ctx a_states a_likely a_cw a_rw a_cr a_rr row_count row_start bytes_n bytes_f states_n states_f likely_n likely_f cw_low cw_size cw_room rw_free cr_place cr_end cr_window cr_size cr_room rr_place rr_end rr_current rr_left) U.heap ∧ va_K (dC, dI) vwCl [(cI, .int), (cJ, .long), (cZ, .boolean)] U ∧ va_D (fun _ => True) (wd_row_bytes_ctx_states_likely_cw_rw_cr_rr cI a_row a_bytes a_ctx a_states a_likely a_cw a_rw a_cr a_rr row_count row_start bytes_n bytes_f states_n states_f likely_n likely_f cw_low cw_size cw_room rw_free cr_place cr_end cr_window cr_size cr_room rr_place rr_end rr_current rr_left) ∧ Zs tP tN tO (va_A (wd_row_bytes_ctx_states_likely_cw_rw_cr_rr cI a_row a_bytes a_ctx a_states a_likely a_cw a_rw a_cr a_rr row_count row_start bytes_n bytes_f states_n states_f likely_n likely_f cw_low cw_size cw_room rw_free cr_place cr_end cr_window cr_size cr_room rr_place rr_end rr_current rr_left) sz) U U.heap)) (Q_N3 dC dI cI cJ cZ a_row a_bytes a_ctx a_states a_likely a_cw a_rw a_cr a_rr (va_A (wd_row_bytes_ctx_states_likely_cw_rw_cr_rr cI a_row a_bytes a_ctx a_states a_likely a_cw a_rw a_cr a_rr row_count row_start bytes_n bytes_f states_n states_f likely_n likely_f cw_low cw_size cw_room rw_free cr_place cr_end cr_window cr_size cr_room rr_place rr_end rr_current rr_left) sz) row_count row_start bytes_n bytes_f states_n states_f likely_n likely_f cw_low cw_size cw_room rw_free cr_place cr_end cr_window cr_size cr_room rr_place rr_end rr_current rr_left (F_N3 p1 p2 row_count row_start bytes_n bytes_f states_f likely_f cw_low cw_size cw_room rw_free cr_place cr_window cr_size cr_room rr_place rr_current rr_left)) (D_N3 p1 p2 row_count row_start bytes_n bytes_f states_f likely_f cw_low cw_size cw_room) (D_N3 p1 p2 row_count row_start bytes_n bytes_f states_f likely_f cw_low cw_size cw_room) (va_A (wd_row_bytes_ctx_states_likely_cw_rw_cr_rr cI a_row a_bytes a_ctx a_states a_likely a_cw a_rw a_cr a_rr row_count row_start bytes_n bytes_f states_n states_f likely_n likely_f cw_low cw_size cw_room rw_free cr_place cr_end cr_window cr_size cr_room rr_place rr_end rr_current rr_left) sz) := by
  refine Met.ofW (cc := cX3_next) (maxL := 5) (ret := (some .int)) (by decide) rfl ?_
  intro p e s m args below meth c s₁ B hml hv
  obtain ⟨rfl, hsz, hP, hK, hD0, hZ⟩ := hv
  have hx := B.exec
  have hb := B.bytes
  have hr := B.returns
  have hts := atoms_spec (ws := wsX3_next) B.pre
  have hown : s.vm.findClass RX3 = some m.cls := findClass_of_methodNamed B.named
  have hlocks := B.notSynchronized
  subst hsz
  have hD := hD0.self (sz := s.heap.size)
  generalize hAe : va_A (wd_row_bytes_ctx_states_likely_cw_rw_cr_rr cI a_row a_bytes a_ctx a_states a_likely a_cw a_rw a_cr a_rr row_count row_start bytes_n bytes_f states_n states_f likely_n likely_f cw_low cw_size cw_room rw_free cr_place cr_end cr_window cr_size cr_room rr_place rr_end rr_current rr_left) s.heap.size = A at hD hZ ⊢
  have hA : ∀ q : Nat, s.heap.size ≤ q → A q := fun q h => by rw [← hAe]; exact Or.inr h
  have hS : va_S A s.heap s.heap [] := va_S.rf
  obtain ⟨H, hH⟩ : ∃ z, z = s.heap := ⟨_, rfl⟩
  have hP : va_P (dC, dI) vwCl (wd_row_bytes_ctx_states_likely_cw_rw_cr_rr cI a_row a_bytes a_ctx a_states a_likely a_cw a_rw a_cr a_rr row_count row_start bytes_n bytes_f states_n states_f likely_n likely_f cw_low cw_size cw_room rw_free cr_place cr_end cr_window cr_size cr_room rr_place rr_end rr_current rr_left) H := by rw [hH]; exact hP
  have hS : va_S A s.heap H [] := by rw [hH]; exact va_S.rf
  obtain ⟨g, hg⟩ : ∃ z, F_N3 p1 p2 row_count row_start bytes_n bytes_f states_f likely_f cw_low cw_size cw_room rw_free cr_place cr_window cr_size cr_room rr_place rr_current rr_left = z := ⟨_, rfl⟩
  rw [hg]
  obtain ⟨Dt, hDt⟩ : ∃ z, D_N3 p1 p2 row_count row_start bytes_n bytes_f states_f likely_f cw_low cw_size cw_room = z := ⟨_, rfl⟩
  rw [hDt]
  generalize hQe : MQ below (Q_N3 dC dI cI cJ cZ a_row a_bytes a_ctx a_states a_likely a_cw a_rw a_cr a_rr A row_count row_start bytes_n bytes_f states_n states_f likely_n likely_f cw_low cw_size cw_room rw_free cr_place cr_end cr_window cr_size cr_room rr_place rr_end rr_current rr_left g) _ s Dt Dt A = Q
  rw [← hH]
  clear hH
  have hl := lv_entry ([.ref a_cw, .int p1, .int p2]) (n := 5) (Nat.le_of_ble_eq_true rfl)
  rw [lg_entry_eq]
  generalize (lg_sl ([.ref a_cw, .int p1, .int p2]) ++ List.replicate (5 - (lg_sl ([.ref a_cw, .int p1, .int p2])).length) Slot.unset).toArray = ls at hl ⊢
  have hl : lv_has ls 5 [(0, .ref a_cw), (1, .int p1), (2, .int p2)] := hl
  unfold F_N3 at hg
  unfold P_N3 at hpre
  unfold D_N3 at hDt
  obtain ⟨k, hk⟩ : ∃ z : Nat, z = 0 := ⟨_, rfl⟩
  obtain ⟨E, hE⟩ : ∃ z : Nat, z = 0 := ⟨_, rfl⟩
  have hC : k + (let r_1 := F_X4_part p2 states_f; let r_2 := F_X4_likelyBit p2 likely_f; if p1 = r_2 then (if (cw_size - r_1) < (32768 : Int32) then (let j_17 := J_N3_j_17 cw_size r_1; let r_18 := F_X3_takeShare j_17 r_1 cw_low (cw_size - r_1); let r_19 := F_X4_likelyCame p2 states_f; DL_N3_j_20 row_start fu (0 : Int32) row_count bytes_n bytes_f r_18.1 r_18.2 cw_room + (let j_20 := L_N3_j_20 row_start fu (0 : Int32) row_count bytes_n bytes_f r_18.1 r_18.2 cw_room; 0)) else 0) else (let j_5 := J_N3_j_5 cw_size r_1; let r_6 := F_X3_takeShare j_5 r_1 cw_low (cw_size - r_1); let r_7 := F_X4_otherCame p2 states_f likely_f; DL_N3_j_8 row_start fu (0 : Int32) row_count bytes_n bytes_f r_6.1 r_6.2 cw_room + (let j_8 := L_N3_j_8 row_start fu (0 : Int32) row_count bytes_n bytes_f r_6.1 r_6.2 cw_room; 0))) + E ≤ Dt := by rw [hk, hE, Nat.zero_add]; exact Nat.le_of_eq hDt
  refine W.widen (k := k) (n := k) (Nat.zero_le _) (Nat.zero_le _) ?_
  clear hk hE hDt
  refine lv_aload_n hx hb dX3_next_0 rfl (lv_at hl 0 rfl) ?_
  refine va_get (D := (dC, dI)) (ci := 2) (v := .ref a_ctx) (C := RX3) (T := TX3) (N := 5) hx hb hts iw_X3_next_X3 hown hK hP 5 rfl rfl 1 (by decide) (hts (.fieldLink RX3 15 "PlaneBlocks$CodedWriter" "contexts" "LPlaneBlocks$Contexts;") (by decide +kernel)) (fun _ h9 => h9) rfl dX3_next_1 ?_
  refine lv_iload_n hx hb dX3_next_4 rfl (lv_at hl 2 rfl) ?_
  have hPc := hP.sub (ws' := (wd_ctx_states cI a_ctx a_states a_likely states_n states_f)) [2, 3] rfl
  have hDc := hD.sub (ws' := (wd_ctx_states cI a_ctx a_states a_likely states_n states_f)) [2, 3] (by decide) rfl
  have hFc := va_free (wc := (wd_ctx_states cI a_ctx a_states a_likely states_n states_f)) hD hS hA [2, 3] rfl
  refine va_calli (va_runV (As := [.int p2]) (rest := []) ⟨hx, hb, hml, hown, hts⟩ (c_X4_part l dC dI cI cJ cZ tP tN tO a_ctx a_states a_likely H.size states_n states_f p2 hpre.1) (cwV 1 hts gX3_next_X4_part rfl rfl rfl (by decide +kernel) ⟨Nat.le_of_ble_eq_true rfl, Nat.le_of_ble_eq_true rfl⟩) ⟨fun a U g mk q => by obtain ⟨q0, q1, qP, qK, qD, qZ⟩ := q; exact ⟨q0, q1, qP, va_K.moved (u := U) (U := U.calling g mk a) (Vm.Alike.refl U.vm) qK, qD, Zs.moved (u := U) (U := U.calling g mk a) (Vm.Alike.refl U.vm) qZ⟩, va_recv hK hPc (ci := 3) (q0 := 0) rfl rfl, fun U hU hW => ⟨rfl, by rw [hU], by rw [hU]; exact hPc, va_K.moved hW.alike hK, hDc.weaken (fun _ _ _ _ => trivial), by rw [hU]; exact (((hZ.kept hS.2.1).narrow hFc).moved hW.alike)⟩⟩ rfl rfl hl.1 rfl (lv_room (Nat.le_of_ble_eq_true rfl)) dX3_next_5 ⟨k0_le hC, k0_le hC⟩) hS (fun q _ h => hFc q h) hFc (fun r u t H1 locs ht hvm hw hB hz1 hk1 hS => ?_)
  obtain ⟨hP1, hK1, hD1⟩ := hB
  rw [ht] at hP1
  obtain ⟨r_1, hr_1⟩ : ∃ z, F_X4_part p2 states_f = z := ⟨_, rfl⟩
  try rw [hr_1] at hw
  try rw [hr_1] at hP1
  try rw [hr_1] at hD1
  have hg : (let r_2 := F_X4_likelyBit p2 likely_f; if p1 = r_2 then (if (cw_size - r_1) < (32768 : Int32) then (let j_17 := J_N3_j_17 cw_size r_1; let r_18 := F_X3_takeShare j_17 r_1 cw_low (cw_size - r_1); let r_19 := F_X4_likelyCame p2 states_f; let j_20 := L_N3_j_20 row_start fu (0 : Int32) row_count bytes_n bytes_f r_18.1 r_18.2 cw_room; (p1, j_20.2.1, j_20.2.2.1, j_20.2.2.2.1, r_19, likely_f, j_20.2.2.2.2.1, j_20.2.2.2.2.2.1, j_20.2.2.2.2.2.2, rw_free, cr_place, cr_window, cr_size, cr_room, rr_place, rr_current, rr_left)) else (p1, row_count, bytes_n, bytes_f, states_f, likely_f, cw_low + r_1, cw_size - r_1, cw_room, rw_free, cr_place, cr_window, cr_size, cr_room, rr_place, rr_current, rr_left)) else (let j_5 := J_N3_j_5 cw_size r_1; let r_6 := F_X3_takeShare j_5 r_1 cw_low (cw_size - r_1); let r_7 := F_X4_otherCame p2 states_f likely_f; let j_8 := L_N3_j_8 row_start fu (0 : Int32) row_count bytes_n bytes_f r_6.1 r_6.2 cw_room; (p1, j_8.2.1, j_8.2.2.1, j_8.2.2.2.1, r_7.1, r_7.2, j_8.2.2.2.2.1, j_8.2.2.2.2.2.1, j_8.2.2.2.2.2.2, rw_free, cr_place, cr_window, cr_size, cr_room, rr_place, rr_current, rr_left))) = g := by first | (rw [hr_1] at hg; exact hg) | (subst hr_1; exact hg)
  have hw := hw.symm
  subst hw
  obtain ⟨hP, hD⟩ := va_join (wr := [(a_row, .inr (0, [.ref a_bytes, .int row_count, .int row_start])), (a_bytes, .inl (cI, bytes_n, .inl bytes_f)), (a_likely, .inl (cI, likely_n, .inl likely_f)), (a_cw, .inr (2, [.ref a_row, .ref a_ctx, .int cw_low, .int cw_size, .int cw_room])), (a_rw, .inr (7, [.ref a_row, .int rw_free])), (a_cr, .inr (1, [.ref a_row, .ref a_ctx, .int cr_place, .int cr_end, .int cr_window, .int cr_size, .int cr_room])), (a_rr, .inr (6, [.ref a_row, .int rr_place, .int rr_end, .int rr_current, .int rr_left]))]) (w1 := (wd_ctx_states cI a_ctx a_states a_likely states_n states_f)) hP hD [2, 3] [0, 1, 4, 5, 6, 7, 8] rfl rfl (by decide) (by decide) hk1 hFc hP1 hD1
  have hP : va_P (dC, dI) vwCl (wd_row_bytes_ctx_states_likely_cw_rw_cr_rr cI a_row a_bytes a_ctx a_states a_likely a_cw a_rw a_cr a_rr row_count row_start bytes_n bytes_f states_n states_f likely_n likely_f cw_low cw_size cw_room rw_free cr_place cr_end cr_window cr_size cr_room rr_place rr_end rr_current rr_left) H1 := hP.sub [0, 1, 7, 8, 2, 3, 4, 5, 6] rfl
  have hD : va_D A (wd_row_bytes_ctx_states_likely_cw_rw_cr_rr cI a_row a_bytes a_ctx a_states a_likely a_cw a_rw a_cr a_rr row_count row_start bytes_n bytes_f states_n states_f likely_n likely_f cw_low cw_size cw_room rw_free cr_place cr_end cr_window cr_size cr_room rr_place rr_end rr_current rr_left) := hD.sub [0, 1, 7, 8, 2, 3, 4, 5, 6] (by decide) rfl
  generalize H1 = H at hP hS ⊢
  have hC : k + (let r_2 := F_X4_likelyBit p2 likely_f; if p1 = r_2 then (if (cw_size - r_1) < (32768 : Int32) then (let j_17 := J_N3_j_17 cw_size r_1; let r_18 := F_X3_takeShare j_17 r_1 cw_low (cw_size - r_1); let r_19 := F_X4_likelyCame p2 states_f; DL_N3_j_20 row_start fu (0 : Int32) row_count bytes_n bytes_f r_18.1 r_18.2 cw_room + (let j_20 := L_N3_j_20 row_start fu (0 : Int32) row_count bytes_n bytes_f r_18.1 r_18.2 cw_room; 0)) else 0) else (let j_5 := J_N3_j_5 cw_size r_1; let r_6 := F_X3_takeShare j_5 r_1 cw_low (cw_size - r_1); let r_7 := F_X4_otherCame p2 states_f likely_f; DL_N3_j_8 row_start fu (0 : Int32) row_count bytes_n bytes_f r_6.1 r_6.2 cw_room + (let j_8 := L_N3_j_8 row_start fu (0 : Int32) row_count bytes_n bytes_f r_6.1 r_6.2 cw_room; 0))) + E ≤ Dt := by subst hr_1; exact hC
  have hpre := hpre.2 r_1 hr_1
  refine lv_istore_n (lv' := [(3, .int r_1), (0, .ref a_cw), (1, .int p1), (2, .int p2)]) hx hb dX3_next_8 rfl hl (by decide) rfl (fun ls hl => ?_)
  refine lv_aload_n hx hb dX3_next_9 rfl (lv_at hl 1 rfl) ?_
  refine lv_dup hx hb dX3_next_10 rfl ?_
  refine va_get (D := (dC, dI)) (ci := 2) (v := .int cw_size) (C := RX3) (T := TX3) (N := 5) hx hb hts iw_X3_next_X3 hown hK hP 5 rfl rfl 3 (by decide) (hts (.fieldLink RX3 24 "PlaneBlocks$CodedWriter" "size" "I") (by decide +kernel)) (fun _ h9 => h9) rfl dX3_next_11 ?_
  refine lv_iload_n hx hb dX3_next_14 rfl (lv_at hl 0 rfl) ?_
  refine lv_isub hx hb dX3_next_15 ?_
  refine va_put (D := (dC, dI)) (ci := 2) (v := .int (cw_size - r_1)) (ty := .int) (C := RX3) (T := TX3) (N := 5) hx hb hts iw_X3_next_X3 tyX3 tyX3_ok nmX3 hown hK hP hD hS 5 rfl rfl 3 (by decide) (hts (.fieldLink RX3 24 "PlaneBlocks$CodedWriter" "size" "I") (by decide +kernel)) (fun _ h9 => h9) rfl (by decide +kernel) rfl rfl (Nat.le_of_ble_eq_true rfl) dX3_next_16 (fun H locs hP hD hS => ?_)
  have hP : va_P (dC, dI) vwCl (wd_row_bytes_ctx_states_likely_cw_rw_cr_rr cI a_row a_bytes a_ctx a_states a_likely a_cw a_rw a_cr a_rr row_count row_start bytes_n bytes_f states_n states_f likely_n likely_f cw_low (cw_size - r_1) cw_room rw_free cr_place cr_end cr_window cr_size cr_room rr_place rr_end rr_current rr_left) H := hP
  have hD : va_D A (wd_row_bytes_ctx_states_likely_cw_rw_cr_rr cI a_row a_bytes a_ctx a_states a_likely a_cw a_rw a_cr a_rr row_count row_start bytes_n bytes_f states_n states_f likely_n likely_f cw_low (cw_size - r_1) cw_room rw_free cr_place cr_end cr_window cr_size cr_room rr_place rr_end rr_current rr_left) := hD
  refine lv_iload_n hx hb dX3_next_19 rfl (lv_at hl 2 rfl) ?_
  refine lv_aload_n hx hb dX3_next_20 rfl (lv_at hl 1 rfl) ?_
  refine va_get (D := (dC, dI)) (ci := 2) (v := .ref a_ctx) (C := RX3) (T := TX3) (N := 5) hx hb hts iw_X3_next_X3 hown hK hP 5 rfl rfl 1 (by decide) (hts (.fieldLink RX3 15 "PlaneBlocks$CodedWriter" "contexts" "LPlaneBlocks$Contexts;") (by decide +kernel)) (fun _ h9 => h9) rfl dX3_next_21 ?_
  refine lv_iload_n hx hb dX3_next_24 rfl (lv_at hl 3 rfl) ?_
  have hPc := hP.sub (ws' := (wd_ctx_likely cI a_ctx a_states a_likely likely_n likely_f)) [2, 4] rfl
  have hDc := hD.sub (ws' := (wd_ctx_likely cI a_ctx a_states a_likely likely_n likely_f)) [2, 4] (by decide) rfl
  have hFc := va_free (wc := (wd_ctx_likely cI a_ctx a_states a_likely likely_n likely_f)) hD hS hA [2, 4] rfl
  refine va_calli (va_runV (As := [.int p2]) (rest := [.int p1]) ⟨hx, hb, hml, hown, hts⟩ (c_X4_likelyBit l dC dI cI cJ cZ a_ctx a_states a_likely H.size likely_n likely_f p2 hpre.1) (cwV 1 hts gX3_next_X4_likelyBit rfl rfl rfl (by decide +kernel) ⟨Nat.le_of_ble_eq_true rfl, Nat.le_of_ble_eq_true rfl⟩) ⟨fun a U g mk q => by obtain ⟨q0, q1, qP, qK, qD⟩ := q; exact ⟨q0, q1, qP, va_K.moved (u := U) (U := U.calling g mk a) (Vm.Alike.refl U.vm) qK, qD⟩, va_recv hK hPc (ci := 3) (q0 := 0) rfl rfl, fun U hU hW => ⟨rfl, by rw [hU], by rw [hU]; exact hPc, va_K.moved hW.alike hK, hDc.weaken (fun _ _ _ _ => trivial)⟩⟩ rfl rfl hl.1 rfl (lv_room (Nat.le_of_ble_eq_true rfl)) dX3_next_25 ⟨k0_le hC, k0_le hC⟩) hS (fun q _ h => hFc q h) hFc (fun r u t H1 locs ht hvm hw hB hz1 hk1 hS => ?_)
  obtain ⟨hP1, hK1, hD1⟩ := hB
  rw [ht] at hP1
  obtain ⟨r_2, hr_2⟩ : ∃ z, F_X4_likelyBit p2 likely_f = z := ⟨_, rfl⟩
  try rw [hr_2] at hw
  try rw [hr_2] at hP1
  try rw [hr_2] at hD1
  have hg : (if p1 = r_2 then (if (cw_size - r_1) < (32768 : Int32) then (let j_17 := J_N3_j_17 cw_size r_1; let r_18 := F_X3_takeShare j_17 r_1 cw_low (cw_size - r_1); let r_19 := F_X4_likelyCame p2 states_f; let j_20 := L_N3_j_20 row_start fu (0 : Int32) row_count bytes_n bytes_f r_18.1 r_18.2 cw_room; (p1, j_20.2.1, j_20.2.2.1, j_20.2.2.2.1, r_19, likely_f, j_20.2.2.2.2.1, j_20.2.2.2.2.2.1, j_20.2.2.2.2.2.2, rw_free, cr_place, cr_window, cr_size, cr_room, rr_place, rr_current, rr_left)) else (p1, row_count, bytes_n, bytes_f, states_f, likely_f, cw_low + r_1, cw_size - r_1, cw_room, rw_free, cr_place, cr_window, cr_size, cr_room, rr_place, rr_current, rr_left)) else (let j_5 := J_N3_j_5 cw_size r_1; let r_6 := F_X3_takeShare j_5 r_1 cw_low (cw_size - r_1); let r_7 := F_X4_otherCame p2 states_f likely_f; let j_8 := L_N3_j_8 row_start fu (0 : Int32) row_count bytes_n bytes_f r_6.1 r_6.2 cw_room; (p1, j_8.2.1, j_8.2.2.1, j_8.2.2.2.1, r_7.1, r_7.2, j_8.2.2.2.2.1, j_8.2.2.2.2.2.1, j_8.2.2.2.2.2.2, rw_free, cr_place, cr_window, cr_size, cr_room, rr_place, rr_current, rr_left))) = g := by first | (rw [hr_2] at hg; exact hg) | (subst hr_2; exact hg)
  have hw := hw.symm
  subst hw
  obtain ⟨hP, hD⟩ := va_join (wr := [(a_row, .inr (0, [.ref a_bytes, .int row_count, .int row_start])), (a_bytes, .inl (cI, bytes_n, .inl bytes_f)), (a_states, .inl (cI, states_n, .inl states_f)), (a_cw, .inr (2, [.ref a_row, .ref a_ctx, .int cw_low, .int (cw_size - r_1), .int cw_room])), (a_rw, .inr (7, [.ref a_row, .int rw_free])), (a_cr, .inr (1, [.ref a_row, .ref a_ctx, .int cr_place, .int cr_end, .int cr_window, .int cr_size, .int cr_room])), (a_rr, .inr (6, [.ref a_row, .int rr_place, .int rr_end, .int rr_current, .int rr_left]))]) (w1 := (wd_ctx_likely cI a_ctx a_states a_likely likely_n likely_f)) hP hD [2, 4] [0, 1, 3, 5, 6, 7, 8] rfl rfl (by decide) (by decide) hk1 hFc hP1 hD1
  have hP : va_P (dC, dI) vwCl (wd_row_bytes_ctx_states_likely_cw_rw_cr_rr cI a_row a_bytes a_ctx a_states a_likely a_cw a_rw a_cr a_rr row_count row_start bytes_n bytes_f states_n states_f likely_n likely_f cw_low (cw_size - r_1) cw_room rw_free cr_place cr_end cr_window cr_size cr_room rr_place rr_end rr_current rr_left) H1 := hP.sub [0, 1, 7, 2, 8, 3, 4, 5, 6] rfl
  have hD : va_D A (wd_row_bytes_ctx_states_likely_cw_rw_cr_rr cI a_row a_bytes a_ctx a_states a_likely a_cw a_rw a_cr a_rr row_count row_start bytes_n bytes_f states_n states_f likely_n likely_f cw_low (cw_size - r_1) cw_room rw_free cr_place cr_end cr_window cr_size cr_room rr_place rr_end rr_current rr_left) := hD.sub [0, 1, 7, 2, 8, 3, 4, 5, 6] (by decide) rfl
  generalize H1 = H at hP hS ⊢
  have hC : k + (if p1 = r_2 then (if (cw_size - r_1) < (32768 : Int32) then (let j_17 := J_N3_j_17 cw_size r_1; let r_18 := F_X3_takeShare j_17 r_1 cw_low (cw_size - r_1); let r_19 := F_X4_likelyCame p2 states_f; DL_N3_j_20 row_start fu (0 : Int32) row_count bytes_n bytes_f r_18.1 r_18.2 cw_room + (let j_20 := L_N3_j_20 row_start fu (0 : Int32) row_count bytes_n bytes_f r_18.1 r_18.2 cw_room; 0)) else 0) else (let j_5 := J_N3_j_5 cw_size r_1; let r_6 := F_X3_takeShare j_5 r_1 cw_low (cw_size - r_1); let r_7 := F_X4_otherCame p2 states_f likely_f; DL_N3_j_8 row_start fu (0 : Int32) row_count bytes_n bytes_f r_6.1 r_6.2 cw_room + (let j_8 := L_N3_j_8 row_start fu (0 : Int32) row_count bytes_n bytes_f r_6.1 r_6.2 cw_room; 0))) + E ≤ Dt := by subst hr_2; exact hC
  have hpre := hpre.2 r_2 hr_2
  refine lv_icmp_ne (tgt := 81) hx hb dX3_next_28 (by decide) (fun c_3 => ?_) (fun c_3 => ?_)
  · rw [if_neg c_3] at hg
    rw [if_neg c_3] at hC
    have hpre := hpre.2 c_3
    refine lv_aload_n hx hb dX3_next_81 rfl (lv_at hl 1 rfl) ?_
    refine lv_aload_n hx hb dX3_next_82 rfl (lv_at hl 1 rfl) ?_
    refine va_get (D := (dC, dI)) (ci := 2) (v := .int (cw_size - r_1)) (C := RX3) (T := TX3) (N := 5) hx hb hts iw_X3_next_X3 hown hK hP 5 rfl rfl 3 (by decide) (hts (.fieldLink RX3 24 "PlaneBlocks$CodedWriter" "size" "I") (by decide +kernel)) (fun _ h9 => h9) rfl dX3_next_83 ?_
    refine lv_iload_n hx hb dX3_next_86 rfl (lv_at hl 0 rfl) ?_
    obtain ⟨j_5, hj_5⟩ : ∃ z, J_N3_j_5 cw_size r_1 = z := ⟨_, rfl⟩
    have hg : (let r_6 := F_X3_takeShare j_5 r_1 cw_low (cw_size - r_1); let r_7 := F_X4_otherCame p2 states_f likely_f; let j_8 := L_N3_j_8 row_start fu (0 : Int32) row_count bytes_n bytes_f r_6.1 r_6.2 cw_room; (p1, j_8.2.1, j_8.2.2.1, j_8.2.2.2.1, r_7.1, r_7.2, j_8.2.2.2.2.1, j_8.2.2.2.2.2.1, j_8.2.2.2.2.2.2, rw_free, cr_place, cr_window, cr_size, cr_room, rr_place, rr_current, rr_left)) = g := by first | (rw [hj_5] at hg; exact hg) | (subst hj_5; exact hg)
    have hC : k + (let r_6 := F_X3_takeShare j_5 r_1 cw_low (cw_size - r_1); let r_7 := F_X4_otherCame p2 states_f likely_f; DL_N3_j_8 row_start fu (0 : Int32) row_count bytes_n bytes_f r_6.1 r_6.2 cw_room + (let j_8 := L_N3_j_8 row_start fu (0 : Int32) row_count bytes_n bytes_f r_6.1 r_6.2 cw_room; 0)) + E ≤ Dt := by subst hj_5; exact hC
    have hJ_j_5 : ∀ (k : Nat) (H : Heap) (locs : List Loc) (ls : Array Slot), va_P (dC, dI) vwCl (wd_row_bytes_ctx_states_likely_cw_rw_cr_rr cI a_row a_bytes a_ctx a_states a_likely a_cw a_rw a_cr a_rr row_count row_start bytes_n bytes_f states_n states_f likely_n likely_f cw_low (cw_size - r_1) cw_room rw_free cr_place cr_end cr_window cr_size cr_room rr_place rr_end rr_current rr_left) H → va_D A (wd_row_bytes_ctx_states_likely_cw_rw_cr_rr cI a_row a_bytes a_ctx a_states a_likely a_cw a_rw a_cr a_rr row_count row_start bytes_n bytes_f states_n states_f likely_n likely_f cw_low (cw_size - r_1) cw_room rw_free cr_place cr_end cr_window cr_size cr_room rr_place rr_end rr_current rr_left) → va_S A s.heap H locs → lv_has ls 5 [(0, .ref a_cw), (1, .int p1), (2, .int p2), (3, .int r_1)] → k + (let r_6 := F_X3_takeShare j_5 r_1 cw_low (cw_size - r_1); let r_7 := F_X4_otherCame p2 states_f likely_f; DL_N3_j_8 row_start fu (0 : Int32) row_count bytes_n bytes_f r_6.1 r_6.2 cw_room + (let j_8 := L_N3_j_8 row_start fu (0 : Int32) row_count bytes_n bytes_f r_6.1 r_6.2 cw_room; 0)) + E ≤ Dt → W p l e (headSpec wsX3_next (rm_N3 Dt)).room s m ([.ref a_cw, .int p1, .int p2] : List Value).toArray below meth c H locs k k Q (F0 m 95 ls [.int j_5, .ref a_cw]) := by
      intro k H locs ls hP hD hS hl hC
      have hpre := hpre j_5 hj_5
      refine lv_iload_n hx hb dX3_next_95 rfl (lv_at hl 3 rfl) ?_
      have hPc := hP.sub (ws' := (wd_cw a_cw a_row a_ctx cw_low (cw_size - r_1) cw_room)) [5] rfl
      have hDc := hD.sub (ws' := (wd_cw a_cw a_row a_ctx cw_low (cw_size - r_1) cw_room)) [5] (by decide) rfl
      have hFc := va_free (wc := (wd_cw a_cw a_row a_ctx cw_low (cw_size - r_1) cw_room)) hD hS hA [5] rfl
      refine va_callv (va_runV (As := [.int j_5, .int r_1]) (rest := []) ⟨hx, hb, hml, hown, hts⟩ (c_X3_takeShare l dC dI cI cJ cZ a_cw a_row a_ctx H.size cw_low (cw_size - r_1) cw_room j_5 r_1) (cwV 2 hts gX3_next_X3_takeShare rfl rfl rfl (by decide +kernel) ⟨Nat.le_of_ble_eq_true rfl, Nat.le_of_ble_eq_true rfl⟩) ⟨fun a U g mk q => by obtain ⟨q0, q1, qP, qK, qD⟩ := q; exact ⟨q0, q1, qP, va_K.moved (u := U) (U := U.calling g mk a) (Vm.Alike.refl U.vm) qK, qD⟩, va_recv hK hPc (ci := 2) (q0 := 0) rfl rfl, fun U hU hW => ⟨rfl, by rw [hU], by rw [hU]; exact hPc, va_K.moved hW.alike hK, hDc.weaken (fun _ _ _ _ => trivial)⟩⟩ rfl rfl hl.1 rfl (lv_room (Nat.le_of_ble_eq_true rfl)) dX3_next_96 ⟨k0_le hC, k0_le hC⟩) hS (fun q _ h => hFc q h) hFc (fun u t H1 locs ht hvm hw hB hz1 hk1 hS => ?_)
      obtain ⟨hP1, hK1, hD1⟩ := hB
      rw [ht] at hP1
      obtain ⟨r_6, hr_6⟩ : ∃ z, F_X3_takeShare j_5 r_1 cw_low (cw_size - r_1) = z := ⟨_, rfl⟩
      try rw [hr_6] at hw
      try rw [hr_6] at hP1
      try rw [hr_6] at hD1
      have hg : (let r_7 := F_X4_otherCame p2 states_f likely_f; let j_8 := L_N3_j_8 row_start fu (0 : Int32) row_count bytes_n bytes_f r_6.1 r_6.2 cw_room; (p1, j_8.2.1, j_8.2.2.1, j_8.2.2.2.1, r_7.1, r_7.2, j_8.2.2.2.2.1, j_8.2.2.2.2.2.1, j_8.2.2.2.2.2.2, rw_free, cr_place, cr_window, cr_size, cr_room, rr_place, rr_current, rr_left)) = g := by first | (rw [hr_6] at hg; exact hg) | (subst hr_6; exact hg)
      obtain ⟨hP, hD⟩ := va_join (wr := [(a_row, .inr (0, [.ref a_bytes, .int row_count, .int row_start])), (a_bytes, .inl (cI, bytes_n, .inl bytes_f)), (a_ctx, .inr (3, [.ref a_states, .ref a_likely])), (a_states, .inl (cI, states_n, .inl states_f)), (a_likely, .inl (cI, likely_n, .inl likely_f)), (a_rw, .inr (7, [.ref a_row, .int rw_free])), (a_cr, .inr (1, [.ref a_row, .ref a_ctx, .int cr_place, .int cr_end, .int cr_window, .int cr_size, .int cr_room])), (a_rr, .inr (6, [.ref a_row, .int rr_place, .int rr_end, .int rr_current, .int rr_left]))]) (w1 := (wd_cw a_cw a_row a_ctx r_6.1 r_6.2 cw_room)) hP hD [5] [0, 1, 2, 3, 4, 6, 7, 8] rfl rfl (by decide) (by decide) hk1 hFc hP1 hD1
      have hP : va_P (dC, dI) vwCl (wd_row_bytes_ctx_states_likely_cw_rw_cr_rr cI a_row a_bytes a_ctx a_states a_likely a_cw a_rw a_cr a_rr row_count row_start bytes_n bytes_f states_n states_f likely_n likely_f r_6.1 r_6.2 cw_room rw_free cr_place cr_end cr_window cr_size cr_room rr_place rr_end rr_current rr_left) H1 := hP.sub [0, 1, 2, 3, 4, 8, 5, 6, 7] rfl
      have hD : va_D A (wd_row_bytes_ctx_states_likely_cw_rw_cr_rr cI a_row a_bytes a_ctx a_states a_likely a_cw a_rw a_cr a_rr row_count row_start bytes_n bytes_f states_n states_f likely_n likely_f r_6.1 r_6.2 cw_room rw_free cr_place cr_end cr_window cr_size cr_room rr_place rr_end rr_current rr_left) := hD.sub [0, 1, 2, 3, 4, 8, 5, 6, 7] (by decide) rfl
      generalize H1 = H at hP hS ⊢
      have hC : k + (let r_7 := F_X4_otherCame p2 states_f likely_f; DL_N3_j_8 row_start fu (0 : Int32) row_count bytes_n bytes_f r_6.1 r_6.2 cw_room + (let j_8 := L_N3_j_8 row_start fu (0 : Int32) row_count bytes_n bytes_f r_6.1 r_6.2 cw_room; 0)) + E ≤ Dt := by subst hr_6; exact hC
      have hpre := hpre r_6 hr_6
      refine lv_aload_n hx hb dX3_next_99 rfl (lv_at hl 0 rfl) ?_
      refine va_get (D := (dC, dI)) (ci := 2) (v := .ref a_ctx) (C := RX3) (T := TX3) (N := 5) hx hb hts iw_X3_next_X3 hown hK hP 5 rfl rfl 1 (by decide) (hts (.fieldLink RX3 15 "PlaneBlocks$CodedWriter" "contexts" "LPlaneBlocks$Contexts;") (by decide +kernel)) (fun _ h9 => h9) rfl dX3_next_100 ?_
      refine lv_iload_n hx hb dX3_next_103 rfl (lv_at hl 2 rfl) ?_
      have hPc := hP.sub (ws' := (wd_ctx_states_likely cI a_ctx a_states a_likely states_n states_f likely_n likely_f)) [2, 3, 4] rfl
      have hDc := hD.sub (ws' := (wd_ctx_states_likely cI a_ctx a_states a_likely states_n states_f likely_n likely_f)) [2, 3, 4] (by decide) rfl
      have hFc := va_free (wc := (wd_ctx_states_likely cI a_ctx a_states a_likely states_n states_f likely_n likely_f)) hD hS hA [2, 3, 4] rfl
      refine va_callv (va_runV (As := [.int p2]) (rest := []) ⟨hx, hb, hml, hown, hts⟩ (c_X4_otherCame l dC dI cI cJ cZ tP tN tO a_ctx a_states a_likely H.size states_n states_f likely_n likely_f p2 hpre.1) (cwV 1 hts gX3_next_X4_otherCame rfl rfl rfl (by decide +kernel) ⟨Nat.le_of_ble_eq_true rfl, Nat.le_of_ble_eq_true rfl⟩) ⟨fun a U g mk q => by obtain ⟨q0, q1, qP, qK, qD, qZ⟩ := q; exact ⟨q0, q1, qP, va_K.moved (u := U) (U := U.calling g mk a) (Vm.Alike.refl U.vm) qK, qD, Zs.moved (u := U) (U := U.calling g mk a) (Vm.Alike.refl U.vm) qZ⟩, va_recv hK hPc (ci := 3) (q0 := 0) rfl rfl, fun U hU hW => ⟨rfl, by rw [hU], by rw [hU]; exact hPc, va_K.moved hW.alike hK, hDc.weaken (fun _ _ _ _ => trivial), by rw [hU]; exact (((hZ.kept hS.2.1).narrow hFc).moved hW.alike)⟩⟩ rfl rfl hl.1 rfl (lv_room (Nat.le_of_ble_eq_true rfl)) dX3_next_104 ⟨k0_le hC, k0_le hC⟩) hS (fun q _ h => hFc q h) hFc (fun u t H1 locs ht hvm hw hB hz1 hk1 hS => ?_)
      obtain ⟨hP1, hK1, hD1⟩ := hB
      rw [ht] at hP1
      obtain ⟨r_7, hr_7⟩ : ∃ z, F_X4_otherCame p2 states_f likely_f = z := ⟨_, rfl⟩
      try rw [hr_7] at hw
      try rw [hr_7] at hP1
      try rw [hr_7] at hD1
      have hg : (let j_8 := L_N3_j_8 row_start fu (0 : Int32) row_count bytes_n bytes_f r_6.1 r_6.2 cw_room; (p1, j_8.2.1, j_8.2.2.1, j_8.2.2.2.1, r_7.1, r_7.2, j_8.2.2.2.2.1, j_8.2.2.2.2.2.1, j_8.2.2.2.2.2.2, rw_free, cr_place, cr_window, cr_size, cr_room, rr_place, rr_current, rr_left)) = g := by first | (rw [hr_7] at hg; exact hg) | (subst hr_7; exact hg)
      obtain ⟨hP, hD⟩ := va_join (wr := [(a_row, .inr (0, [.ref a_bytes, .int row_count, .int row_start])), (a_bytes, .inl (cI, bytes_n, .inl bytes_f)), (a_cw, .inr (2, [.ref a_row, .ref a_ctx, .int r_6.1, .int r_6.2, .int cw_room])), (a_rw, .inr (7, [.ref a_row, .int rw_free])), (a_cr, .inr (1, [.ref a_row, .ref a_ctx, .int cr_place, .int cr_end, .int cr_window, .int cr_size, .int cr_room])), (a_rr, .inr (6, [.ref a_row, .int rr_place, .int rr_end, .int rr_current, .int rr_left]))]) (w1 := (wd_ctx_states_likely cI a_ctx a_states a_likely states_n r_7.1 likely_n r_7.2)) hP hD [2, 3, 4] [0, 1, 5, 6, 7, 8] rfl rfl (by decide) (by decide) hk1 hFc hP1 hD1
      have hP : va_P (dC, dI) vwCl (wd_row_bytes_ctx_states_likely_cw_rw_cr_rr cI a_row a_bytes a_ctx a_states a_likely a_cw a_rw a_cr a_rr row_count row_start bytes_n bytes_f states_n r_7.1 likely_n r_7.2 r_6.1 r_6.2 cw_room rw_free cr_place cr_end cr_window cr_size cr_room rr_place rr_end rr_current rr_left) H1 := hP.sub [0, 1, 6, 7, 8, 2, 3, 4, 5] rfl
      have hD : va_D A (wd_row_bytes_ctx_states_likely_cw_rw_cr_rr cI a_row a_bytes a_ctx a_states a_likely a_cw a_rw a_cr a_rr row_count row_start bytes_n bytes_f states_n r_7.1 likely_n r_7.2 r_6.1 r_6.2 cw_room rw_free cr_place cr_end cr_window cr_size cr_room rr_place rr_end rr_current rr_left) := hD.sub [0, 1, 6, 7, 8, 2, 3, 4, 5] (by decide) rfl
      generalize H1 = H at hP hS ⊢
      have hC : k + (DL_N3_j_8 row_start fu (0 : Int32) row_count bytes_n bytes_f r_6.1 r_6.2 cw_room + (let j_8 := L_N3_j_8 row_start fu (0 : Int32) row_count bytes_n bytes_f r_6.1 r_6.2 cw_room; 0)) + E ≤ Dt := by subst hr_7; exact hC
      have hpre := hpre.2 r_7 hr_7
      refine lv_iconst (v := 0) hx hb dX3_next_107 (by decide) ?_
      refine lv_istore (lv' := [(4, .int (0 : Int32)), (0, .ref a_cw), (1, .int p1), (2, .int p2), (3, .int r_1)]) hx hb dX3_next_108 hl (by decide) rfl (fun ls hl => ?_)
      obtain ⟨j_8, hj_8⟩ : ∃ z, L_N3_j_8 row_start fu (0 : Int32) row_count bytes_n bytes_f r_6.1 r_6.2 cw_room = z := ⟨_, rfl⟩
      have hg : (p1, j_8.2.1, j_8.2.2.1, j_8.2.2.2.1, r_7.1, r_7.2, j_8.2.2.2.2.1, j_8.2.2.2.2.2.1, j_8.2.2.2.2.2.2, rw_free, cr_place, cr_window, cr_size, cr_room, rr_place, rr_current, rr_left) = g := by first | (rw [hj_8] at hg; exact hg) | (subst hj_8; exact hg)
      have hC : k + (DL_N3_j_8 row_start fu (0 : Int32) row_count bytes_n bytes_f r_6.1 r_6.2 cw_room + (0)) + E ≤ Dt := by subst hj_8; exact hC
      have hJ_j_8 : ∀ (u_bytes_j_8 : Nat) (k : Nat) (H : Heap) (locs : List Loc) (ls : Array Slot), va_P (dC, dI) vwCl (wd_row_bytes_ctx_states_likely_cw_rw_cr_rr cI a_row u_bytes_j_8 a_ctx a_states a_likely a_cw a_rw a_cr a_rr j_8.2.1 row_start j_8.2.2.1 j_8.2.2.2.1 states_n r_7.1 likely_n r_7.2 j_8.2.2.2.2.1 j_8.2.2.2.2.2.1 j_8.2.2.2.2.2.2 rw_free cr_place cr_end cr_window cr_size cr_room rr_place rr_end rr_current rr_left) H → va_D A (wd_row_bytes_ctx_states_likely_cw_rw_cr_rr cI a_row u_bytes_j_8 a_ctx a_states a_likely a_cw a_rw a_cr a_rr j_8.2.1 row_start j_8.2.2.1 j_8.2.2.2.1 states_n r_7.1 likely_n r_7.2 j_8.2.2.2.2.1 j_8.2.2.2.2.2.1 j_8.2.2.2.2.2.2 rw_free cr_place cr_end cr_window cr_size cr_room rr_place rr_end rr_current rr_left) → va_S A s.heap H locs → lv_has ls 5 [(0, .ref a_cw), (1, .int p1), (2, .int p2), (3, .int r_1), (4, .int j_8.1)] → k + (0) + E ≤ Dt → W p l e (headSpec wsX3_next (rm_N3 Dt)).room s m ([.ref a_cw, .int p1, .int p2] : List Value).toArray below meth c H locs k k Q (F0 m 173 ls []) := by
        intro u_bytes_j_8 k H locs ls hP hD hS hl hC
        refine lv_iload_n hx hb dX3_next_173 rfl (lv_at hl 1 rfl) ?_
        subst hg
        refine W.widen (k := Dt) (n := Dt) (k0_le hC) (k0_le hC) ?_
        rw [← hQe]
        exact W.iret (v := p1) hx hb hr (fun t ht hW => ⟨⟨p1, u_bytes_j_8, rfl, rfl, by rw [ht]; exact hP, va_K.moved hW.alike hK, hD⟩, hS.F ht⟩) hS.2.2 dX3_next_174
      obtain ⟨E2, hE2⟩ : ∃ z : Nat, z = (0) + E := ⟨_, rfl⟩
      have hC : k + (DL_N3_j_8 row_start fu (0 : Int32) row_count bytes_n bytes_f r_6.1 r_6.2 cw_room) + E2 ≤ Dt := by rw [hE2]; exact add4 hC
      have hL_j_8 : ∀ (n : Nat) (v4_j_8 : Int32) (row_count_j_8 : Int32) (bytes_n_j_8 : Nat) (bytes_f_j_8 : Nat → Int32) (cw_low_j_8 : Int32) (cw_size_j_8 : Int32) (cw_room_j_8 : Int32) (w_bytes_j_8 : Nat) (k : Nat) (H : Heap) (locs : List Loc) (ls : Array Slot), PL_N3_j_8 row_start n v4_j_8 row_count_j_8 bytes_n_j_8 bytes_f_j_8 cw_low_j_8 cw_size_j_8 cw_room_j_8 → L_N3_j_8 row_start n v4_j_8 row_count_j_8 bytes_n_j_8 bytes_f_j_8 cw_low_j_8 cw_size_j_8 cw_room_j_8 = j_8 → va_P (dC, dI) vwCl (wd_row_bytes_ctx_states_likely_cw_rw_cr_rr cI a_row w_bytes_j_8 a_ctx a_states a_likely a_cw a_rw a_cr a_rr row_count_j_8 row_start bytes_n_j_8 bytes_f_j_8 states_n r_7.1 likely_n r_7.2 cw_low_j_8 cw_size_j_8 cw_room_j_8 rw_free cr_place cr_end cr_window cr_size cr_room rr_place rr_end rr_current rr_left) H → va_D A (wd_row_bytes_ctx_states_likely_cw_rw_cr_rr cI a_row w_bytes_j_8 a_ctx a_states a_likely a_cw a_rw a_cr a_rr row_count_j_8 row_start bytes_n_j_8 bytes_f_j_8 states_n r_7.1 likely_n r_7.2 cw_low_j_8 cw_size_j_8 cw_room_j_8 rw_free cr_place cr_end cr_window cr_size cr_room rr_place rr_end rr_current rr_left) → va_S A s.heap H locs → lv_has ls 5 [(0, .ref a_cw), (1, .int p1), (2, .int p2), (3, .int r_1), (4, .int v4_j_8)] → k + (DL_N3_j_8 row_start n v4_j_8 row_count_j_8 bytes_n_j_8 bytes_f_j_8 cw_low_j_8 cw_size_j_8 cw_room_j_8) + E2 ≤ Dt → W p l e (headSpec wsX3_next (rm_N3 Dt)).room s m ([.ref a_cw, .int p1, .int p2] : List Value).toArray below meth c H locs k k Q (F0 m 110 ls []) := by
        intro n
        induction n with
        | zero => intro v4_j_8 row_count_j_8 bytes_n_j_8 bytes_f_j_8 cw_low_j_8 cw_size_j_8 cw_room_j_8 w_bytes_j_8 k H locs ls hpre; exact absurd hpre id
        | succ n ih =>
          intro v4_j_8 row_count_j_8 bytes_n_j_8 bytes_f_j_8 cw_low_j_8 cw_size_j_8 cw_room_j_8 w_bytes_j_8 k H locs ls hpre hg hP hD hS hl hC
          rw [PL_N3_j_8] at hpre
          rw [L_N3_j_8] at hg
          rw [DL_N3_j_8] at hC
          refine lv_iload hx hb dX3_next_110 (lv_at hl 4 rfl) ?_
          refine lv_bipush (v := 15) hx hb dX3_next_112 (by decide) ?_
          refine lv_icmp_ge (tgt := 173) hx hb dX3_next_114 (by decide) (fun c_9 => ?_) (fun c_9 => ?_)
          · rw [if_pos c_9] at hg
            rw [if_pos c_9] at hC
            exact hJ_j_8 w_bytes_j_8 _ _ _ _ (by rw [← hg]; exact hP) (by rw [← hg]; exact hD) hS (by rw [← hg]; exact lv_sub hl [0, 1, 2, 3, 4] rfl) (by rw [Nat.add_assoc, ← hE2]; exact hC)
          · rw [if_neg c_9] at hg
            rw [if_neg c_9] at hC
            have hpre := hpre c_9
            refine lv_aload_n hx hb dX3_next_117 rfl (lv_at hl 0 rfl) ?_
            refine va_get (D := (dC, dI)) (ci := 2) (v := .int cw_size_j_8) (C := RX3) (T := TX3) (N := 5) hx hb hts iw_X3_next_X3 hown hK hP 5 rfl rfl 3 (by decide) (hts (.fieldLink RX3 24 "PlaneBlocks$CodedWriter" "size" "I") (by decide +kernel)) (fun _ h9 => h9) rfl dX3_next_118 ?_
            refine lv_ldc (v := 32768) hx hb hown (hts (.constant RX3 23 (32768)) (by decide +kernel)) dX3_next_121 ?_
            refine lv_icmp_ge (tgt := 173) hx hb dX3_next_123 (by decide) (fun c_10 => ?_) (fun c_10 => ?_)
            · rw [if_pos c_10] at hg
              rw [if_pos c_10] at hC
              exact hJ_j_8 w_bytes_j_8 _ _ _ _ (by rw [← hg]; exact hP) (by rw [← hg]; exact hD) hS (by rw [← hg]; exact lv_sub hl [0, 1, 2, 3, 4] rfl) (by rw [Nat.add_assoc, ← hE2]; exact hC)
            · rw [if_neg c_10] at hg
              rw [if_neg c_10] at hC
              have hpre := hpre c_10
              refine lv_aload_n hx hb dX3_next_126 rfl (lv_at hl 0 rfl) ?_
              refine lv_dup hx hb dX3_next_127 rfl ?_
              refine va_get (D := (dC, dI)) (ci := 2) (v := .int cw_size_j_8) (C := RX3) (T := TX3) (N := 5) hx hb hts iw_X3_next_X3 hown hK hP 5 rfl rfl 3 (by decide) (hts (.fieldLink RX3 24 "PlaneBlocks$CodedWriter" "size" "I") (by decide +kernel)) (fun _ h9 => h9) rfl dX3_next_128 ?_
              refine lv_iconst (v := 2) hx hb dX3_next_131 (by decide) ?_
              refine lv_imul hx hb dX3_next_132 ?_
              refine va_put (D := (dC, dI)) (ci := 2) (v := .int (cw_size_j_8 * (2 : Int32))) (ty := .int) (C := RX3) (T := TX3) (N := 5) hx hb hts iw_X3_next_X3 tyX3 tyX3_ok nmX3 hown hK hP hD hS 5 rfl rfl 3 (by decide) (hts (.fieldLink RX3 24 "PlaneBlocks$CodedWriter" "size" "I") (by decide +kernel)) (fun _ h9 => h9) rfl (by decide +kernel) rfl rfl (Nat.le_of_ble_eq_true rfl) dX3_next_133 (fun H locs hP hD hS => ?_)
              have hP : va_P (dC, dI) vwCl (wd_row_bytes_ctx_states_likely_cw_rw_cr_rr cI a_row w_bytes_j_8 a_ctx a_states a_likely a_cw a_rw a_cr a_rr row_count_j_8 row_start bytes_n_j_8 bytes_f_j_8 states_n r_7.1 likely_n r_7.2 cw_low_j_8 (cw_size_j_8 * (2 : Int32)) cw_room_j_8 rw_free cr_place cr_end cr_window cr_size cr_room rr_place rr_end rr_current rr_left) H := hP
              have hD : va_D A (wd_row_bytes_ctx_states_likely_cw_rw_cr_rr cI a_row w_bytes_j_8 a_ctx a_states a_likely a_cw a_rw a_cr a_rr row_count_j_8 row_start bytes_n_j_8 bytes_f_j_8 states_n r_7.1 likely_n r_7.2 cw_low_j_8 (cw_size_j_8 * (2 : Int32)) cw_room_j_8 rw_free cr_place cr_end cr_window cr_size cr_room rr_place rr_end rr_current rr_left) := hD
              refine lv_aload_n hx hb dX3_next_136 rfl (lv_at hl 0 rfl) ?_
              refine lv_dup hx hb dX3_next_137 rfl ?_
              refine va_get (D := (dC, dI)) (ci := 2) (v := .int cw_low_j_8) (C := RX3) (T := TX3) (N := 5) hx hb hts iw_X3_next_X3 hown hK hP 5 rfl rfl 2 (by decide) (hts (.fieldLink RX3 19 "PlaneBlocks$CodedWriter" "low" "I") (by decide +kernel)) (fun _ h9 => h9) rfl dX3_next_138 ?_
              refine lv_iconst (v := 2) hx hb dX3_next_141 (by decide) ?_
              refine lv_imul hx hb dX3_next_142 ?_
              refine va_put (D := (dC, dI)) (ci := 2) (v := .int (cw_low_j_8 * (2 : Int32))) (ty := .int) (C := RX3) (T := TX3) (N := 5) hx hb hts iw_X3_next_X3 tyX3 tyX3_ok nmX3 hown hK hP hD hS 5 rfl rfl 2 (by decide) (hts (.fieldLink RX3 19 "PlaneBlocks$CodedWriter" "low" "I") (by decide +kernel)) (fun _ h9 => h9) rfl (by decide +kernel) rfl rfl (Nat.le_of_ble_eq_true rfl) dX3_next_143 (fun H locs hP hD hS => ?_)
              have hP : va_P (dC, dI) vwCl (wd_row_bytes_ctx_states_likely_cw_rw_cr_rr cI a_row w_bytes_j_8 a_ctx a_states a_likely a_cw a_rw a_cr a_rr row_count_j_8 row_start bytes_n_j_8 bytes_f_j_8 states_n r_7.1 likely_n r_7.2 (cw_low_j_8 * (2 : Int32)) (cw_size_j_8 * (2 : Int32)) cw_room_j_8 rw_free cr_place cr_end cr_window cr_size cr_room rr_place rr_end rr_current rr_left) H := hP
              have hD : va_D A (wd_row_bytes_ctx_states_likely_cw_rw_cr_rr cI a_row w_bytes_j_8 a_ctx a_states a_likely a_cw a_rw a_cr a_rr row_count_j_8 row_start bytes_n_j_8 bytes_f_j_8 states_n r_7.1 likely_n r_7.2 (cw_low_j_8 * (2 : Int32)) (cw_size_j_8 * (2 : Int32)) cw_room_j_8 rw_free cr_place cr_end cr_window cr_size cr_room rr_place rr_end rr_current rr_left) := hD
              refine lv_aload_n hx hb dX3_next_146 rfl (lv_at hl 0 rfl) ?_
              refine lv_dup hx hb dX3_next_147 rfl ?_
              refine va_get (D := (dC, dI)) (ci := 2) (v := .int cw_room_j_8) (C := RX3) (T := TX3) (N := 5) hx hb hts iw_X3_next_X3 hown hK hP 5 rfl rfl 4 (by decide) (hts (.fieldLink RX3 27 "PlaneBlocks$CodedWriter" "room" "I") (by decide +kernel)) (fun _ h9 => h9) rfl dX3_next_148 ?_
              refine lv_iconst (v := 1) hx hb dX3_next_151 (by decide) ?_
              refine lv_isub hx hb dX3_next_152 ?_
              refine va_put (D := (dC, dI)) (ci := 2) (v := .int (cw_room_j_8 - (1 : Int32))) (ty := .int) (C := RX3) (T := TX3) (N := 5) hx hb hts iw_X3_next_X3 tyX3 tyX3_ok nmX3 hown hK hP hD hS 5 rfl rfl 4 (by decide) (hts (.fieldLink RX3 27 "PlaneBlocks$CodedWriter" "room" "I") (by decide +kernel)) (fun _ h9 => h9) rfl (by decide +kernel) rfl rfl (Nat.le_of_ble_eq_true rfl) dX3_next_153 (fun H locs hP hD hS => ?_)
              have hP : va_P (dC, dI) vwCl (wd_row_bytes_ctx_states_likely_cw_rw_cr_rr cI a_row w_bytes_j_8 a_ctx a_states a_likely a_cw a_rw a_cr a_rr row_count_j_8 row_start bytes_n_j_8 bytes_f_j_8 states_n r_7.1 likely_n r_7.2 (cw_low_j_8 * (2 : Int32)) (cw_size_j_8 * (2 : Int32)) (cw_room_j_8 - (1 : Int32)) rw_free cr_place cr_end cr_window cr_size cr_room rr_place rr_end rr_current rr_left) H := hP
              have hD : va_D A (wd_row_bytes_ctx_states_likely_cw_rw_cr_rr cI a_row w_bytes_j_8 a_ctx a_states a_likely a_cw a_rw a_cr a_rr row_count_j_8 row_start bytes_n_j_8 bytes_f_j_8 states_n r_7.1 likely_n r_7.2 (cw_low_j_8 * (2 : Int32)) (cw_size_j_8 * (2 : Int32)) (cw_room_j_8 - (1 : Int32)) rw_free cr_place cr_end cr_window cr_size cr_room rr_place rr_end rr_current rr_left) := hD
              refine lv_aload_n hx hb dX3_next_156 rfl (lv_at hl 0 rfl) ?_
              refine va_get (D := (dC, dI)) (ci := 2) (v := .int (cw_room_j_8 - (1 : Int32))) (C := RX3) (T := TX3) (N := 5) hx hb hts iw_X3_next_X3 hown hK hP 5 rfl rfl 4 (by decide) (hts (.fieldLink RX3 27 "PlaneBlocks$CodedWriter" "room" "I") (by decide +kernel)) (fun _ h9 => h9) rfl dX3_next_157 ?_
              obtain ⟨j_14, hj_14⟩ : ∃ z, J_N3_j_14 row_start row_count_j_8 bytes_n_j_8 bytes_f_j_8 cw_low_j_8 cw_room_j_8 = z := ⟨_, rfl⟩
              have hg : (L_N3_j_8 row_start n (v4_j_8 + (1 : Int32)) j_14.1 j_14.2.1 j_14.2.2.1 j_14.2.2.2.1 (cw_size_j_8 * (2 : Int32)) j_14.2.2.2.2) = j_8 := by first | (rw [hj_14] at hg; exact hg) | (subst hj_14; exact hg)
              have hC : k + (DJ_N3_j_14 row_start row_count_j_8 bytes_n_j_8 bytes_f_j_8 cw_low_j_8 cw_room_j_8 + (DL_N3_j_8 row_start n (v4_j_8 + (1 : Int32)) j_14.1 j_14.2.1 j_14.2.2.1 j_14.2.2.2.1 (cw_size_j_8 * (2 : Int32)) j_14.2.2.2.2)) + E2 ≤ Dt := by subst hj_14; exact hC
              have hJ_j_14 : ∀ (u_bytes_j_14 : Nat) (k : Nat) (H : Heap) (locs : List Loc) (ls : Array Slot), va_P (dC, dI) vwCl (wd_row_bytes_ctx_states_likely_cw_rw_cr_rr cI a_row u_bytes_j_14 a_ctx a_states a_likely a_cw a_rw a_cr a_rr j_14.1 row_start j_14.2.1 j_14.2.2.1 states_n r_7.1 likely_n r_7.2 j_14.2.2.2.1 (cw_size_j_8 * (2 : Int32)) j_14.2.2.2.2 rw_free cr_place cr_end cr_window cr_size cr_room rr_place rr_end rr_current rr_left) H → va_D A (wd_row_bytes_ctx_states_likely_cw_rw_cr_rr cI a_row u_bytes_j_14 a_ctx a_states a_likely a_cw a_rw a_cr a_rr j_14.1 row_start j_14.2.1 j_14.2.2.1 states_n r_7.1 likely_n r_7.2 j_14.2.2.2.1 (cw_size_j_8 * (2 : Int32)) j_14.2.2.2.2 rw_free cr_place cr_end cr_window cr_size cr_room rr_place rr_end rr_current rr_left) → va_S A s.heap H locs → lv_has ls 5 [(0, .ref a_cw), (1, .int p1), (2, .int p2), (3, .int r_1), (4, .int v4_j_8)] → k + (DL_N3_j_8 row_start n (v4_j_8 + (1 : Int32)) j_14.1 j_14.2.1 j_14.2.2.1 j_14.2.2.2.1 (cw_size_j_8 * (2 : Int32)) j_14.2.2.2.2) + E2 ≤ Dt → W p l e (headSpec wsX3_next (rm_N3 Dt)).room s m ([.ref a_cw, .int p1, .int p2] : List Value).toArray below meth c H locs k k Q (F0 m 167 ls []) := by
                intro u_bytes_j_14 k H locs ls hP hD hS hl hC
                have hpre := hpre.2 j_14 hj_14
                refine lv_iinc (v := (v4_j_8 + (1 : Int32))) (lv' := [(4, .int (v4_j_8 + (1 : Int32))), (0, .ref a_cw), (1, .int p1), (2, .int p2), (3, .int r_1)]) hx hb dX3_next_167 hl (k := 4) rfl rfl (by decide) rfl (fun ls hl => ?_)
                refine lv_goto (tgt := 110) hx hb dX3_next_170 (by decide) ?_
                exact ih (v4_j_8 + (1 : Int32)) j_14.1 j_14.2.1 j_14.2.2.1 j_14.2.2.2.1 (cw_size_j_8 * (2 : Int32)) j_14.2.2.2.2 u_bytes_j_14 k _ _ _ hpre hg hP hD hS (lv_sub hl [1, 2, 3, 4, 0] rfl) hC
              have hpre := hpre.1
              obtain ⟨E2, hE2⟩ : ∃ z : Nat, z = (DL_N3_j_8 row_start n (v4_j_8 + (1 : Int32)) j_14.1 j_14.2.1 j_14.2.2.1 j_14.2.2.2.1 (cw_size_j_8 * (2 : Int32)) j_14.2.2.2.2) + E2 := ⟨_, rfl⟩
              have hC : k + (DJ_N3_j_14 row_start row_count_j_8 bytes_n_j_8 bytes_f_j_8 cw_low_j_8 cw_room_j_8) + E2 ≤ Dt := by rw [hE2]; exact add4 hC
              unfold PJ_N3_j_14 at hpre
              have hC : k + (if (cw_room_j_8 - (1 : Int32)) = (0 : Int32) then (D_X3_byteOut row_count_j_8 row_start bytes_n_j_8 bytes_f_j_8 (cw_low_j_8 * (2 : Int32)) + (let r_12 := F_X3_byteOut row_count_j_8 row_start bytes_n_j_8 bytes_f_j_8 (cw_low_j_8 * (2 : Int32)); 0)) else 0) + E2 ≤ Dt := hC
              have hg : (if (cw_room_j_8 - (1 : Int32)) = (0 : Int32) then (let r_12 := F_X3_byteOut row_count_j_8 row_start bytes_n_j_8 bytes_f_j_8 (cw_low_j_8 * (2 : Int32)); (r_12.1, r_12.2.1, r_12.2.2.1, r_12.2.2.2.1, r_12.2.2.2.2)) else (row_count_j_8, bytes_n_j_8, bytes_f_j_8, cw_low_j_8 * (2 : Int32), cw_room_j_8 - (1 : Int32))) = j_14 := by rw [← hj_14]; rfl
              clear hj_14
              refine lv_if_ne (tgt := 167) hx hb dX3_next_160 (by decide) (fun c_11 => ?_) (fun c_11 => ?_)
              · rw [if_neg c_11] at hg
                rw [if_neg c_11] at hC
                exact hJ_j_14 w_bytes_j_8 _ _ _ _ (by rw [← hg]; exact hP) (by rw [← hg]; exact hD) hS (lv_sub hl [0, 1, 2, 3, 4] rfl) (by rw [Nat.add_assoc, ← hE2]; exact hC)
              · rw [if_pos c_11] at hg
                rw [if_pos c_11] at hC
                have hpre := hpre c_11
                refine lv_aload_n hx hb dX3_next_163 rfl (lv_at hl 0 rfl) ?_
                have hPc := hP.sub (ws' := (wd_row_bytes_cw cI a_row w_bytes_j_8 a_cw a_ctx row_count_j_8 row_start bytes_n_j_8 bytes_f_j_8 (cw_low_j_8 * (2 : Int32)) (cw_size_j_8 * (2 : Int32)) (cw_room_j_8 - (1 : Int32)))) [0, 1, 5] rfl
                have hDc := hD.sub (ws' := (wd_row_bytes_cw cI a_row w_bytes_j_8 a_cw a_ctx row_count_j_8 row_start bytes_n_j_8 bytes_f_j_8 (cw_low_j_8 * (2 : Int32)) (cw_size_j_8 * (2 : Int32)) (cw_room_j_8 - (1 : Int32)))) [0, 1, 5] (by decide) rfl
                have hFc := va_free (wc := (wd_row_bytes_cw cI a_row w_bytes_j_8 a_cw a_ctx row_count_j_8 row_start bytes_n_j_8 bytes_f_j_8 (cw_low_j_8 * (2 : Int32)) (cw_size_j_8 * (2 : Int32)) (cw_room_j_8 - (1 : Int32)))) hD hS hA [0, 1, 5] rfl
                refine va_callv (va_runV (As := []) (rest := []) ⟨hx, hb, hml, hown, hts⟩ (c_X3_byteOut l dC dI cI cJ cZ a_row w_bytes_j_8 a_cw a_ctx H.size row_count_j_8 row_start bytes_n_j_8 bytes_f_j_8 (cw_low_j_8 * (2 : Int32)) (cw_size_j_8 * (2 : Int32)) (cw_room_j_8 - (1 : Int32)) hpre) (cwV 0 hts gX3_next_X3_byteOut rfl rfl rfl (by decide +kernel) ⟨Nat.le_of_ble_eq_true rfl, Nat.le_of_ble_eq_true rfl⟩) ⟨fun a U g mk q => by obtain ⟨q0, q1, qP, qK, qD⟩ := q; exact ⟨q0, q1, qP, va_K.moved (u := U) (U := U.calling g mk a) (Vm.Alike.refl U.vm) qK, qD⟩, va_recv hK hPc (ci := 2) (q0 := 2) rfl rfl, fun U hU hW => ⟨rfl, by rw [hU], by rw [hU]; exact hPc, va_K.moved hW.alike hK, hDc.weaken (fun _ _ _ _ => trivial)⟩⟩ rfl rfl hl.1 rfl (lv_room (Nat.le_of_ble_eq_true rfl)) dX3_next_164 ⟨kd_le hC, kd_le hC⟩) hS (fun q _ h => hFc q h) hFc (fun u t H1 locs ht hvm hw hB hz1 hk1 hS => ?_)
                obtain ⟨u_13, rfl⟩ : ∃ z, z = u := ⟨_, rfl⟩
                obtain ⟨hP1, hK1, hD1⟩ := hB
                rw [ht] at hP1
                obtain ⟨r_12, hr_12⟩ : ∃ z, F_X3_byteOut row_count_j_8 row_start bytes_n_j_8 bytes_f_j_8 (cw_low_j_8 * (2 : Int32)) = z := ⟨_, rfl⟩
                try rw [hr_12] at hw
                try rw [hr_12] at hP1
                try rw [hr_12] at hD1
                have hg : (r_12.1, r_12.2.1, r_12.2.2.1, r_12.2.2.2.1, r_12.2.2.2.2) = j_14 := by first | (rw [hr_12] at hg; exact hg) | (subst hr_12; exact hg)
                obtain ⟨hP, hD⟩ := va_join (wr := [(a_ctx, .inr (3, [.ref a_states, .ref a_likely])), (a_states, .inl (cI, states_n, .inl r_7.1)), (a_likely, .inl (cI, likely_n, .inl r_7.2)), (a_rw, .inr (7, [.ref a_row, .int rw_free])), (a_cr, .inr (1, [.ref a_row, .ref a_ctx, .int cr_place, .int cr_end, .int cr_window, .int cr_size, .int cr_room])), (a_rr, .inr (6, [.ref a_row, .int rr_place, .int rr_end, .int rr_current, .int rr_left]))]) (w1 := (wd_row_bytes_cw cI a_row u_13 a_cw a_ctx r_12.1 row_start r_12.2.1 r_12.2.2.1 r_12.2.2.2.1 (cw_size_j_8 * (2 : Int32)) r_12.2.2.2.2)) hP hD [0, 1, 5] [2, 3, 4, 6, 7, 8] rfl rfl (by decide) (by decide) hk1 hFc hP1 hD1
                have hP : va_P (dC, dI) vwCl (wd_row_bytes_ctx_states_likely_cw_rw_cr_rr cI a_row u_13 a_ctx a_states a_likely a_cw a_rw a_cr a_rr r_12.1 row_start r_12.2.1 r_12.2.2.1 states_n r_7.1 likely_n r_7.2 r_12.2.2.2.1 (cw_size_j_8 * (2 : Int32)) r_12.2.2.2.2 rw_free cr_place cr_end cr_window cr_size cr_room rr_place rr_end rr_current rr_left) H1 := hP.sub [6, 7, 0, 1, 2, 8, 3, 4, 5] rfl
                have hD : va_D A (wd_row_bytes_ctx_states_likely_cw_rw_cr_rr cI a_row u_13 a_ctx a_states a_likely a_cw a_rw a_cr a_rr r_12.1 row_start r_12.2.1 r_12.2.2.1 states_n r_7.1 likely_n r_7.2 r_12.2.2.2.1 (cw_size_j_8 * (2 : Int32)) r_12.2.2.2.2 rw_free cr_place cr_end cr_window cr_size cr_room rr_place rr_end rr_current rr_left) := hD.sub [6, 7, 0, 1, 2, 8, 3, 4, 5] (by decide) rfl
                generalize H1 = H at hP hS ⊢
                have hC : k + (D_X3_byteOut row_count_j_8 row_start bytes_n_j_8 bytes_f_j_8 (cw_low_j_8 * (2 : Int32)) + (0)) + E2 ≤ Dt := by subst hr_12; exact hC
                obtain ⟨k1, hk1⟩ : ∃ z, z = k + (D_X3_byteOut row_count_j_8 row_start bytes_n_j_8 bytes_f_j_8 (cw_low_j_8 * (2 : Int32))) := ⟨_, rfl⟩
                have hC : k1 + (0) + E2 ≤ Dt := by rw [hk1, Nat.add_assoc k]; exact hC
                refine W.widen (k := k1) (n := k1) (Nat.le_of_eq hk1.symm) (Nat.le_of_eq hk1.symm) ?_
                clear hk1
                generalize k1 = k at hC ⊢
                exact hJ_j_14 u_13 _ _ _ _ (by rw [← hg]; exact hP) (by rw [← hg]; exact hD) hS (lv_sub hl [0, 1, 2, 3, 4] rfl) (by rw [Nat.add_assoc, ← hE2]; exact hC)
      exact hL_j_8 fu (0 : Int32) row_count bytes_n bytes_f r_6.1 r_6.2 cw_room a_bytes k _ _ _ hpre hj_8 hP hD hS (lv_sub hl [1, 2, 3, 4, 0] rfl) hC
    obtain ⟨E2, hE2⟩ : ∃ z : Nat, z = (let r_6 := F_X3_takeShare j_5 r_1 cw_low (cw_size - r_1); let r_7 := F_X4_otherCame p2 states_f likely_f; DL_N3_j_8 row_start fu (0 : Int32) row_count bytes_n bytes_f r_6.1 r_6.2 cw_room + (let j_8 := L_N3_j_8 row_start fu (0 : Int32) row_count bytes_n bytes_f r_6.1 r_6.2 cw_room; 0)) + E := ⟨_, rfl⟩
    have hC : k + 0 + E2 ≤ Dt := by rw [hE2]; exact add40 hC
    have hg : (if (cw_size - r_1) < r_1 then (0 : Int32) else (1 : Int32)) = j_5 := by rw [← hj_5]; rfl
    clear hj_5
    refine lv_icmp_lt (tgt := 94) hx hb dX3_next_87 (by decide) (fun c_4 => ?_) (fun c_4 => ?_)
    · rw [if_pos c_4] at hg
      refine lv_iconst (v := 0) hx hb dX3_next_94 (by decide) ?_
      rw [← hg] at hJ_j_5
      try rw [← hg] at hE2
      exact hJ_j_5 _ _ _ _ hP hD hS (lv_sub hl [1, 2, 3, 0] rfl) (by rw [Nat.add_assoc, ← hE2]; exact hC)
    · rw [if_neg c_4] at hg
      refine lv_iconst (v := 1) hx hb dX3_next_90 (by decide) ?_
      refine lv_goto (tgt := 95) hx hb dX3_next_91 (by decide) ?_
      rw [← hg] at hJ_j_5
      try rw [← hg] at hE2
      exact hJ_j_5 _ _ _ _ hP hD hS (lv_sub hl [1, 2, 3, 0] rfl) (by rw [Nat.add_assoc, ← hE2]; exact hC)
  · rw [if_pos c_3] at hg
    rw [if_pos c_3] at hC
    have hpre := hpre.1 c_3
    refine lv_aload_n hx hb dX3_next_31 rfl (lv_at hl 1 rfl) ?_
    refine va_get (D := (dC, dI)) (ci := 2) (v := .int (cw_size - r_1)) (C := RX3) (T := TX3) (N := 5) hx hb hts iw_X3_next_X3 hown hK hP 5 rfl rfl 3 (by decide) (hts (.fieldLink RX3 24 "PlaneBlocks$CodedWriter" "size" "I") (by decide +kernel)) (fun _ h9 => h9) rfl dX3_next_32 ?_
    refine lv_ldc (v := 32768) hx hb hown (hts (.constant RX3 23 (32768)) (by decide +kernel)) dX3_next_35 ?_
    refine lv_icmp_lt (tgt := 52) hx hb dX3_next_37 (by decide) (fun c_15 => ?_) (fun c_15 => ?_)
    · rw [if_pos c_15] at hg
      rw [if_pos c_15] at hC
      have hpre := hpre c_15
      refine lv_aload_n hx hb dX3_next_52 rfl (lv_at hl 1 rfl) ?_
      refine lv_aload_n hx hb dX3_next_53 rfl (lv_at hl 1 rfl) ?_
      refine va_get (D := (dC, dI)) (ci := 2) (v := .int (cw_size - r_1)) (C := RX3) (T := TX3) (N := 5) hx hb hts iw_X3_next_X3 hown hK hP 5 rfl rfl 3 (by decide) (hts (.fieldLink RX3 24 "PlaneBlocks$CodedWriter" "size" "I") (by decide +kernel)) (fun _ h9 => h9) rfl dX3_next_54 ?_
      refine lv_iload_n hx hb dX3_next_57 rfl (lv_at hl 0 rfl) ?_
      obtain ⟨j_17, hj_17⟩ : ∃ z, J_N3_j_17 cw_size r_1 = z := ⟨_, rfl⟩
      have hg : (let r_18 := F_X3_takeShare j_17 r_1 cw_low (cw_size - r_1); let r_19 := F_X4_likelyCame p2 states_f; let j_20 := L_N3_j_20 row_start fu (0 : Int32) row_count bytes_n bytes_f r_18.1 r_18.2 cw_room; (p1, j_20.2.1, j_20.2.2.1, j_20.2.2.2.1, r_19, likely_f, j_20.2.2.2.2.1, j_20.2.2.2.2.2.1, j_20.2.2.2.2.2.2, rw_free, cr_place, cr_window, cr_size, cr_room, rr_place, rr_current, rr_left)) = g := by first | (rw [hj_17] at hg; exact hg) | (subst hj_17; exact hg)
      have hC : k + (let r_18 := F_X3_takeShare j_17 r_1 cw_low (cw_size - r_1); let r_19 := F_X4_likelyCame p2 states_f; DL_N3_j_20 row_start fu (0 : Int32) row_count bytes_n bytes_f r_18.1 r_18.2 cw_room + (let j_20 := L_N3_j_20 row_start fu (0 : Int32) row_count bytes_n bytes_f r_18.1 r_18.2 cw_room; 0)) + E ≤ Dt := by subst hj_17; exact hC
      have hJ_j_17 : ∀ (k : Nat) (H : Heap) (locs : List Loc) (ls : Array Slot), va_P (dC, dI) vwCl (wd_row_bytes_ctx_states_likely_cw_rw_cr_rr cI a_row a_bytes a_ctx a_states a_likely a_cw a_rw a_cr a_rr row_count row_start bytes_n bytes_f states_n states_f likely_n likely_f cw_low (cw_size - r_1) cw_room rw_free cr_place cr_end cr_window cr_size cr_room rr_place rr_end rr_current rr_left) H → va_D A (wd_row_bytes_ctx_states_likely_cw_rw_cr_rr cI a_row a_bytes a_ctx a_states a_likely a_cw a_rw a_cr a_rr row_count row_start bytes_n bytes_f states_n states_f likely_n likely_f cw_low (cw_size - r_1) cw_room rw_free cr_place cr_end cr_window cr_size cr_room rr_place rr_end rr_current rr_left) → va_S A s.heap H locs → lv_has ls 5 [(0, .ref a_cw), (1, .int p1), (2, .int p2), (3, .int r_1)] → k + (let r_18 := F_X3_takeShare j_17 r_1 cw_low (cw_size - r_1); let r_19 := F_X4_likelyCame p2 states_f; DL_N3_j_20 row_start fu (0 : Int32) row_count bytes_n bytes_f r_18.1 r_18.2 cw_room + (let j_20 := L_N3_j_20 row_start fu (0 : Int32) row_count bytes_n bytes_f r_18.1 r_18.2 cw_room; 0)) + E ≤ Dt → W p l e (headSpec wsX3_next (rm_N3 Dt)).room s m ([.ref a_cw, .int p1, .int p2] : List Value).toArray below meth c H locs k k Q (F0 m 66 ls [.int j_17, .ref a_cw]) := by
        intro k H locs ls hP hD hS hl hC
        have hpre := hpre j_17 hj_17
        refine lv_iload_n hx hb dX3_next_66 rfl (lv_at hl 3 rfl) ?_
        have hPc := hP.sub (ws' := (wd_cw a_cw a_row a_ctx cw_low (cw_size - r_1) cw_room)) [5] rfl
        have hDc := hD.sub (ws' := (wd_cw a_cw a_row a_ctx cw_low (cw_size - r_1) cw_room)) [5] (by decide) rfl
        have hFc := va_free (wc := (wd_cw a_cw a_row a_ctx cw_low (cw_size - r_1) cw_room)) hD hS hA [5] rfl
        refine va_callv (va_runV (As := [.int j_17, .int r_1]) (rest := []) ⟨hx, hb, hml, hown, hts⟩ (c_X3_takeShare l dC dI cI cJ cZ a_cw a_row a_ctx H.size cw_low (cw_size - r_1) cw_room j_17 r_1) (cwV 2 hts gX3_next_X3_takeShare rfl rfl rfl (by decide +kernel) ⟨Nat.le_of_ble_eq_true rfl, Nat.le_of_ble_eq_true rfl⟩) ⟨fun a U g mk q => by obtain ⟨q0, q1, qP, qK, qD⟩ := q; exact ⟨q0, q1, qP, va_K.moved (u := U) (U := U.calling g mk a) (Vm.Alike.refl U.vm) qK, qD⟩, va_recv hK hPc (ci := 2) (q0 := 0) rfl rfl, fun U hU hW => ⟨rfl, by rw [hU], by rw [hU]; exact hPc, va_K.moved hW.alike hK, hDc.weaken (fun _ _ _ _ => trivial)⟩⟩ rfl rfl hl.1 rfl (lv_room (Nat.le_of_ble_eq_true rfl)) dX3_next_67 ⟨k0_le hC, k0_le hC⟩) hS (fun q _ h => hFc q h) hFc (fun u t H1 locs ht hvm hw hB hz1 hk1 hS => ?_)
        obtain ⟨hP1, hK1, hD1⟩ := hB
        rw [ht] at hP1
        obtain ⟨r_18, hr_18⟩ : ∃ z, F_X3_takeShare j_17 r_1 cw_low (cw_size - r_1) = z := ⟨_, rfl⟩
        try rw [hr_18] at hw
        try rw [hr_18] at hP1
        try rw [hr_18] at hD1
        have hg : (let r_19 := F_X4_likelyCame p2 states_f; let j_20 := L_N3_j_20 row_start fu (0 : Int32) row_count bytes_n bytes_f r_18.1 r_18.2 cw_room; (p1, j_20.2.1, j_20.2.2.1, j_20.2.2.2.1, r_19, likely_f, j_20.2.2.2.2.1, j_20.2.2.2.2.2.1, j_20.2.2.2.2.2.2, rw_free, cr_place, cr_window, cr_size, cr_room, rr_place, rr_current, rr_left)) = g := by first | (rw [hr_18] at hg; exact hg) | (subst hr_18; exact hg)
        obtain ⟨hP, hD⟩ := va_join (wr := [(a_row, .inr (0, [.ref a_bytes, .int row_count, .int row_start])), (a_bytes, .inl (cI, bytes_n, .inl bytes_f)), (a_ctx, .inr (3, [.ref a_states, .ref a_likely])), (a_states, .inl (cI, states_n, .inl states_f)), (a_likely, .inl (cI, likely_n, .inl likely_f)), (a_rw, .inr (7, [.ref a_row, .int rw_free])), (a_cr, .inr (1, [.ref a_row, .ref a_ctx, .int cr_place, .int cr_end, .int cr_window, .int cr_size, .int cr_room])), (a_rr, .inr (6, [.ref a_row, .int rr_place, .int rr_end, .int rr_current, .int rr_left]))]) (w1 := (wd_cw a_cw a_row a_ctx r_18.1 r_18.2 cw_room)) hP hD [5] [0, 1, 2, 3, 4, 6, 7, 8] rfl rfl (by decide) (by decide) hk1 hFc hP1 hD1
        have hP : va_P (dC, dI) vwCl (wd_row_bytes_ctx_states_likely_cw_rw_cr_rr cI a_row a_bytes a_ctx a_states a_likely a_cw a_rw a_cr a_rr row_count row_start bytes_n bytes_f states_n states_f likely_n likely_f r_18.1 r_18.2 cw_room rw_free cr_place cr_end cr_window cr_size cr_room rr_place rr_end rr_current rr_left) H1 := hP.sub [0, 1, 2, 3, 4, 8, 5, 6, 7] rfl
        have hD : va_D A (wd_row_bytes_ctx_states_likely_cw_rw_cr_rr cI a_row a_bytes a_ctx a_states a_likely a_cw a_rw a_cr a_rr row_count row_start bytes_n bytes_f states_n states_f likely_n likely_f r_18.1 r_18.2 cw_room rw_free cr_place cr_end cr_window cr_size cr_room rr_place rr_end rr_current rr_left) := hD.sub [0, 1, 2, 3, 4, 8, 5, 6, 7] (by decide) rfl
        generalize H1 = H at hP hS ⊢
        have hC : k + (let r_19 := F_X4_likelyCame p2 states_f; DL_N3_j_20 row_start fu (0 : Int32) row_count bytes_n bytes_f r_18.1 r_18.2 cw_room + (let j_20 := L_N3_j_20 row_start fu (0 : Int32) row_count bytes_n bytes_f r_18.1 r_18.2 cw_room; 0)) + E ≤ Dt := by subst hr_18; exact hC
        have hpre := hpre r_18 hr_18
        refine lv_aload_n hx hb dX3_next_70 rfl (lv_at hl 0 rfl) ?_
        refine va_get (D := (dC, dI)) (ci := 2) (v := .ref a_ctx) (C := RX3) (T := TX3) (N := 5) hx hb hts iw_X3_next_X3 hown hK hP 5 rfl rfl 1 (by decide) (hts (.fieldLink RX3 15 "PlaneBlocks$CodedWriter" "contexts" "LPlaneBlocks$Contexts;") (by decide +kernel)) (fun _ h9 => h9) rfl dX3_next_71 ?_
        refine lv_iload_n hx hb dX3_next_74 rfl (lv_at hl 2 rfl) ?_
        have hPc := hP.sub (ws' := (wd_ctx_states cI a_ctx a_states a_likely states_n states_f)) [2, 3] rfl
        have hDc := hD.sub (ws' := (wd_ctx_states cI a_ctx a_states a_likely states_n states_f)) [2, 3] (by decide) rfl
        have hFc := va_free (wc := (wd_ctx_states cI a_ctx a_states a_likely states_n states_f)) hD hS hA [2, 3] rfl
        refine va_callv (va_runV (As := [.int p2]) (rest := []) ⟨hx, hb, hml, hown, hts⟩ (c_X4_likelyCame l dC dI cI cJ cZ tP tN tO a_ctx a_states a_likely H.size states_n states_f p2 hpre.1) (cwV 1 hts gX3_next_X4_likelyCame rfl rfl rfl (by decide +kernel) ⟨Nat.le_of_ble_eq_true rfl, Nat.le_of_ble_eq_true rfl⟩) ⟨fun a U g mk q => by obtain ⟨q0, q1, qP, qK, qD, qZ⟩ := q; exact ⟨q0, q1, qP, va_K.moved (u := U) (U := U.calling g mk a) (Vm.Alike.refl U.vm) qK, qD, Zs.moved (u := U) (U := U.calling g mk a) (Vm.Alike.refl U.vm) qZ⟩, va_recv hK hPc (ci := 3) (q0 := 0) rfl rfl, fun U hU hW => ⟨rfl, by rw [hU], by rw [hU]; exact hPc, va_K.moved hW.alike hK, hDc.weaken (fun _ _ _ _ => trivial), by rw [hU]; exact (((hZ.kept hS.2.1).narrow hFc).moved hW.alike)⟩⟩ rfl rfl hl.1 rfl (lv_room (Nat.le_of_ble_eq_true rfl)) dX3_next_75 ⟨k0_le hC, k0_le hC⟩) hS (fun q _ h => hFc q h) hFc (fun u t H1 locs ht hvm hw hB hz1 hk1 hS => ?_)
        obtain ⟨hP1, hK1, hD1⟩ := hB
        rw [ht] at hP1
        obtain ⟨r_19, hr_19⟩ : ∃ z, F_X4_likelyCame p2 states_f = z := ⟨_, rfl⟩
        try rw [hr_19] at hw
        try rw [hr_19] at hP1
        try rw [hr_19] at hD1
        have hg : (let j_20 := L_N3_j_20 row_start fu (0 : Int32) row_count bytes_n bytes_f r_18.1 r_18.2 cw_room; (p1, j_20.2.1, j_20.2.2.1, j_20.2.2.2.1, r_19, likely_f, j_20.2.2.2.2.1, j_20.2.2.2.2.2.1, j_20.2.2.2.2.2.2, rw_free, cr_place, cr_window, cr_size, cr_room, rr_place, rr_current, rr_left)) = g := by first | (rw [hr_19] at hg; exact hg) | (subst hr_19; exact hg)
        obtain ⟨hP, hD⟩ := va_join (wr := [(a_row, .inr (0, [.ref a_bytes, .int row_count, .int row_start])), (a_bytes, .inl (cI, bytes_n, .inl bytes_f)), (a_likely, .inl (cI, likely_n, .inl likely_f)), (a_cw, .inr (2, [.ref a_row, .ref a_ctx, .int r_18.1, .int r_18.2, .int cw_room])), (a_rw, .inr (7, [.ref a_row, .int rw_free])), (a_cr, .inr (1, [.ref a_row, .ref a_ctx, .int cr_place, .int cr_end, .int cr_window, .int cr_size, .int cr_room])), (a_rr, .inr (6, [.ref a_row, .int rr_place, .int rr_end, .int rr_current, .int rr_left]))]) (w1 := (wd_ctx_states cI a_ctx a_states a_likely states_n r_19)) hP hD [2, 3] [0, 1, 4, 5, 6, 7, 8] rfl rfl (by decide) (by decide) hk1 hFc hP1 hD1
        have hP : va_P (dC, dI) vwCl (wd_row_bytes_ctx_states_likely_cw_rw_cr_rr cI a_row a_bytes a_ctx a_states a_likely a_cw a_rw a_cr a_rr row_count row_start bytes_n bytes_f states_n r_19 likely_n likely_f r_18.1 r_18.2 cw_room rw_free cr_place cr_end cr_window cr_size cr_room rr_place rr_end rr_current rr_left) H1 := hP.sub [0, 1, 7, 8, 2, 3, 4, 5, 6] rfl
        have hD : va_D A (wd_row_bytes_ctx_states_likely_cw_rw_cr_rr cI a_row a_bytes a_ctx a_states a_likely a_cw a_rw a_cr a_rr row_count row_start bytes_n bytes_f states_n r_19 likely_n likely_f r_18.1 r_18.2 cw_room rw_free cr_place cr_end cr_window cr_size cr_room rr_place rr_end rr_current rr_left) := hD.sub [0, 1, 7, 8, 2, 3, 4, 5, 6] (by decide) rfl
        generalize H1 = H at hP hS ⊢
        have hC : k + (DL_N3_j_20 row_start fu (0 : Int32) row_count bytes_n bytes_f r_18.1 r_18.2 cw_room + (let j_20 := L_N3_j_20 row_start fu (0 : Int32) row_count bytes_n bytes_f r_18.1 r_18.2 cw_room; 0)) + E ≤ Dt := by subst hr_19; exact hC
        have hpre := hpre.2 r_19 hr_19
        refine lv_goto (tgt := 107) hx hb dX3_next_78 (by decide) ?_
        refine lv_iconst (v := 0) hx hb dX3_next_107 (by decide) ?_
        refine lv_istore (lv' := [(4, .int (0 : Int32)), (0, .ref a_cw), (1, .int p1), (2, .int p2), (3, .int r_1)]) hx hb dX3_next_108 hl (by decide) rfl (fun ls hl => ?_)
        obtain ⟨j_20, hj_20⟩ : ∃ z, L_N3_j_20 row_start fu (0 : Int32) row_count bytes_n bytes_f r_18.1 r_18.2 cw_room = z := ⟨_, rfl⟩
        have hg : (p1, j_20.2.1, j_20.2.2.1, j_20.2.2.2.1, r_19, likely_f, j_20.2.2.2.2.1, j_20.2.2.2.2.2.1, j_20.2.2.2.2.2.2, rw_free, cr_place, cr_window, cr_size, cr_room, rr_place, rr_current, rr_left) = g := by first | (rw [hj_20] at hg; exact hg) | (subst hj_20; exact hg)
        have hC : k + (DL_N3_j_20 row_start fu (0 : Int32) row_count bytes_n bytes_f r_18.1 r_18.2 cw_room + (0)) + E ≤ Dt := by subst hj_20; exact hC
        have hJ_j_20 : ∀ (u_bytes_j_20 : Nat) (k : Nat) (H : Heap) (locs : List Loc) (ls : Array Slot), va_P (dC, dI) vwCl (wd_row_bytes_ctx_states_likely_cw_rw_cr_rr cI a_row u_bytes_j_20 a_ctx a_states a_likely a_cw a_rw a_cr a_rr j_20.2.1 row_start j_20.2.2.1 j_20.2.2.2.1 states_n r_19 likely_n likely_f j_20.2.2.2.2.1 j_20.2.2.2.2.2.1 j_20.2.2.2.2.2.2 rw_free cr_place cr_end cr_window cr_size cr_room rr_place rr_end rr_current rr_left) H → va_D A (wd_row_bytes_ctx_states_likely_cw_rw_cr_rr cI a_row u_bytes_j_20 a_ctx a_states a_likely a_cw a_rw a_cr a_rr j_20.2.1 row_start j_20.2.2.1 j_20.2.2.2.1 states_n r_19 likely_n likely_f j_20.2.2.2.2.1 j_20.2.2.2.2.2.1 j_20.2.2.2.2.2.2 rw_free cr_place cr_end cr_window cr_size cr_room rr_place rr_end rr_current rr_left) → va_S A s.heap H locs → lv_has ls 5 [(0, .ref a_cw), (1, .int p1), (2, .int p2), (3, .int r_1), (4, .int j_20.1)] → k + (0) + E ≤ Dt → W p l e (headSpec wsX3_next (rm_N3 Dt)).room s m ([.ref a_cw, .int p1, .int p2] : List Value).toArray below meth c H locs k k Q (F0 m 173 ls []) := by
          intro u_bytes_j_20 k H locs ls hP hD hS hl hC
          refine lv_iload_n hx hb dX3_next_173 rfl (lv_at hl 1 rfl) ?_
          subst hg
          refine W.widen (k := Dt) (n := Dt) (k0_le hC) (k0_le hC) ?_
          rw [← hQe]
          exact W.iret (v := p1) hx hb hr (fun t ht hW => ⟨⟨p1, u_bytes_j_20, rfl, rfl, by rw [ht]; exact hP, va_K.moved hW.alike hK, hD⟩, hS.F ht⟩) hS.2.2 dX3_next_174
        obtain ⟨E2, hE2⟩ : ∃ z : Nat, z = (0) + E := ⟨_, rfl⟩
        have hC : k + (DL_N3_j_20 row_start fu (0 : Int32) row_count bytes_n bytes_f r_18.1 r_18.2 cw_room) + E2 ≤ Dt := by rw [hE2]; exact add4 hC
        have hL_j_20 : ∀ (n : Nat) (v4_j_20 : Int32) (row_count_j_20 : Int32) (bytes_n_j_20 : Nat) (bytes_f_j_20 : Nat → Int32) (cw_low_j_20 : Int32) (cw_size_j_20 : Int32) (cw_room_j_20 : Int32) (w_bytes_j_20 : Nat) (k : Nat) (H : Heap) (locs : List Loc) (ls : Array Slot), PL_N3_j_20 row_start n v4_j_20 row_count_j_20 bytes_n_j_20 bytes_f_j_20 cw_low_j_20 cw_size_j_20 cw_room_j_20 → L_N3_j_20 row_start n v4_j_20 row_count_j_20 bytes_n_j_20 bytes_f_j_20 cw_low_j_20 cw_size_j_20 cw_room_j_20 = j_20 → va_P (dC, dI) vwCl (wd_row_bytes_ctx_states_likely_cw_rw_cr_rr cI a_row w_bytes_j_20 a_ctx a_states a_likely a_cw a_rw a_cr a_rr row_count_j_20 row_start bytes_n_j_20 bytes_f_j_20 states_n r_19 likely_n likely_f cw_low_j_20 cw_size_j_20 cw_room_j_20 rw_free cr_place cr_end cr_window cr_size cr_room rr_place rr_end rr_current rr_left) H → va_D A (wd_row_bytes_ctx_states_likely_cw_rw_cr_rr cI a_row w_bytes_j_20 a_ctx a_states a_likely a_cw a_rw a_cr a_rr row_count_j_20 row_start bytes_n_j_20 bytes_f_j_20 states_n r_19 likely_n likely_f cw_low_j_20 cw_size_j_20 cw_room_j_20 rw_free cr_place cr_end cr_window cr_size cr_room rr_place rr_end rr_current rr_left) → va_S A s.heap H locs → lv_has ls 5 [(0, .ref a_cw), (1, .int p1), (2, .int p2), (3, .int r_1), (4, .int v4_j_20)] → k + (DL_N3_j_20 row_start n v4_j_20 row_count_j_20 bytes_n_j_20 bytes_f_j_20 cw_low_j_20 cw_size_j_20 cw_room_j_20) + E2 ≤ Dt → W p l e (headSpec wsX3_next (rm_N3 Dt)).room s m ([.ref a_cw, .int p1, .int p2] : List Value).toArray below meth c H locs k k Q (F0 m 110 ls []) := by
          intro n
          induction n with
          | zero => intro v4_j_20 row_count_j_20 bytes_n_j_20 bytes_f_j_20 cw_low_j_20 cw_size_j_20 cw_room_j_20 w_bytes_j_20 k H locs ls hpre; exact absurd hpre id
          | succ n ih =>
            intro v4_j_20 row_count_j_20 bytes_n_j_20 bytes_f_j_20 cw_low_j_20 cw_size_j_20 cw_room_j_20 w_bytes_j_20 k H locs ls hpre hg hP hD hS hl hC
            rw [PL_N3_j_20] at hpre
            rw [L_N3_j_20] at hg
            rw [DL_N3_j_20] at hC
            refine lv_iload hx hb dX3_next_110 (lv_at hl 4 rfl) ?_
            refine lv_bipush (v := 15) hx hb dX3_next_112 (by decide) ?_
            refine lv_icmp_ge (tgt := 173) hx hb dX3_next_114 (by decide) (fun c_21 => ?_) (fun c_21 => ?_)
            · rw [if_pos c_21] at hg
              rw [if_pos c_21] at hC
              exact hJ_j_20 w_bytes_j_20 _ _ _ _ (by rw [← hg]; exact hP) (by rw [← hg]; exact hD) hS (by rw [← hg]; exact lv_sub hl [0, 1, 2, 3, 4] rfl) (by rw [Nat.add_assoc, ← hE2]; exact hC)
            · rw [if_neg c_21] at hg
              rw [if_neg c_21] at hC
              have hpre := hpre c_21
              refine lv_aload_n hx hb dX3_next_117 rfl (lv_at hl 0 rfl) ?_
              refine va_get (D := (dC, dI)) (ci := 2) (v := .int cw_size_j_20) (C := RX3) (T := TX3) (N := 5) hx hb hts iw_X3_next_X3 hown hK hP 5 rfl rfl 3 (by decide) (hts (.fieldLink RX3 24 "PlaneBlocks$CodedWriter" "size" "I") (by decide +kernel)) (fun _ h9 => h9) rfl dX3_next_118 ?_
              refine lv_ldc (v := 32768) hx hb hown (hts (.constant RX3 23 (32768)) (by decide +kernel)) dX3_next_121 ?_
              refine lv_icmp_ge (tgt := 173) hx hb dX3_next_123 (by decide) (fun c_22 => ?_) (fun c_22 => ?_)
              · rw [if_pos c_22] at hg
                rw [if_pos c_22] at hC
                exact hJ_j_20 w_bytes_j_20 _ _ _ _ (by rw [← hg]; exact hP) (by rw [← hg]; exact hD) hS (by rw [← hg]; exact lv_sub hl [0, 1, 2, 3, 4] rfl) (by rw [Nat.add_assoc, ← hE2]; exact hC)
              · rw [if_neg c_22] at hg
                rw [if_neg c_22] at hC
                have hpre := hpre c_22
                refine lv_aload_n hx hb dX3_next_126 rfl (lv_at hl 0 rfl) ?_
                refine lv_dup hx hb dX3_next_127 rfl ?_
                refine va_get (D := (dC, dI)) (ci := 2) (v := .int cw_size_j_20) (C := RX3) (T := TX3) (N := 5) hx hb hts iw_X3_next_X3 hown hK hP 5 rfl rfl 3 (by decide) (hts (.fieldLink RX3 24 "PlaneBlocks$CodedWriter" "size" "I") (by decide +kernel)) (fun _ h9 => h9) rfl dX3_next_128 ?_
                refine lv_iconst (v := 2) hx hb dX3_next_131 (by decide) ?_
                refine lv_imul hx hb dX3_next_132 ?_
                refine va_put (D := (dC, dI)) (ci := 2) (v := .int (cw_size_j_20 * (2 : Int32))) (ty := .int) (C := RX3) (T := TX3) (N := 5) hx hb hts iw_X3_next_X3 tyX3 tyX3_ok nmX3 hown hK hP hD hS 5 rfl rfl 3 (by decide) (hts (.fieldLink RX3 24 "PlaneBlocks$CodedWriter" "size" "I") (by decide +kernel)) (fun _ h9 => h9) rfl (by decide +kernel) rfl rfl (Nat.le_of_ble_eq_true rfl) dX3_next_133 (fun H locs hP hD hS => ?_)
                have hP : va_P (dC, dI) vwCl (wd_row_bytes_ctx_states_likely_cw_rw_cr_rr cI a_row w_bytes_j_20 a_ctx a_states a_likely a_cw a_rw a_cr a_rr row_count_j_20 row_start bytes_n_j_20 bytes_f_j_20 states_n r_19 likely_n likely_f cw_low_j_20 (cw_size_j_20 * (2 : Int32)) cw_room_j_20 rw_free cr_place cr_end cr_window cr_size cr_room rr_place rr_end rr_current rr_left) H := hP
                have hD : va_D A (wd_row_bytes_ctx_states_likely_cw_rw_cr_rr cI a_row w_bytes_j_20 a_ctx a_states a_likely a_cw a_rw a_cr a_rr row_count_j_20 row_start bytes_n_j_20 bytes_f_j_20 states_n r_19 likely_n likely_f cw_low_j_20 (cw_size_j_20 * (2 : Int32)) cw_room_j_20 rw_free cr_place cr_end cr_window cr_size cr_room rr_place rr_end rr_current rr_left) := hD
                refine lv_aload_n hx hb dX3_next_136 rfl (lv_at hl 0 rfl) ?_
                refine lv_dup hx hb dX3_next_137 rfl ?_
                refine va_get (D := (dC, dI)) (ci := 2) (v := .int cw_low_j_20) (C := RX3) (T := TX3) (N := 5) hx hb hts iw_X3_next_X3 hown hK hP 5 rfl rfl 2 (by decide) (hts (.fieldLink RX3 19 "PlaneBlocks$CodedWriter" "low" "I") (by decide +kernel)) (fun _ h9 => h9) rfl dX3_next_138 ?_
                refine lv_iconst (v := 2) hx hb dX3_next_141 (by decide) ?_
                refine lv_imul hx hb dX3_next_142 ?_
                refine va_put (D := (dC, dI)) (ci := 2) (v := .int (cw_low_j_20 * (2 : Int32))) (ty := .int) (C := RX3) (T := TX3) (N := 5) hx hb hts iw_X3_next_X3 tyX3 tyX3_ok nmX3 hown hK hP hD hS 5 rfl rfl 2 (by decide) (hts (.fieldLink RX3 19 "PlaneBlocks$CodedWriter" "low" "I") (by decide +kernel)) (fun _ h9 => h9) rfl (by decide +kernel) rfl rfl (Nat.le_of_ble_eq_true rfl) dX3_next_143 (fun H locs hP hD hS => ?_)
                have hP : va_P (dC, dI) vwCl (wd_row_bytes_ctx_states_likely_cw_rw_cr_rr cI a_row w_bytes_j_20 a_ctx a_states a_likely a_cw a_rw a_cr a_rr row_count_j_20 row_start bytes_n_j_20 bytes_f_j_20 states_n r_19 likely_n likely_f (cw_low_j_20 * (2 : Int32)) (cw_size_j_20 * (2 : Int32)) cw_room_j_20 rw_free cr_place cr_end cr_window cr_size cr_room rr_place rr_end rr_current rr_left) H := hP
                have hD : va_D A (wd_row_bytes_ctx_states_likely_cw_rw_cr_rr cI a_row w_bytes_j_20 a_ctx a_states a_likely a_cw a_rw a_cr a_rr row_count_j_20 row_start bytes_n_j_20 bytes_f_j_20 states_n r_19 likely_n likely_f (cw_low_j_20 * (2 : Int32)) (cw_size_j_20 * (2 : Int32)) cw_room_j_20 rw_free cr_place cr_end cr_window cr_size cr_room rr_place rr_end rr_current rr_left) := hD
                refine lv_aload_n hx hb dX3_next_146 rfl (lv_at hl 0 rfl) ?_
                refine lv_dup hx hb dX3_next_147 rfl ?_
                refine va_get (D := (dC, dI)) (ci := 2) (v := .int cw_room_j_20) (C := RX3) (T := TX3) (N := 5) hx hb hts iw_X3_next_X3 hown hK hP 5 rfl rfl 4 (by decide) (hts (.fieldLink RX3 27 "PlaneBlocks$CodedWriter" "room" "I") (by decide +kernel)) (fun _ h9 => h9) rfl dX3_next_148 ?_
                refine lv_iconst (v := 1) hx hb dX3_next_151 (by decide) ?_
                refine lv_isub hx hb dX3_next_152 ?_
                refine va_put (D := (dC, dI)) (ci := 2) (v := .int (cw_room_j_20 - (1 : Int32))) (ty := .int) (C := RX3) (T := TX3) (N := 5) hx hb hts iw_X3_next_X3 tyX3 tyX3_ok nmX3 hown hK hP hD hS 5 rfl rfl 4 (by decide) (hts (.fieldLink RX3 27 "PlaneBlocks$CodedWriter" "room" "I") (by decide +kernel)) (fun _ h9 => h9) rfl (by decide +kernel) rfl rfl (Nat.le_of_ble_eq_true rfl) dX3_next_153 (fun H locs hP hD hS => ?_)
                have hP : va_P (dC, dI) vwCl (wd_row_bytes_ctx_states_likely_cw_rw_cr_rr cI a_row w_bytes_j_20 a_ctx a_states a_likely a_cw a_rw a_cr a_rr row_count_j_20 row_start bytes_n_j_20 bytes_f_j_20 states_n r_19 likely_n likely_f (cw_low_j_20 * (2 : Int32)) (cw_size_j_20 * (2 : Int32)) (cw_room_j_20 - (1 : Int32)) rw_free cr_place cr_end cr_window cr_size cr_room rr_place rr_end rr_current rr_left) H := hP
                have hD : va_D A (wd_row_bytes_ctx_states_likely_cw_rw_cr_rr cI a_row w_bytes_j_20 a_ctx a_states a_likely a_cw a_rw a_cr a_rr row_count_j_20 row_start bytes_n_j_20 bytes_f_j_20 states_n r_19 likely_n likely_f (cw_low_j_20 * (2 : Int32)) (cw_size_j_20 * (2 : Int32)) (cw_room_j_20 - (1 : Int32)) rw_free cr_place cr_end cr_window cr_size cr_room rr_place rr_end rr_current rr_left) := hD
                refine lv_aload_n hx hb dX3_next_156 rfl (lv_at hl 0 rfl) ?_
                refine va_get (D := (dC, dI)) (ci := 2) (v := .int (cw_room_j_20 - (1 : Int32))) (C := RX3) (T := TX3) (N := 5) hx hb hts iw_X3_next_X3 hown hK hP 5 rfl rfl 4 (by decide) (hts (.fieldLink RX3 27 "PlaneBlocks$CodedWriter" "room" "I") (by decide +kernel)) (fun _ h9 => h9) rfl dX3_next_157 ?_
                obtain ⟨j_26, hj_26⟩ : ∃ z, J_N3_j_26 row_start row_count_j_20 bytes_n_j_20 bytes_f_j_20 cw_low_j_20 cw_room_j_20 = z := ⟨_, rfl⟩
                have hg : (L_N3_j_20 row_start n (v4_j_20 + (1 : Int32)) j_26.1 j_26.2.1 j_26.2.2.1 j_26.2.2.2.1 (cw_size_j_20 * (2 : Int32)) j_26.2.2.2.2) = j_20 := by first | (rw [hj_26] at hg; exact hg) | (subst hj_26; exact hg)
                have hC : k + (DJ_N3_j_26 row_start row_count_j_20 bytes_n_j_20 bytes_f_j_20 cw_low_j_20 cw_room_j_20 + (DL_N3_j_20 row_start n (v4_j_20 + (1 : Int32)) j_26.1 j_26.2.1 j_26.2.2.1 j_26.2.2.2.1 (cw_size_j_20 * (2 : Int32)) j_26.2.2.2.2)) + E2 ≤ Dt := by subst hj_26; exact hC
                have hJ_j_26 : ∀ (u_bytes_j_26 : Nat) (k : Nat) (H : Heap) (locs : List Loc) (ls : Array Slot), va_P (dC, dI) vwCl (wd_row_bytes_ctx_states_likely_cw_rw_cr_rr cI a_row u_bytes_j_26 a_ctx a_states a_likely a_cw a_rw a_cr a_rr j_26.1 row_start j_26.2.1 j_26.2.2.1 states_n r_19 likely_n likely_f j_26.2.2.2.1 (cw_size_j_20 * (2 : Int32)) j_26.2.2.2.2 rw_free cr_place cr_end cr_window cr_size cr_room rr_place rr_end rr_current rr_left) H → va_D A (wd_row_bytes_ctx_states_likely_cw_rw_cr_rr cI a_row u_bytes_j_26 a_ctx a_states a_likely a_cw a_rw a_cr a_rr j_26.1 row_start j_26.2.1 j_26.2.2.1 states_n r_19 likely_n likely_f j_26.2.2.2.1 (cw_size_j_20 * (2 : Int32)) j_26.2.2.2.2 rw_free cr_place cr_end cr_window cr_size cr_room rr_place rr_end rr_current rr_left) → va_S A s.heap H locs → lv_has ls 5 [(0, .ref a_cw), (1, .int p1), (2, .int p2), (3, .int r_1), (4, .int v4_j_20)] → k + (DL_N3_j_20 row_start n (v4_j_20 + (1 : Int32)) j_26.1 j_26.2.1 j_26.2.2.1 j_26.2.2.2.1 (cw_size_j_20 * (2 : Int32)) j_26.2.2.2.2) + E2 ≤ Dt → W p l e (headSpec wsX3_next (rm_N3 Dt)).room s m ([.ref a_cw, .int p1, .int p2] : List Value).toArray below meth c H locs k k Q (F0 m 167 ls []) := by
                  intro u_bytes_j_26 k H locs ls hP hD hS hl hC
                  have hpre := hpre.2 j_26 hj_26
                  refine lv_iinc (v := (v4_j_20 + (1 : Int32))) (lv' := [(4, .int (v4_j_20 + (1 : Int32))), (0, .ref a_cw), (1, .int p1), (2, .int p2), (3, .int r_1)]) hx hb dX3_next_167 hl (k := 4) rfl rfl (by decide) rfl (fun ls hl => ?_)
                  refine lv_goto (tgt := 110) hx hb dX3_next_170 (by decide) ?_
                  exact ih (v4_j_20 + (1 : Int32)) j_26.1 j_26.2.1 j_26.2.2.1 j_26.2.2.2.1 (cw_size_j_20 * (2 : Int32)) j_26.2.2.2.2 u_bytes_j_26 k _ _ _ hpre hg hP hD hS (lv_sub hl [1, 2, 3, 4, 0] rfl) hC
                have hpre := hpre.1
                obtain ⟨E2, hE2⟩ : ∃ z : Nat, z = (DL_N3_j_20 row_start n (v4_j_20 + (1 : Int32)) j_26.1 j_26.2.1 j_26.2.2.1 j_26.2.2.2.1 (cw_size_j_20 * (2 : Int32)) j_26.2.2.2.2) + E2 := ⟨_, rfl⟩
                have hC : k + (DJ_N3_j_26 row_start row_count_j_20 bytes_n_j_20 bytes_f_j_20 cw_low_j_20 cw_room_j_20) + E2 ≤ Dt := by rw [hE2]; exact add4 hC
                unfold PJ_N3_j_26 at hpre
                have hC : k + (if (cw_room_j_20 - (1 : Int32)) = (0 : Int32) then (D_X3_byteOut row_count_j_20 row_start bytes_n_j_20 bytes_f_j_20 (cw_low_j_20 * (2 : Int32)) + (let r_24 := F_X3_byteOut row_count_j_20 row_start bytes_n_j_20 bytes_f_j_20 (cw_low_j_20 * (2 : Int32)); 0)) else 0) + E2 ≤ Dt := hC
                have hg : (if (cw_room_j_20 - (1 : Int32)) = (0 : Int32) then (let r_24 := F_X3_byteOut row_count_j_20 row_start bytes_n_j_20 bytes_f_j_20 (cw_low_j_20 * (2 : Int32)); (r_24.1, r_24.2.1, r_24.2.2.1, r_24.2.2.2.1, r_24.2.2.2.2)) else (row_count_j_20, bytes_n_j_20, bytes_f_j_20, cw_low_j_20 * (2 : Int32), cw_room_j_20 - (1 : Int32))) = j_26 := by rw [← hj_26]; rfl
                clear hj_26
                refine lv_if_ne (tgt := 167) hx hb dX3_next_160 (by decide) (fun c_23 => ?_) (fun c_23 => ?_)
                · rw [if_neg c_23] at hg
                  rw [if_neg c_23] at hC
                  exact hJ_j_26 w_bytes_j_20 _ _ _ _ (by rw [← hg]; exact hP) (by rw [← hg]; exact hD) hS (lv_sub hl [0, 1, 2, 3, 4] rfl) (by rw [Nat.add_assoc, ← hE2]; exact hC)
                · rw [if_pos c_23] at hg
                  rw [if_pos c_23] at hC
                  have hpre := hpre c_23
                  refine lv_aload_n hx hb dX3_next_163 rfl (lv_at hl 0 rfl) ?_
                  have hPc := hP.sub (ws' := (wd_row_bytes_cw cI a_row w_bytes_j_20 a_cw a_ctx row_count_j_20 row_start bytes_n_j_20 bytes_f_j_20 (cw_low_j_20 * (2 : Int32)) (cw_size_j_20 * (2 : Int32)) (cw_room_j_20 - (1 : Int32)))) [0, 1, 5] rfl
                  have hDc := hD.sub (ws' := (wd_row_bytes_cw cI a_row w_bytes_j_20 a_cw a_ctx row_count_j_20 row_start bytes_n_j_20 bytes_f_j_20 (cw_low_j_20 * (2 : Int32)) (cw_size_j_20 * (2 : Int32)) (cw_room_j_20 - (1 : Int32)))) [0, 1, 5] (by decide) rfl
                  have hFc := va_free (wc := (wd_row_bytes_cw cI a_row w_bytes_j_20 a_cw a_ctx row_count_j_20 row_start bytes_n_j_20 bytes_f_j_20 (cw_low_j_20 * (2 : Int32)) (cw_size_j_20 * (2 : Int32)) (cw_room_j_20 - (1 : Int32)))) hD hS hA [0, 1, 5] rfl
                  refine va_callv (va_runV (As := []) (rest := []) ⟨hx, hb, hml, hown, hts⟩ (c_X3_byteOut l dC dI cI cJ cZ a_row w_bytes_j_20 a_cw a_ctx H.size row_count_j_20 row_start bytes_n_j_20 bytes_f_j_20 (cw_low_j_20 * (2 : Int32)) (cw_size_j_20 * (2 : Int32)) (cw_room_j_20 - (1 : Int32)) hpre) (cwV 0 hts gX3_next_X3_byteOut rfl rfl rfl (by decide +kernel) ⟨Nat.le_of_ble_eq_true rfl, Nat.le_of_ble_eq_true rfl⟩) ⟨fun a U g mk q => by obtain ⟨q0, q1, qP, qK, qD⟩ := q; exact ⟨q0, q1, qP, va_K.moved (u := U) (U := U.calling g mk a) (Vm.Alike.refl U.vm) qK, qD⟩, va_recv hK hPc (ci := 2) (q0 := 2) rfl rfl, fun U hU hW => ⟨rfl, by rw [hU], by rw [hU]; exact hPc, va_K.moved hW.alike hK, hDc.weaken (fun _ _ _ _ => trivial)⟩⟩ rfl rfl hl.1 rfl (lv_room (Nat.le_of_ble_eq_true rfl)) dX3_next_164 ⟨kd_le hC, kd_le hC⟩) hS (fun q _ h => hFc q h) hFc (fun u t H1 locs ht hvm hw hB hz1 hk1 hS => ?_)
                  obtain ⟨u_25, rfl⟩ : ∃ z, z = u := ⟨_, rfl⟩
                  obtain ⟨hP1, hK1, hD1⟩ := hB
                  rw [ht] at hP1
                  obtain ⟨r_24, hr_24⟩ : ∃ z, F_X3_byteOut row_count_j_20 row_start bytes_n_j_20 bytes_f_j_20 (cw_low_j_20 * (2 : Int32)) = z := ⟨_, rfl⟩
                  try rw [hr_24] at hw
                  try rw [hr_24] at hP1
                  try rw [hr_24] at hD1
                  have hg : (r_24.1, r_24.2.1, r_24.2.2.1, r_24.2.2.2.1, r_24.2.2.2.2) = j_26 := by first | (rw [hr_24] at hg; exact hg) | (subst hr_24; exact hg)
                  obtain ⟨hP, hD⟩ := va_join (wr := [(a_ctx, .inr (3, [.ref a_states, .ref a_likely])), (a_states, .inl (cI, states_n, .inl r_19)), (a_likely, .inl (cI, likely_n, .inl likely_f)), (a_rw, .inr (7, [.ref a_row, .int rw_free])), (a_cr, .inr (1, [.ref a_row, .ref a_ctx, .int cr_place, .int cr_end, .int cr_window, .int cr_size, .int cr_room])), (a_rr, .inr (6, [.ref a_row, .int rr_place, .int rr_end, .int rr_current, .int rr_left]))]) (w1 := (wd_row_bytes_cw cI a_row u_25 a_cw a_ctx r_24.1 row_start r_24.2.1 r_24.2.2.1 r_24.2.2.2.1 (cw_size_j_20 * (2 : Int32)) r_24.2.2.2.2)) hP hD [0, 1, 5] [2, 3, 4, 6, 7, 8] rfl rfl (by decide) (by decide) hk1 hFc hP1 hD1
                  have hP : va_P (dC, dI) vwCl (wd_row_bytes_ctx_states_likely_cw_rw_cr_rr cI a_row u_25 a_ctx a_states a_likely a_cw a_rw a_cr a_rr r_24.1 row_start r_24.2.1 r_24.2.2.1 states_n r_19 likely_n likely_f r_24.2.2.2.1 (cw_size_j_20 * (2 : Int32)) r_24.2.2.2.2 rw_free cr_place cr_end cr_window cr_size cr_room rr_place rr_end rr_current rr_left) H1 := hP.sub [6, 7, 0, 1, 2, 8, 3, 4, 5] rfl
                  have hD : va_D A (wd_row_bytes_ctx_states_likely_cw_rw_cr_rr cI a_row u_25 a_ctx a_states a_likely a_cw a_rw a_cr a_rr r_24.1 row_start r_24.2.1 r_24.2.2.1 states_n r_19 likely_n likely_f r_24.2.2.2.1 (cw_size_j_20 * (2 : Int32)) r_24.2.2.2.2 rw_free cr_place cr_end cr_window cr_size cr_room rr_place rr_end rr_current rr_left) := hD.sub [6, 7, 0, 1, 2, 8, 3, 4, 5] (by decide) rfl
                  generalize H1 = H at hP hS ⊢
                  have hC : k + (D_X3_byteOut row_count_j_20 row_start bytes_n_j_20 bytes_f_j_20 (cw_low_j_20 * (2 : Int32)) + (0)) + E2 ≤ Dt := by subst hr_24; exact hC
                  obtain ⟨k1, hk1⟩ : ∃ z, z = k + (D_X3_byteOut row_count_j_20 row_start bytes_n_j_20 bytes_f_j_20 (cw_low_j_20 * (2 : Int32))) := ⟨_, rfl⟩
                  have hC : k1 + (0) + E2 ≤ Dt := by rw [hk1, Nat.add_assoc k]; exact hC
                  refine W.widen (k := k1) (n := k1) (Nat.le_of_eq hk1.symm) (Nat.le_of_eq hk1.symm) ?_
                  clear hk1
                  generalize k1 = k at hC ⊢
                  exact hJ_j_26 u_25 _ _ _ _ (by rw [← hg]; exact hP) (by rw [← hg]; exact hD) hS (lv_sub hl [0, 1, 2, 3, 4] rfl) (by rw [Nat.add_assoc, ← hE2]; exact hC)
        exact hL_j_20 fu (0 : Int32) row_count bytes_n bytes_f r_18.1 r_18.2 cw_room a_bytes k _ _ _ hpre hj_20 hP hD hS (lv_sub hl [1, 2, 3, 4, 0] rfl) hC
      obtain ⟨E2, hE2⟩ : ∃ z : Nat, z = (let r_18 := F_X3_takeShare j_17 r_1 cw_low (cw_size - r_1); let r_19 := F_X4_likelyCame p2 states_f; DL_N3_j_20 row_start fu (0 : Int32) row_count bytes_n bytes_f r_18.1 r_18.2 cw_room + (let j_20 := L_N3_j_20 row_start fu (0 : Int32) row_count bytes_n bytes_f r_18.1 r_18.2 cw_room; 0)) + E := ⟨_, rfl⟩
      have hC : k + 0 + E2 ≤ Dt := by rw [hE2]; exact add40 hC
      have hg : (if r_1 ≤ (cw_size - r_1) then (0 : Int32) else (1 : Int32)) = j_17 := by rw [← hj_17]; rfl
      clear hj_17
      refine lv_icmp_ge (tgt := 65) hx hb dX3_next_58 (by decide) (fun c_16 => ?_) (fun c_16 => ?_)
      · rw [if_pos c_16] at hg
        refine lv_iconst (v := 0) hx hb dX3_next_65 (by decide) ?_
        rw [← hg] at hJ_j_17
        try rw [← hg] at hE2
        exact hJ_j_17 _ _ _ _ hP hD hS (lv_sub hl [1, 2, 3, 0] rfl) (by rw [Nat.add_assoc, ← hE2]; exact hC)
      · rw [if_neg c_16] at hg
        refine lv_iconst (v := 1) hx hb dX3_next_61 (by decide) ?_
        refine lv_goto (tgt := 66) hx hb dX3_next_62 (by decide) ?_
        rw [← hg] at hJ_j_17
        try rw [← hg] at hE2
        exact hJ_j_17 _ _ _ _ hP hD hS (lv_sub hl [1, 2, 3, 0] rfl) (by rw [Nat.add_assoc, ← hE2]; exact hC)
    · rw [if_neg c_15] at hg
      rw [if_neg c_15] at hC
      refine lv_aload_n hx hb dX3_next_40 rfl (lv_at hl 1 rfl) ?_
      refine lv_dup hx hb dX3_next_41 rfl ?_
      refine va_get (D := (dC, dI)) (ci := 2) (v := .int cw_low) (C := RX3) (T := TX3) (N := 5) hx hb hts iw_X3_next_X3 hown hK hP 5 rfl rfl 2 (by decide) (hts (.fieldLink RX3 19 "PlaneBlocks$CodedWriter" "low" "I") (by decide +kernel)) (fun _ h9 => h9) rfl dX3_next_42 ?_
      refine lv_iload_n hx hb dX3_next_45 rfl (lv_at hl 0 rfl) ?_
      refine lv_iadd hx hb dX3_next_46 ?_
      refine va_put (D := (dC, dI)) (ci := 2) (v := .int (cw_low + r_1)) (ty := .int) (C := RX3) (T := TX3) (N := 5) hx hb hts iw_X3_next_X3 tyX3 tyX3_ok nmX3 hown hK hP hD hS 5 rfl rfl 2 (by decide) (hts (.fieldLink RX3 19 "PlaneBlocks$CodedWriter" "low" "I") (by decide +kernel)) (fun _ h9 => h9) rfl (by decide +kernel) rfl rfl (Nat.le_of_ble_eq_true rfl) dX3_next_47 (fun H locs hP hD hS => ?_)
      have hP : va_P (dC, dI) vwCl (wd_row_bytes_ctx_states_likely_cw_rw_cr_rr cI a_row a_bytes a_ctx a_states a_likely a_cw a_rw a_cr a_rr row_count row_start bytes_n bytes_f states_n states_f likely_n likely_f (cw_low + r_1) (cw_size - r_1) cw_room rw_free cr_place cr_end cr_window cr_size cr_room rr_place rr_end rr_current rr_left) H := hP
      have hD : va_D A (wd_row_bytes_ctx_states_likely_cw_rw_cr_rr cI a_row a_bytes a_ctx a_states a_likely a_cw a_rw a_cr a_rr row_count row_start bytes_n bytes_f states_n states_f likely_n likely_f (cw_low + r_1) (cw_size - r_1) cw_room rw_free cr_place cr_end cr_window cr_size cr_room rr_place rr_end rr_current rr_left) := hD
      refine lv_iload_n hx hb dX3_next_50 rfl (lv_at hl 2 rfl) ?_
      subst hg
      refine W.widen (k := Dt) (n := Dt) (k0_le hC) (k0_le hC) ?_
      rw [← hQe]
      exact W.iret (v := p1) hx hb hr (fun t ht hW => ⟨⟨p1, a_bytes, rfl, rfl, by rw [ht]; exact hP, va_K.moved hW.alike hK, hD⟩, hS.F ht⟩) hS.2.2 dX3_next_51
abbrev rm_N8 (Dt : Nat) : Room := { frames := 3, cells := Dt, slots := Dt, locals := 83 }
abbrev Q_N8 (dC : Nat → ClassId) (dI : Nat → Nat → Nat) (cI cJ cZ : ClassId) (a_row : Nat) (a_bytes : Nat) (a_ctx : Nat) (a_states : Nat) (a_likely : Nat) (a_cw : Nat) (a_rw : Nat) (a_cr : Nat) (a_rr : Nat) (A : Nat → Prop) (row_count : Int32) (row_start : Int32) (bytes_n : Nat) (bytes_f : Nat → Int32) (states_n : Nat) (states_f : Nat → Int32) (likely_n : Nat) (likely_f : Nat → Int32) (cw_low : Int32) (cw_size : Int32) (cw_room : Int32) (rw_free : Int32) (cr_place : Int32) (cr_end : Int32) (cr_window : Int32) (cr_size : Int32) (cr_room : Int32) (rr_place : Int32) (rr_end : Int32) (rr_current : Int32) (rr_left : Int32) (g : (Int32 × Int32 × Nat × (Nat → Int32) × (Nat → Int32) × (Nat → Int32) × Int32 × Int32 × Int32 × Int32 × Int32 × Int32 × Int32 × Int32 × Int32 × Int32 × Int32)) : Array Value → State → Outcome → State → Prop := va_Qi (fun (r : Int32) (_ : Nat) => r = g.1) (fun u t => va_P (dC, dI) vwCl (wd_row_bytes_ctx_states_likely_cw_rw_cr_rr cI a_row u a_ctx a_states a_likely a_cw a_rw a_cr a_rr g.2.1 row_start g.2.2.1 g.2.2.2.1 states_n g.2.2.2.2.1 likely_n g.2.2.2.2.2.1 g.2.2.2.2.2.2.1 g.2.2.2.2.2.2.2.1 g.2.2.2.2.2.2.2.2.1 g.2.2.2.2.2.2.2.2.2.1 g.2.2.2.2.2.2.2.2.2.2.1 cr_end g.2.2.2.2.2.2.2.2.2.2.2.1 g.2.2.2.2.2.2.2.2.2.2.2.2.1 g.2.2.2.2.2.2.2.2.2.2.2.2.2.1 g.2.2.2.2.2.2.2.2.2.2.2.2.2.2.1 rr_end g.2.2.2.2.2.2.2.2.2.2.2.2.2.2.2.1 g.2.2.2.2.2.2.2.2.2.2.2.2.2.2.2.2) t.heap ∧ va_K (dC, dI) vwCl [(cI, .int), (cJ, .long), (cZ, .boolean)] t ∧ va_D A (wd_row_bytes_ctx_states_likely_cw_rw_cr_rr cI a_row u a_ctx a_states a_likely a_cw a_rw a_cr a_rr g.2.1 row_start g.2.2.1 g.2.2.2.1 states_n g.2.2.2.2.1 likely_n g.2.2.2.2.2.1 g.2.2.2.2.2.2.1 g.2.2.2.2.2.2.2.1 g.2.2.2.2.2.2.2.2.1 g.2.2.2.2.2.2.2.2.2.1 g.2.2.2.2.2.2.2.2.2.2.1 cr_end g.2.2.2.2.2.2.2.2.2.2.2.1 g.2.2.2.2.2.2.2.2.2.2.2.2.1 g.2.2.2.2.2.2.2.2.2.2.2.2.2.1 g.2.2.2.2.2.2.2.2.2.2.2.2.2.2.1 rr_end g.2.2.2.2.2.2.2.2.2.2.2.2.2.2.2.1 g.2.2.2.2.2.2.2.2.2.2.2.2.2.2.2.2)) A
set_option maxHeartbeats 4000000 in
set_option maxRecDepth 100000 in
theorem c_N8 (l : Launch) (dC : Nat → ClassId) (dI : Nat → Nat → Nat) (cI cJ cZ : ClassId) (a_row : Nat) (a_bytes : Nat) (a_ctx : Nat) (a_states : Nat) (a_likely : Nat) (a_cw : Nat) (a_rw : Nat) (a_cr : Nat) (a_rr : Nat) (sz : Nat) (row_count : Int32) (row_start : Int32) (bytes_n : Nat) (bytes_f : Nat → Int32) (states_n : Nat) (states_f : Nat → Int32) (likely_n : Nat) (likely_f : Nat → Int32) (cw_low : Int32) (cw_size : Int32) (cw_room : Int32) (rw_free : Int32) (cr_place : Int32) (cr_end : Int32) (cr_window : Int32) (cr_size : Int32) (cr_room : Int32) (rr_place : Int32) (rr_end : Int32) (rr_current : Int32) (rr_left : Int32) (p1 : Int32) (p2 : Int32) (hpre : P_N8 row_count row_start bytes_n bytes_f rw_free) : Met l yX8_next wsX8_next (rm_N8 (D_N8 row_count row_start bytes_n bytes_f rw_free)) (va_Pc [.ref a_rw, .int p1, .int p2] (fun U => U.heap.size = sz ∧ va_P (dC, dI) vwCl (wd_row_bytes_ctx_states_likely_cw_rw_cr_rr cI a_row a_bytes a_ctx a_states a_likely a_cw a_rw a_cr a_rr row_count row_start bytes_n bytes_f states_n states_f likely_n likely_f cw_low cw_size cw_room rw_free cr_place cr_end cr_window cr_size cr_room rr_place rr_end rr_current rr_left) U.heap ∧ va_K (dC, dI) vwCl [(cI, .int), (cJ, .long), (cZ, .boolean)] U ∧ va_D (fun _ => True) (wd_row_bytes_ctx_states_likely_cw_rw_cr_rr cI a_row a_bytes a_ctx a_states a_likely a_cw a_rw a_cr a_rr row_count row_start bytes_n bytes_f states_n states_f likely_n likely_f cw_low cw_size cw_room rw_free cr_place cr_end cr_window cr_size cr_room rr_place rr_end rr_current rr_left))) (Q_N8 dC dI cI cJ cZ a_row a_bytes a_ctx a_states a_likely a_cw a_rw a_cr a_rr (va_A (wd_row_bytes_ctx_states_likely_cw_rw_cr_rr cI a_row a_bytes a_ctx a_states a_likely a_cw a_rw a_cr a_rr row_count row_start bytes_n bytes_f states_n states_f likely_n likely_f cw_low cw_size cw_room rw_free cr_place cr_end cr_window cr_size cr_room rr_place rr_end rr_current rr_left) sz) row_count row_start bytes_n bytes_f states_n states_f likely_n likely_f cw_low cw_size cw_room rw_free cr_place cr_end cr_window cr_size cr_room rr_place rr_end rr_current rr_left (F_N8 p1 row_count row_start bytes_n bytes_f states_f likely_f cw_low cw_size cw_room rw_free cr_place cr_window cr_size cr_room rr_place rr_current rr_left)) (D_N8 row_count row_start bytes_n bytes_f rw_free) (D_N8 row_count row_start bytes_n bytes_f rw_free) (va_A (wd_row_bytes_ctx_states_likely_cw_rw_cr_rr cI a_row a_bytes a_ctx a_states a_likely a_cw a_rw a_cr a_rr row_count row_start bytes_n bytes_f states_n states_f likely_n likely_f cw_low cw_size cw_room rw_free cr_place cr_end cr_window cr_size cr_room rr_place rr_end rr_current rr_left) sz) := by
  refine Met.ofW (cc := cX8_next) (maxL := 3) (ret := (some .int)) (by decide) rfl ?_
  intro p e s m args below meth c s₁ B hml hv
  obtain ⟨rfl, hsz, hP, hK, hD0⟩ := hv
  have hx := B.exec
  have hb := B.bytes
  have hr := B.returns
  have hts := atoms_spec (ws := wsX8_next) B.pre
  have hown : s.vm.findClass RX8 = some m.cls := findClass_of_methodNamed B.named
  have hlocks := B.notSynchronized
  subst hsz
  have hD := hD0.self (sz := s.heap.size)
  generalize hAe : va_A (wd_row_bytes_ctx_states_likely_cw_rw_cr_rr cI a_row a_bytes a_ctx a_states a_likely a_cw a_rw a_cr a_rr row_count row_start bytes_n bytes_f states_n states_f likely_n likely_f cw_low cw_size cw_room rw_free cr_place cr_end cr_window cr_size cr_room rr_place rr_end rr_current rr_left) s.heap.size = A at hD ⊢
  have hA : ∀ q : Nat, s.heap.size ≤ q → A q := fun q h => by rw [← hAe]; exact Or.inr h
  have hS : va_S A s.heap s.heap [] := va_S.rf
  obtain ⟨H, hH⟩ : ∃ z, z = s.heap := ⟨_, rfl⟩
  have hP : va_P (dC, dI) vwCl (wd_row_bytes_ctx_states_likely_cw_rw_cr_rr cI a_row a_bytes a_ctx a_states a_likely a_cw a_rw a_cr a_rr row_count row_start bytes_n bytes_f states_n states_f likely_n likely_f cw_low cw_size cw_room rw_free cr_place cr_end cr_window cr_size cr_room rr_place rr_end rr_current rr_left) H := by rw [hH]; exact hP
  have hS : va_S A s.heap H [] := by rw [hH]; exact va_S.rf
  obtain ⟨g, hg⟩ : ∃ z, F_N8 p1 row_count row_start bytes_n bytes_f states_f likely_f cw_low cw_size cw_room rw_free cr_place cr_window cr_size cr_room rr_place rr_current rr_left = z := ⟨_, rfl⟩
  rw [hg]
  obtain ⟨Dt, hDt⟩ : ∃ z, D_N8 row_count row_start bytes_n bytes_f rw_free = z := ⟨_, rfl⟩
  rw [hDt]
  generalize hQe : MQ below (Q_N8 dC dI cI cJ cZ a_row a_bytes a_ctx a_states a_likely a_cw a_rw a_cr a_rr A row_count row_start bytes_n bytes_f states_n states_f likely_n likely_f cw_low cw_size cw_room rw_free cr_place cr_end cr_window cr_size cr_room rr_place rr_end rr_current rr_left g) _ s Dt Dt A = Q
  rw [← hH]
  clear hH
  have hl := lv_entry ([.ref a_rw, .int p1, .int p2]) (n := 3) (Nat.le_of_ble_eq_true rfl)
  rw [lg_entry_eq]
  generalize (lg_sl ([.ref a_rw, .int p1, .int p2]) ++ List.replicate (3 - (lg_sl ([.ref a_rw, .int p1, .int p2])).length) Slot.unset).toArray = ls at hl ⊢
  have hl : lv_has ls 3 [(0, .ref a_rw), (1, .int p1), (2, .int p2)] := hl
  unfold F_N8 at hg
  unfold P_N8 at hpre
  unfold D_N8 at hDt
  obtain ⟨k, hk⟩ : ∃ z : Nat, z = 0 := ⟨_, rfl⟩
  obtain ⟨E, hE⟩ : ∃ z : Nat, z = 0 := ⟨_, rfl⟩
  have hC : k + (DJ_N8_j_7 row_count row_start bytes_n bytes_f rw_free + (let j_7 := J_N8_j_7 row_count row_start bytes_n bytes_f rw_free; 0)) + E ≤ Dt := by rw [hk, hE, Nat.zero_add]; exact Nat.le_of_eq hDt
  refine W.widen (k := k) (n := k) (Nat.zero_le _) (Nat.zero_le _) ?_
  clear hk hE hDt
  refine lv_aload_n hx hb dX8_next_0 rfl (lv_at hl 0 rfl) ?_
  refine va_get (D := (dC, dI)) (ci := 7) (v := .int rw_free) (C := RX8) (T := TX8) (N := 2) hx hb hts iw_X8_next_X8 hown hK hP 6 rfl rfl 1 (by decide) (hts (.fieldLink RX8 15 "PlaneBlocks$RawWriter" "free" "I") (by decide +kernel)) (fun _ h9 => h9) rfl dX8_next_1 ?_
  obtain ⟨j_7, hj_7⟩ : ∃ z, J_N8_j_7 row_count row_start bytes_n bytes_f rw_free = z := ⟨_, rfl⟩
  have hg : (let r_8 := F_X1_addToLast (p1 <<< ((j_7.2.2.2 - (1 : Int32)) &&& 31)) j_7.1 row_start j_7.2.2.1; (p1, j_7.1, j_7.2.1, r_8, states_f, likely_f, cw_low, cw_size, cw_room, j_7.2.2.2 - (1 : Int32), cr_place, cr_window, cr_size, cr_room, rr_place, rr_current, rr_left)) = g := by first | (rw [hj_7] at hg; exact hg) | (subst hj_7; exact hg)
  have hC : k + (DJ_N8_j_7 row_count row_start bytes_n bytes_f rw_free + (0)) + E ≤ Dt := by subst hj_7; exact hC
  have hJ_j_7 : ∀ (u_bytes_j_7 : Nat) (k : Nat) (H : Heap) (locs : List Loc) (ls : Array Slot), va_P (dC, dI) vwCl (wd_row_bytes_ctx_states_likely_cw_rw_cr_rr cI a_row u_bytes_j_7 a_ctx a_states a_likely a_cw a_rw a_cr a_rr j_7.1 row_start j_7.2.1 j_7.2.2.1 states_n states_f likely_n likely_f cw_low cw_size cw_room j_7.2.2.2 cr_place cr_end cr_window cr_size cr_room rr_place rr_end rr_current rr_left) H → va_D A (wd_row_bytes_ctx_states_likely_cw_rw_cr_rr cI a_row u_bytes_j_7 a_ctx a_states a_likely a_cw a_rw a_cr a_rr j_7.1 row_start j_7.2.1 j_7.2.2.1 states_n states_f likely_n likely_f cw_low cw_size cw_room j_7.2.2.2 cr_place cr_end cr_window cr_size cr_room rr_place rr_end rr_current rr_left) → va_S A s.heap H locs → lv_has ls 3 [(0, .ref a_rw), (1, .int p1), (2, .int p2)] → k + (0) + E ≤ Dt → W p l e (headSpec wsX8_next (rm_N8 Dt)).room s m ([.ref a_rw, .int p1, .int p2] : List Value).toArray below meth c H locs k k Q (F0 m 39 ls []) := by
    intro u_bytes_j_7 k H locs ls hP hD hS hl hC
    have hpre := hpre.2 j_7 hj_7
    refine lv_aload_n hx hb dX8_next_39 rfl (lv_at hl 0 rfl) ?_
    refine lv_dup hx hb dX8_next_40 rfl ?_
    refine va_get (D := (dC, dI)) (ci := 7) (v := .int j_7.2.2.2) (C := RX8) (T := TX8) (N := 2) hx hb hts iw_X8_next_X8 hown hK hP 6 rfl rfl 1 (by decide) (hts (.fieldLink RX8 15 "PlaneBlocks$RawWriter" "free" "I") (by decide +kernel)) (fun _ h9 => h9) rfl dX8_next_41 ?_
    refine lv_iconst (v := 1) hx hb dX8_next_44 (by decide) ?_
    refine lv_isub hx hb dX8_next_45 ?_
    refine va_put (D := (dC, dI)) (ci := 7) (v := .int (j_7.2.2.2 - (1 : Int32))) (ty := .int) (C := RX8) (T := TX8) (N := 2) hx hb hts iw_X8_next_X8 tyX8 tyX8_ok nmX8 hown hK hP hD hS 6 rfl rfl 1 (by decide) (hts (.fieldLink RX8 15 "PlaneBlocks$RawWriter" "free" "I") (by decide +kernel)) (fun _ h9 => h9) rfl (by decide +kernel) rfl rfl (Nat.le_of_ble_eq_true rfl) dX8_next_46 (fun H locs hP hD hS => ?_)
    have hP : va_P (dC, dI) vwCl (wd_row_bytes_ctx_states_likely_cw_rw_cr_rr cI a_row u_bytes_j_7 a_ctx a_states a_likely a_cw a_rw a_cr a_rr j_7.1 row_start j_7.2.1 j_7.2.2.1 states_n states_f likely_n likely_f cw_low cw_size cw_room (j_7.2.2.2 - (1 : Int32)) cr_place cr_end cr_window cr_size cr_room rr_place rr_end rr_current rr_left) H := hP
    have hD : va_D A (wd_row_bytes_ctx_states_likely_cw_rw_cr_rr cI a_row u_bytes_j_7 a_ctx a_states a_likely a_cw a_rw a_cr a_rr j_7.1 row_start j_7.2.1 j_7.2.2.1 states_n states_f likely_n likely_f cw_low cw_size cw_room (j_7.2.2.2 - (1 : Int32)) cr_place cr_end cr_window cr_size cr_room rr_place rr_end rr_current rr_left) := hD
    refine lv_aload_n hx hb dX8_next_49 rfl (lv_at hl 0 rfl) ?_
    refine va_get (D := (dC, dI)) (ci := 7) (v := .ref a_row) (C := RX8) (T := TX8) (N := 2) hx hb hts iw_X8_next_X8 hown hK hP 6 rfl rfl 0 (by decide) (hts (.fieldLink RX8 9 "PlaneBlocks$RawWriter" "row" "LPlaneBlocks$ByteRow;") (by decide +kernel)) (fun _ h9 => h9) rfl dX8_next_50 ?_
    refine lv_iload_n hx hb dX8_next_53 rfl (lv_at hl 1 rfl) ?_
    refine lv_aload_n hx hb dX8_next_54 rfl (lv_at hl 0 rfl) ?_
    refine va_get (D := (dC, dI)) (ci := 7) (v := .int (j_7.2.2.2 - (1 : Int32))) (C := RX8) (T := TX8) (N := 2) hx hb hts iw_X8_next_X8 hown hK hP 6 rfl rfl 1 (by decide) (hts (.fieldLink RX8 15 "PlaneBlocks$RawWriter" "free" "I") (by decide +kernel)) (fun _ h9 => h9) rfl dX8_next_55 ?_
    refine lv_ishl hx hb dX8_next_58 ?_
    have hPc := hP.sub (ws' := (wd_row_bytes cI a_row u_bytes_j_7 j_7.1 row_start j_7.2.1 j_7.2.2.1)) [0, 1] rfl
    have hDc := hD.sub (ws' := (wd_row_bytes cI a_row u_bytes_j_7 j_7.1 row_start j_7.2.1 j_7.2.2.1)) [0, 1] (by decide) rfl
    have hFc := va_free (wc := (wd_row_bytes cI a_row u_bytes_j_7 j_7.1 row_start j_7.2.1 j_7.2.2.1)) hD hS hA [0, 1] rfl
    refine va_callv (va_runV (As := [.int (p1 <<< ((j_7.2.2.2 - (1 : Int32)) &&& 31))]) (rest := []) ⟨hx, hb, hml, hown, hts⟩ (c_X1_addToLast l dC dI cI cJ cZ a_row u_bytes_j_7 H.size j_7.1 row_start j_7.2.1 j_7.2.2.1 (p1 <<< ((j_7.2.2.2 - (1 : Int32)) &&& 31)) hpre) (cwV 1 hts gX8_next_X1_addToLast rfl rfl rfl (by decide +kernel) ⟨Nat.le_of_ble_eq_true rfl, Nat.le_of_ble_eq_true rfl⟩) ⟨fun a U g mk q => by obtain ⟨q0, q1, qP, qK, qD⟩ := q; exact ⟨q0, q1, qP, va_K.moved (u := U) (U := U.calling g mk a) (Vm.Alike.refl U.vm) qK, qD⟩, va_recv hK hPc (ci := 0) (q0 := 0) rfl rfl, fun U hU hW => ⟨rfl, by rw [hU], by rw [hU]; exact hPc, va_K.moved hW.alike hK, hDc.weaken (fun _ _ _ _ => trivial)⟩⟩ rfl rfl hl.1 rfl (lv_room (Nat.le_of_ble_eq_true rfl)) dX8_next_59 ⟨k0_le hC, k0_le hC⟩) hS (fun q _ h => hFc q h) hFc (fun u t H1 locs ht hvm hw hB hz1 hk1 hS => ?_)
    obtain ⟨hP1, hK1, hD1⟩ := hB
    rw [ht] at hP1
    obtain ⟨r_8, hr_8⟩ : ∃ z, F_X1_addToLast (p1 <<< ((j_7.2.2.2 - (1 : Int32)) &&& 31)) j_7.1 row_start j_7.2.2.1 = z := ⟨_, rfl⟩
    try rw [hr_8] at hw
    try rw [hr_8] at hP1
    try rw [hr_8] at hD1
    have hg : (p1, j_7.1, j_7.2.1, r_8, states_f, likely_f, cw_low, cw_size, cw_room, j_7.2.2.2 - (1 : Int32), cr_place, cr_window, cr_size, cr_room, rr_place, rr_current, rr_left) = g := by first | (rw [hr_8] at hg; exact hg) | (subst hr_8; exact hg)
    obtain ⟨hP, hD⟩ := va_join (wr := [(a_ctx, .inr (3, [.ref a_states, .ref a_likely])), (a_states, .inl (cI, states_n, .inl states_f)), (a_likely, .inl (cI, likely_n, .inl likely_f)), (a_cw, .inr (2, [.ref a_row, .ref a_ctx, .int cw_low, .int cw_size, .int cw_room])), (a_rw, .inr (7, [.ref a_row, .int (j_7.2.2.2 - (1 : Int32))])), (a_cr, .inr (1, [.ref a_row, .ref a_ctx, .int cr_place, .int cr_end, .int cr_window, .int cr_size, .int cr_room])), (a_rr, .inr (6, [.ref a_row, .int rr_place, .int rr_end, .int rr_current, .int rr_left]))]) (w1 := (wd_row_bytes cI a_row u_bytes_j_7 j_7.1 row_start j_7.2.1 r_8)) hP hD [0, 1] [2, 3, 4, 5, 6, 7, 8] rfl rfl (by decide) (by decide) hk1 hFc hP1 hD1
    have hP : va_P (dC, dI) vwCl (wd_row_bytes_ctx_states_likely_cw_rw_cr_rr cI a_row u_bytes_j_7 a_ctx a_states a_likely a_cw a_rw a_cr a_rr j_7.1 row_start j_7.2.1 r_8 states_n states_f likely_n likely_f cw_low cw_size cw_room (j_7.2.2.2 - (1 : Int32)) cr_place cr_end cr_window cr_size cr_room rr_place rr_end rr_current rr_left) H1 := hP.sub [7, 8, 0, 1, 2, 3, 4, 5, 6] rfl
    have hD : va_D A (wd_row_bytes_ctx_states_likely_cw_rw_cr_rr cI a_row u_bytes_j_7 a_ctx a_states a_likely a_cw a_rw a_cr a_rr j_7.1 row_start j_7.2.1 r_8 states_n states_f likely_n likely_f cw_low cw_size cw_room (j_7.2.2.2 - (1 : Int32)) cr_place cr_end cr_window cr_size cr_room rr_place rr_end rr_current rr_left) := hD.sub [7, 8, 0, 1, 2, 3, 4, 5, 6] (by decide) rfl
    generalize H1 = H at hP hS ⊢
    refine lv_iload_n hx hb dX8_next_62 rfl (lv_at hl 1 rfl) ?_
    subst hg
    refine W.widen (k := Dt) (n := Dt) (k0_le hC) (k0_le hC) ?_
    rw [← hQe]
    exact W.iret (v := p1) hx hb hr (fun t ht hW => ⟨⟨p1, u_bytes_j_7, rfl, rfl, by rw [ht]; exact hP, va_K.moved hW.alike hK, hD⟩, hS.F ht⟩) hS.2.2 dX8_next_63
  have hpre := hpre.1
  obtain ⟨E2, hE2⟩ : ∃ z : Nat, z = (0) + E := ⟨_, rfl⟩
  have hC : k + (DJ_N8_j_7 row_count row_start bytes_n bytes_f rw_free) + E2 ≤ Dt := by rw [hE2]; exact add4 hC
  unfold PJ_N8_j_7 at hpre
  have hC : k + (if rw_free = (0 : Int32) then (let r_2 := F_X1_last row_count row_start bytes_f; let j_4 := J_N8_j_4 r_2; D_X1_append row_count bytes_n bytes_f + (let r_5 := F_X1_append (0 : Int32) row_count bytes_n bytes_f; 0)) else 0) + E2 ≤ Dt := hC
  have hg : (if rw_free = (0 : Int32) then (let r_2 := F_X1_last row_count row_start bytes_f; let j_4 := J_N8_j_4 r_2; let r_5 := F_X1_append (0 : Int32) row_count bytes_n bytes_f; (r_5.1, r_5.2.1, r_5.2.2, j_4)) else (row_count, bytes_n, bytes_f, rw_free)) = j_7 := by rw [← hj_7]; rfl
  clear hj_7
  refine lv_if_ne (tgt := 39) hx hb dX8_next_4 (by decide) (fun c_1 => ?_) (fun c_1 => ?_)
  · rw [if_neg c_1] at hg
    rw [if_neg c_1] at hC
    exact hJ_j_7 a_bytes _ _ _ _ (by rw [← hg]; exact hP) (by rw [← hg]; exact hD) hS (lv_sub hl [0, 1, 2] rfl) (by rw [Nat.add_assoc, ← hE2]; exact hC)
  · rw [if_pos c_1] at hg
    rw [if_pos c_1] at hC
    have hpre := hpre c_1
    refine lv_aload_n hx hb dX8_next_7 rfl (lv_at hl 0 rfl) ?_
    refine lv_aload_n hx hb dX8_next_8 rfl (lv_at hl 0 rfl) ?_
    refine va_get (D := (dC, dI)) (ci := 7) (v := .ref a_row) (C := RX8) (T := TX8) (N := 2) hx hb hts iw_X8_next_X8 hown hK hP 6 rfl rfl 0 (by decide) (hts (.fieldLink RX8 9 "PlaneBlocks$RawWriter" "row" "LPlaneBlocks$ByteRow;") (by decide +kernel)) (fun _ h9 => h9) rfl dX8_next_9 ?_
    have hPc := hP.sub (ws' := (wd_row_bytes cI a_row a_bytes row_count row_start bytes_n bytes_f)) [0, 1] rfl
    have hDc := hD.sub (ws' := (wd_row_bytes cI a_row a_bytes row_count row_start bytes_n bytes_f)) [0, 1] (by decide) rfl
    have hFc := va_free (wc := (wd_row_bytes cI a_row a_bytes row_count row_start bytes_n bytes_f)) hD hS hA [0, 1] rfl
    refine va_calli (va_runV (As := []) (rest := [.ref a_rw]) ⟨hx, hb, hml, hown, hts⟩ (c_X1_last l dC dI cI cJ cZ a_row a_bytes H.size row_count row_start bytes_n bytes_f hpre.1) (cwV 0 hts gX8_next_X1_last rfl rfl rfl (by decide +kernel) ⟨Nat.le_of_ble_eq_true rfl, Nat.le_of_ble_eq_true rfl⟩) ⟨fun a U g mk q => by obtain ⟨q0, q1, qP, qK, qD⟩ := q; exact ⟨q0, q1, qP, va_K.moved (u := U) (U := U.calling g mk a) (Vm.Alike.refl U.vm) qK, qD⟩, va_recv hK hPc (ci := 0) (q0 := 0) rfl rfl, fun U hU hW => ⟨rfl, by rw [hU], by rw [hU]; exact hPc, va_K.moved hW.alike hK, hDc.weaken (fun _ _ _ _ => trivial)⟩⟩ rfl rfl hl.1 rfl (lv_room (Nat.le_of_ble_eq_true rfl)) dX8_next_12 ⟨k0_le hC, k0_le hC⟩) hS (fun q _ h => hFc q h) hFc (fun r u t H1 locs ht hvm hw hB hz1 hk1 hS => ?_)
    obtain ⟨hP1, hK1, hD1⟩ := hB
    rw [ht] at hP1
    obtain ⟨r_2, hr_2⟩ : ∃ z, F_X1_last row_count row_start bytes_f = z := ⟨_, rfl⟩
    try rw [hr_2] at hw
    try rw [hr_2] at hP1
    try rw [hr_2] at hD1
    have hg : (let j_4 := J_N8_j_4 r_2; let r_5 := F_X1_append (0 : Int32) row_count bytes_n bytes_f; (r_5.1, r_5.2.1, r_5.2.2, j_4)) = j_7 := by first | (rw [hr_2] at hg; exact hg) | (subst hr_2; exact hg)
    have hw := hw.symm
    subst hw
    obtain ⟨hP, hD⟩ := va_join (wr := [(a_ctx, .inr (3, [.ref a_states, .ref a_likely])), (a_states, .inl (cI, states_n, .inl states_f)), (a_likely, .inl (cI, likely_n, .inl likely_f)), (a_cw, .inr (2, [.ref a_row, .ref a_ctx, .int cw_low, .int cw_size, .int cw_room])), (a_rw, .inr (7, [.ref a_row, .int rw_free])), (a_cr, .inr (1, [.ref a_row, .ref a_ctx, .int cr_place, .int cr_end, .int cr_window, .int cr_size, .int cr_room])), (a_rr, .inr (6, [.ref a_row, .int rr_place, .int rr_end, .int rr_current, .int rr_left]))]) (w1 := (wd_row_bytes cI a_row a_bytes row_count row_start bytes_n bytes_f)) hP hD [0, 1] [2, 3, 4, 5, 6, 7, 8] rfl rfl (by decide) (by decide) hk1 hFc hP1 hD1
    have hP : va_P (dC, dI) vwCl (wd_row_bytes_ctx_states_likely_cw_rw_cr_rr cI a_row a_bytes a_ctx a_states a_likely a_cw a_rw a_cr a_rr row_count row_start bytes_n bytes_f states_n states_f likely_n likely_f cw_low cw_size cw_room rw_free cr_place cr_end cr_window cr_size cr_room rr_place rr_end rr_current rr_left) H1 := hP.sub [7, 8, 0, 1, 2, 3, 4, 5, 6] rfl
    have hD : va_D A (wd_row_bytes_ctx_states_likely_cw_rw_cr_rr cI a_row a_bytes a_ctx a_states a_likely a_cw a_rw a_cr a_rr row_count row_start bytes_n bytes_f states_n states_f likely_n likely_f cw_low cw_size cw_room rw_free cr_place cr_end cr_window cr_size cr_room rr_place rr_end rr_current rr_left) := hD.sub [7, 8, 0, 1, 2, 3, 4, 5, 6] (by decide) rfl
    generalize H1 = H at hP hS ⊢
    have hC : k + (let j_4 := J_N8_j_4 r_2; D_X1_append row_count bytes_n bytes_f + (let r_5 := F_X1_append (0 : Int32) row_count bytes_n bytes_f; 0)) + E2 ≤ Dt := by subst hr_2; exact hC
    have hpre := hpre.2 r_2 hr_2
    refine lv_sipush (v := 255) hx hb dX8_next_15 (by decide) ?_
    obtain ⟨j_4, hj_4⟩ : ∃ z, J_N8_j_4 r_2 = z := ⟨_, rfl⟩
    have hg : (let r_5 := F_X1_append (0 : Int32) row_count bytes_n bytes_f; (r_5.1, r_5.2.1, r_5.2.2, j_4)) = j_7 := by first | (rw [hj_4] at hg; exact hg) | (subst hj_4; exact hg)
    have hC : k + (D_X1_append row_count bytes_n bytes_f + (let r_5 := F_X1_append (0 : Int32) row_count bytes_n bytes_f; 0)) + E2 ≤ Dt := by subst hj_4; exact hC
    have hJ_j_4 : ∀ (k : Nat) (H : Heap) (locs : List Loc) (ls : Array Slot), va_P (dC, dI) vwCl (wd_row_bytes_ctx_states_likely_cw_rw_cr_rr cI a_row a_bytes a_ctx a_states a_likely a_cw a_rw a_cr a_rr row_count row_start bytes_n bytes_f states_n states_f likely_n likely_f cw_low cw_size cw_room rw_free cr_place cr_end cr_window cr_size cr_room rr_place rr_end rr_current rr_left) H → va_D A (wd_row_bytes_ctx_states_likely_cw_rw_cr_rr cI a_row a_bytes a_ctx a_states a_likely a_cw a_rw a_cr a_rr row_count row_start bytes_n bytes_f states_n states_f likely_n likely_f cw_low cw_size cw_room rw_free cr_place cr_end cr_window cr_size cr_room rr_place rr_end rr_current rr_left) → va_S A s.heap H locs → lv_has ls 3 [(0, .ref a_rw), (1, .int p1), (2, .int p2)] → k + (D_X1_append row_count bytes_n bytes_f + (let r_5 := F_X1_append (0 : Int32) row_count bytes_n bytes_f; 0)) + E2 ≤ Dt → W p l e (headSpec wsX8_next (rm_N8 Dt)).room s m ([.ref a_rw, .int p1, .int p2] : List Value).toArray below meth c H locs k k Q (F0 m 28 ls [.int j_4, .ref a_rw]) := by
      intro k H locs ls hP hD hS hl hC
      have hpre := hpre j_4 hj_4
      refine va_put (D := (dC, dI)) (ci := 7) (v := .int j_4) (ty := .int) (C := RX8) (T := TX8) (N := 2) hx hb hts iw_X8_next_X8 tyX8 tyX8_ok nmX8 hown hK hP hD hS 6 rfl rfl 1 (by decide) (hts (.fieldLink RX8 15 "PlaneBlocks$RawWriter" "free" "I") (by decide +kernel)) (fun _ h9 => h9) rfl (by decide +kernel) rfl rfl (Nat.le_of_ble_eq_true rfl) dX8_next_28 (fun H locs hP hD hS => ?_)
      have hP : va_P (dC, dI) vwCl (wd_row_bytes_ctx_states_likely_cw_rw_cr_rr cI a_row a_bytes a_ctx a_states a_likely a_cw a_rw a_cr a_rr row_count row_start bytes_n bytes_f states_n states_f likely_n likely_f cw_low cw_size cw_room j_4 cr_place cr_end cr_window cr_size cr_room rr_place rr_end rr_current rr_left) H := hP
      have hD : va_D A (wd_row_bytes_ctx_states_likely_cw_rw_cr_rr cI a_row a_bytes a_ctx a_states a_likely a_cw a_rw a_cr a_rr row_count row_start bytes_n bytes_f states_n states_f likely_n likely_f cw_low cw_size cw_room j_4 cr_place cr_end cr_window cr_size cr_room rr_place rr_end rr_current rr_left) := hD
      refine lv_aload_n hx hb dX8_next_31 rfl (lv_at hl 0 rfl) ?_
      refine va_get (D := (dC, dI)) (ci := 7) (v := .ref a_row) (C := RX8) (T := TX8) (N := 2) hx hb hts iw_X8_next_X8 hown hK hP 6 rfl rfl 0 (by decide) (hts (.fieldLink RX8 9 "PlaneBlocks$RawWriter" "row" "LPlaneBlocks$ByteRow;") (by decide +kernel)) (fun _ h9 => h9) rfl dX8_next_32 ?_
      refine lv_iconst (v := 0) hx hb dX8_next_35 (by decide) ?_
      have hPc := hP.sub (ws' := (wd_row_bytes cI a_row a_bytes row_count row_start bytes_n bytes_f)) [0, 1] rfl
      have hDc := hD.sub (ws' := (wd_row_bytes cI a_row a_bytes row_count row_start bytes_n bytes_f)) [0, 1] (by decide) rfl
      have hFc := va_free (wc := (wd_row_bytes cI a_row a_bytes row_count row_start bytes_n bytes_f)) hD hS hA [0, 1] rfl
      refine va_callv (va_runV (As := [.int (0 : Int32)]) (rest := []) ⟨hx, hb, hml, hown, hts⟩ (c_X1_append l dC dI cI cJ cZ a_row a_bytes H.size row_count row_start bytes_n bytes_f (0 : Int32) hpre) (cwV 1 hts gX8_next_X1_append rfl rfl rfl (by decide +kernel) ⟨Nat.le_of_ble_eq_true rfl, Nat.le_of_ble_eq_true rfl⟩) ⟨fun a U g mk q => by obtain ⟨q0, q1, qP, qK, qD⟩ := q; exact ⟨q0, q1, qP, va_K.moved (u := U) (U := U.calling g mk a) (Vm.Alike.refl U.vm) qK, qD⟩, va_recv hK hPc (ci := 0) (q0 := 0) rfl rfl, fun U hU hW => ⟨rfl, by rw [hU], by rw [hU]; exact hPc, va_K.moved hW.alike hK, hDc.weaken (fun _ _ _ _ => trivial)⟩⟩ rfl rfl hl.1 rfl (lv_room (Nat.le_of_ble_eq_true rfl)) dX8_next_36 ⟨kd_le hC, kd_le hC⟩) hS (fun q _ h => hFc q h) hFc (fun u t H1 locs ht hvm hw hB hz1 hk1 hS => ?_)
      obtain ⟨u_6, rfl⟩ : ∃ z, z = u := ⟨_, rfl⟩
      obtain ⟨hP1, hK1, hD1⟩ := hB
      rw [ht] at hP1
      obtain ⟨r_5, hr_5⟩ : ∃ z, F_X1_append (0 : Int32) row_count bytes_n bytes_f = z := ⟨_, rfl⟩
      try rw [hr_5] at hw
      try rw [hr_5] at hP1
      try rw [hr_5] at hD1
      have hg : (r_5.1, r_5.2.1, r_5.2.2, j_4) = j_7 := by first | (rw [hr_5] at hg; exact hg) | (subst hr_5; exact hg)
      obtain ⟨hP, hD⟩ := va_join (wr := [(a_ctx, .inr (3, [.ref a_states, .ref a_likely])), (a_states, .inl (cI, states_n, .inl states_f)), (a_likely, .inl (cI, likely_n, .inl likely_f)), (a_cw, .inr (2, [.ref a_row, .ref a_ctx, .int cw_low, .int cw_size, .int cw_room])), (a_rw, .inr (7, [.ref a_row, .int j_4])), (a_cr, .inr (1, [.ref a_row, .ref a_ctx, .int cr_place, .int cr_end, .int cr_window, .int cr_size, .int cr_room])), (a_rr, .inr (6, [.ref a_row, .int rr_place, .int rr_end, .int rr_current, .int rr_left]))]) (w1 := (wd_row_bytes cI a_row u_6 r_5.1 row_start r_5.2.1 r_5.2.2)) hP hD [0, 1] [2, 3, 4, 5, 6, 7, 8] rfl rfl (by decide) (by decide) hk1 hFc hP1 hD1
      have hP : va_P (dC, dI) vwCl (wd_row_bytes_ctx_states_likely_cw_rw_cr_rr cI a_row u_6 a_ctx a_states a_likely a_cw a_rw a_cr a_rr r_5.1 row_start r_5.2.1 r_5.2.2 states_n states_f likely_n likely_f cw_low cw_size cw_room j_4 cr_place cr_end cr_window cr_size cr_room rr_place rr_end rr_current rr_left) H1 := hP.sub [7, 8, 0, 1, 2, 3, 4, 5, 6] rfl
      have hD : va_D A (wd_row_bytes_ctx_states_likely_cw_rw_cr_rr cI a_row u_6 a_ctx a_states a_likely a_cw a_rw a_cr a_rr r_5.1 row_start r_5.2.1 r_5.2.2 states_n states_f likely_n likely_f cw_low cw_size cw_room j_4 cr_place cr_end cr_window cr_size cr_room rr_place rr_end rr_current rr_left) := hD.sub [7, 8, 0, 1, 2, 3, 4, 5, 6] (by decide) rfl
      generalize H1 = H at hP hS ⊢
      have hC : k + (D_X1_append row_count bytes_n bytes_f + (0)) + E2 ≤ Dt := by subst hr_5; exact hC
      obtain ⟨k1, hk1⟩ : ∃ z, z = k + (D_X1_append row_count bytes_n bytes_f) := ⟨_, rfl⟩
      have hC : k1 + (0) + E2 ≤ Dt := by rw [hk1, Nat.add_assoc k]; exact hC
      refine W.widen (k := k1) (n := k1) (Nat.le_of_eq hk1.symm) (Nat.le_of_eq hk1.symm) ?_
      clear hk1
      generalize k1 = k at hC ⊢
      exact hJ_j_7 u_6 _ _ _ _ (by rw [← hg]; exact hP) (by rw [← hg]; exact hD) hS (lv_sub hl [0, 1, 2] rfl) (by rw [Nat.add_assoc, ← hE2]; exact hC)
    obtain ⟨E2, hE2⟩ : ∃ z : Nat, z = (D_X1_append row_count bytes_n bytes_f + (let r_5 := F_X1_append (0 : Int32) row_count bytes_n bytes_f; 0)) + E2 := ⟨_, rfl⟩
    have hC : k + 0 + E2 ≤ Dt := by rw [hE2]; exact add40 hC
    have hg : (if r_2 = (255 : Int32) then (7 : Int32) else (8 : Int32)) = j_4 := by rw [← hj_4]; rfl
    clear hj_4
    refine lv_icmp_ne (tgt := 26) hx hb dX8_next_18 (by decide) (fun c_3 => ?_) (fun c_3 => ?_)
    · rw [if_neg c_3] at hg
      refine lv_bipush (v := 8) hx hb dX8_next_26 (by decide) ?_
      rw [← hg] at hJ_j_4
      try rw [← hg] at hE2
      exact hJ_j_4 _ _ _ _ hP hD hS (lv_sub hl [0, 1, 2] rfl) (by rw [Nat.add_assoc, ← hE2]; exact hC)
    · rw [if_pos c_3] at hg
      refine lv_bipush (v := 7) hx hb dX8_next_21 (by decide) ?_
      refine lv_goto (tgt := 28) hx hb dX8_next_23 (by decide) ?_
      rw [← hg] at hJ_j_4
      try rw [← hg] at hE2
      exact hJ_j_4 _ _ _ _ hP hD hS (lv_sub hl [0, 1, 2] rfl) (by rw [Nat.add_assoc, ← hE2]; exact hC)
abbrev rm_N2 (Dt : Nat) : Room := { frames := 2, cells := Dt, slots := Dt, locals := 44 }
abbrev Q_N2 (dC : Nat → ClassId) (dI : Nat → Nat → Nat) (cI cJ cZ : ClassId) (a_row : Nat) (a_bytes : Nat) (a_ctx : Nat) (a_states : Nat) (a_likely : Nat) (a_cw : Nat) (a_rw : Nat) (a_cr : Nat) (a_rr : Nat) (A : Nat → Prop) (row_count : Int32) (row_start : Int32) (bytes_n : Nat) (bytes_f : Nat → Int32) (states_n : Nat) (states_f : Nat → Int32) (likely_n : Nat) (likely_f : Nat → Int32) (cw_low : Int32) (cw_size : Int32) (cw_room : Int32) (rw_free : Int32) (cr_place : Int32) (cr_end : Int32) (cr_window : Int32) (cr_size : Int32) (cr_room : Int32) (rr_place : Int32) (rr_end : Int32) (rr_current : Int32) (rr_left : Int32) (g : (Int32 × Int32 × Nat × (Nat → Int32) × (Nat → Int32) × (Nat → Int32) × Int32 × Int32 × Int32 × Int32 × Int32 × Int32 × Int32 × Int32 × Int32 × Int32 × Int32)) : Array Value → State → Outcome → State → Prop := va_Qi (fun (r : Int32) (_ : Nat) => r = g.1) (fun u t => va_P (dC, dI) vwCl (wd_row_bytes_ctx_states_likely_cw_rw_cr_rr cI a_row u a_ctx a_states a_likely a_cw a_rw a_cr a_rr g.2.1 row_start g.2.2.1 g.2.2.2.1 states_n g.2.2.2.2.1 likely_n g.2.2.2.2.2.1 g.2.2.2.2.2.2.1 g.2.2.2.2.2.2.2.1 g.2.2.2.2.2.2.2.2.1 g.2.2.2.2.2.2.2.2.2.1 g.2.2.2.2.2.2.2.2.2.2.1 cr_end g.2.2.2.2.2.2.2.2.2.2.2.1 g.2.2.2.2.2.2.2.2.2.2.2.2.1 g.2.2.2.2.2.2.2.2.2.2.2.2.2.1 g.2.2.2.2.2.2.2.2.2.2.2.2.2.2.1 rr_end g.2.2.2.2.2.2.2.2.2.2.2.2.2.2.2.1 g.2.2.2.2.2.2.2.2.2.2.2.2.2.2.2.2) t.heap ∧ va_K (dC, dI) vwCl [(cI, .int), (cJ, .long), (cZ, .boolean)] t ∧ va_D A (wd_row_bytes_ctx_states_likely_cw_rw_cr_rr cI a_row u a_ctx a_states a_likely a_cw a_rw a_cr a_rr g.2.1 row_start g.2.2.1 g.2.2.2.1 states_n g.2.2.2.2.1 likely_n g.2.2.2.2.2.1 g.2.2.2.2.2.2.1 g.2.2.2.2.2.2.2.1 g.2.2.2.2.2.2.2.2.1 g.2.2.2.2.2.2.2.2.2.1 g.2.2.2.2.2.2.2.2.2.2.1 cr_end g.2.2.2.2.2.2.2.2.2.2.2.1 g.2.2.2.2.2.2.2.2.2.2.2.2.1 g.2.2.2.2.2.2.2.2.2.2.2.2.2.1 g.2.2.2.2.2.2.2.2.2.2.2.2.2.2.1 rr_end g.2.2.2.2.2.2.2.2.2.2.2.2.2.2.2.1 g.2.2.2.2.2.2.2.2.2.2.2.2.2.2.2.2)) A
set_option maxHeartbeats 4000000 in
set_option maxRecDepth 100000 in
theorem c_N2 (l : Launch) (dC : Nat → ClassId) (dI : Nat → Nat → Nat) (cI cJ cZ : ClassId) (tP tN tO : Nat) (a_row : Nat) (a_bytes : Nat) (a_ctx : Nat) (a_states : Nat) (a_likely : Nat) (a_cw : Nat) (a_rw : Nat) (a_cr : Nat) (a_rr : Nat) (sz : Nat) (row_count : Int32) (row_start : Int32) (bytes_n : Nat) (bytes_f : Nat → Int32) (states_n : Nat) (states_f : Nat → Int32) (likely_n : Nat) (likely_f : Nat → Int32) (cw_low : Int32) (cw_size : Int32) (cw_room : Int32) (rw_free : Int32) (cr_place : Int32) (cr_end : Int32) (cr_window : Int32) (cr_size : Int32) (cr_room : Int32) (rr_place : Int32) (rr_end : Int32) (rr_current : Int32) (rr_left : Int32) (p1 : Int32) (p2 : Int32) (hpre : P_N2 p2 row_count bytes_n bytes_f states_n states_f likely_n likely_f cr_place cr_end cr_window cr_size cr_room) : Met l yX2_next wsX2_next (rm_N2 (D_N2)) (va_Pc [.ref a_cr, .int p1, .int p2] (fun U => U.heap.size = sz ∧ va_P (dC, dI) vwCl (wd_row_bytes_ctx_states_likely_cw_rw_cr_rr cI a_row a_bytes a_ctx a_states a_likely a_cw a_rw a_cr a_rr row_count row_start bytes_n bytes_f states_n states_f likely_n likely_f cw_low cw_size cw_room rw_free cr_place cr_end cr_window cr_size cr_room rr_place rr_end rr_current rr_left) U.heap ∧ va_K (dC, dI) vwCl [(cI, .int), (cJ, .long), (cZ, .boolean)] U ∧ va_D (fun _ => True) (wd_row_bytes_ctx_states_likely_cw_rw_cr_rr cI a_row a_bytes a_ctx a_states a_likely a_cw a_rw a_cr a_rr row_count row_start bytes_n bytes_f states_n states_f likely_n likely_f cw_low cw_size cw_room rw_free cr_place cr_end cr_window cr_size cr_room rr_place rr_end rr_current rr_left) ∧ Zs tP tN tO (va_A (wd_row_bytes_ctx_states_likely_cw_rw_cr_rr cI a_row a_bytes a_ctx a_states a_likely a_cw a_rw a_cr a_rr row_count row_start bytes_n bytes_f states_n states_f likely_n likely_f cw_low cw_size cw_room rw_free cr_place cr_end cr_window cr_size cr_room rr_place rr_end rr_current rr_left) sz) U U.heap)) (Q_N2 dC dI cI cJ cZ a_row a_bytes a_ctx a_states a_likely a_cw a_rw a_cr a_rr (va_A (wd_row_bytes_ctx_states_likely_cw_rw_cr_rr cI a_row a_bytes a_ctx a_states a_likely a_cw a_rw a_cr a_rr row_count row_start bytes_n bytes_f states_n states_f likely_n likely_f cw_low cw_size cw_room rw_free cr_place cr_end cr_window cr_size cr_room rr_place rr_end rr_current rr_left) sz) row_count row_start bytes_n bytes_f states_n states_f likely_n likely_f cw_low cw_size cw_room rw_free cr_place cr_end cr_window cr_size cr_room rr_place rr_end rr_current rr_left (F_N2 p2 row_count bytes_n bytes_f states_f likely_f cw_low cw_size cw_room rw_free cr_place cr_end cr_window cr_size cr_room rr_place rr_current rr_left)) (D_N2) (D_N2) (va_A (wd_row_bytes_ctx_states_likely_cw_rw_cr_rr cI a_row a_bytes a_ctx a_states a_likely a_cw a_rw a_cr a_rr row_count row_start bytes_n bytes_f states_n states_f likely_n likely_f cw_low cw_size cw_room rw_free cr_place cr_end cr_window cr_size cr_room rr_place rr_end rr_current rr_left) sz) := by
  refine Met.ofW (cc := cX2_next) (maxL := 7) (ret := (some .int)) (by decide) rfl ?_
  intro p e s m args below meth c s₁ B hml hv
  obtain ⟨rfl, hsz, hP, hK, hD0, hZ⟩ := hv
  have hx := B.exec
  have hb := B.bytes
  have hr := B.returns
  have hts := atoms_spec (ws := wsX2_next) B.pre
  have hown : s.vm.findClass RX2 = some m.cls := findClass_of_methodNamed B.named
  have hlocks := B.notSynchronized
  subst hsz
  have hD := hD0.self (sz := s.heap.size)
  generalize hAe : va_A (wd_row_bytes_ctx_states_likely_cw_rw_cr_rr cI a_row a_bytes a_ctx a_states a_likely a_cw a_rw a_cr a_rr row_count row_start bytes_n bytes_f states_n states_f likely_n likely_f cw_low cw_size cw_room rw_free cr_place cr_end cr_window cr_size cr_room rr_place rr_end rr_current rr_left) s.heap.size = A at hD hZ ⊢
  have hA : ∀ q : Nat, s.heap.size ≤ q → A q := fun q h => by rw [← hAe]; exact Or.inr h
  have hS : va_S A s.heap s.heap [] := va_S.rf
  obtain ⟨H, hH⟩ : ∃ z, z = s.heap := ⟨_, rfl⟩
  have hP : va_P (dC, dI) vwCl (wd_row_bytes_ctx_states_likely_cw_rw_cr_rr cI a_row a_bytes a_ctx a_states a_likely a_cw a_rw a_cr a_rr row_count row_start bytes_n bytes_f states_n states_f likely_n likely_f cw_low cw_size cw_room rw_free cr_place cr_end cr_window cr_size cr_room rr_place rr_end rr_current rr_left) H := by rw [hH]; exact hP
  have hS : va_S A s.heap H [] := by rw [hH]; exact va_S.rf
  obtain ⟨g, hg⟩ : ∃ z, F_N2 p2 row_count bytes_n bytes_f states_f likely_f cw_low cw_size cw_room rw_free cr_place cr_end cr_window cr_size cr_room rr_place rr_current rr_left = z := ⟨_, rfl⟩
  rw [hg]
  obtain ⟨Dt, hDt⟩ : ∃ z, D_N2 = z := ⟨_, rfl⟩
  rw [hDt]
  generalize hQe : MQ below (Q_N2 dC dI cI cJ cZ a_row a_bytes a_ctx a_states a_likely a_cw a_rw a_cr a_rr A row_count row_start bytes_n bytes_f states_n states_f likely_n likely_f cw_low cw_size cw_room rw_free cr_place cr_end cr_window cr_size cr_room rr_place rr_end rr_current rr_left g) _ s Dt Dt A = Q
  rw [← hH]
  clear hH
  have hl := lv_entry ([.ref a_cr, .int p1, .int p2]) (n := 7) (Nat.le_of_ble_eq_true rfl)
  rw [lg_entry_eq]
  generalize (lg_sl ([.ref a_cr, .int p1, .int p2]) ++ List.replicate (7 - (lg_sl ([.ref a_cr, .int p1, .int p2])).length) Slot.unset).toArray = ls at hl ⊢
  have hl : lv_has ls 7 [(0, .ref a_cr), (1, .int p1), (2, .int p2)] := hl
  unfold F_N2 at hg
  unfold P_N2 at hpre
  unfold D_N2 at hDt
  obtain ⟨k, hk⟩ : ∃ z : Nat, z = 0 := ⟨_, rfl⟩
  obtain ⟨E, hE⟩ : ∃ z : Nat, z = 0 := ⟨_, rfl⟩
  have hC : k + (0) + E ≤ Dt := by rw [hk, hE, Nat.zero_add]; exact Nat.le_of_eq hDt
  refine W.widen (k := k) (n := k) (Nat.zero_le _) (Nat.zero_le _) ?_
  clear hk hE hDt
  refine lv_aload_n hx hb dX2_next_0 rfl (lv_at hl 0 rfl) ?_
  refine va_get (D := (dC, dI)) (ci := 1) (v := .ref a_ctx) (C := RX2) (T := TX2) (N := 7) hx hb hts iw_X2_next_X2 hown hK hP 7 rfl rfl 1 (by decide) (hts (.fieldLink RX2 15 "PlaneBlocks$CodedReader" "contexts" "LPlaneBlocks$Contexts;") (by decide +kernel)) (fun _ h9 => h9) rfl dX2_next_1 ?_
  refine lv_iload_n hx hb dX2_next_4 rfl (lv_at hl 2 rfl) ?_
  have hPc := hP.sub (ws' := (wd_ctx_states cI a_ctx a_states a_likely states_n states_f)) [2, 3] rfl
  have hDc := hD.sub (ws' := (wd_ctx_states cI a_ctx a_states a_likely states_n states_f)) [2, 3] (by decide) rfl
  have hFc := va_free (wc := (wd_ctx_states cI a_ctx a_states a_likely states_n states_f)) hD hS hA [2, 3] rfl
  refine va_calli (va_runV (As := [.int p2]) (rest := []) ⟨hx, hb, hml, hown, hts⟩ (c_X4_part l dC dI cI cJ cZ tP tN tO a_ctx a_states a_likely H.size states_n states_f p2 hpre.1) (cwV 1 hts gX2_next_X4_part rfl rfl rfl (by decide +kernel) ⟨Nat.le_of_ble_eq_true rfl, Nat.le_of_ble_eq_true rfl⟩) ⟨fun a U g mk q => by obtain ⟨q0, q1, qP, qK, qD, qZ⟩ := q; exact ⟨q0, q1, qP, va_K.moved (u := U) (U := U.calling g mk a) (Vm.Alike.refl U.vm) qK, qD, Zs.moved (u := U) (U := U.calling g mk a) (Vm.Alike.refl U.vm) qZ⟩, va_recv hK hPc (ci := 3) (q0 := 0) rfl rfl, fun U hU hW => ⟨rfl, by rw [hU], by rw [hU]; exact hPc, va_K.moved hW.alike hK, hDc.weaken (fun _ _ _ _ => trivial), by rw [hU]; exact (((hZ.kept hS.2.1).narrow hFc).moved hW.alike)⟩⟩ rfl rfl hl.1 rfl (lv_room (Nat.le_of_ble_eq_true rfl)) dX2_next_5 ⟨k0_le hC, k0_le hC⟩) hS (fun q _ h => hFc q h) hFc (fun r u t H1 locs ht hvm hw hB hz1 hk1 hS => ?_)
  obtain ⟨hP1, hK1, hD1⟩ := hB
  rw [ht] at hP1
  obtain ⟨r_1, hr_1⟩ : ∃ z, F_X4_part p2 states_f = z := ⟨_, rfl⟩
  try rw [hr_1] at hw
  try rw [hr_1] at hP1
  try rw [hr_1] at hD1
  have hg : (let r_2 := F_X4_likelyBit p2 likely_f; if r_1 ≤ ((cr_window.toUInt32 >>> ((16 : Int32).toUInt32 &&& Int32.toUInt32 31)).toInt32) then (if (cr_size - r_1) < (32768 : Int32) then (let j_6 := J_N2_j_6 cr_size r_1; let j_10 := J_N2_j_10 p2 states_f likely_f j_6; let j_11 := L_N2_j_11 row_count bytes_f cr_end fu (0 : Int32) cr_place (cr_window - (r_1 <<< ((16 : Int32) &&& 31))) (cr_size - r_1) cr_room; if j_6 = (0 : Int32) then ((1 : Int32) - r_2, row_count, bytes_n, bytes_f, j_10.1, j_10.2, cw_low, cw_size, cw_room, rw_free, j_11.2.1, j_11.2.2.1, j_11.2.2.2.1, j_11.2.2.2.2, rr_place, rr_current, rr_left) else (r_2, row_count, bytes_n, bytes_f, j_10.1, j_10.2, cw_low, cw_size, cw_room, rw_free, j_11.2.1, j_11.2.2.1, j_11.2.2.2.1, j_11.2.2.2.2, rr_place, rr_current, rr_left)) else (r_2, row_count, bytes_n, bytes_f, states_f, likely_f, cw_low, cw_size, cw_room, rw_free, cr_place, cr_window - (r_1 <<< ((16 : Int32) &&& 31)), cr_size - r_1, cr_room, rr_place, rr_current, rr_left)) else (let j_19 := J_N2_j_19 cr_size r_1; let j_23 := J_N2_j_23 p2 states_f likely_f j_19; let j_24 := L_N2_j_24 row_count bytes_f cr_end fu (0 : Int32) cr_place cr_window r_1 cr_room; if j_19 = (0 : Int32) then ((1 : Int32) - r_2, row_count, bytes_n, bytes_f, j_23.1, j_23.2, cw_low, cw_size, cw_room, rw_free, j_24.2.1, j_24.2.2.1, j_24.2.2.2.1, j_24.2.2.2.2, rr_place, rr_current, rr_left) else (r_2, row_count, bytes_n, bytes_f, j_23.1, j_23.2, cw_low, cw_size, cw_room, rw_free, j_24.2.1, j_24.2.2.1, j_24.2.2.2.1, j_24.2.2.2.2, rr_place, rr_current, rr_left))) = g := by first | (rw [hr_1] at hg; exact hg) | (subst hr_1; exact hg)
  have hw := hw.symm
  subst hw
  obtain ⟨hP, hD⟩ := va_join (wr := [(a_row, .inr (0, [.ref a_bytes, .int row_count, .int row_start])), (a_bytes, .inl (cI, bytes_n, .inl bytes_f)), (a_likely, .inl (cI, likely_n, .inl likely_f)), (a_cw, .inr (2, [.ref a_row, .ref a_ctx, .int cw_low, .int cw_size, .int cw_room])), (a_rw, .inr (7, [.ref a_row, .int rw_free])), (a_cr, .inr (1, [.ref a_row, .ref a_ctx, .int cr_place, .int cr_end, .int cr_window, .int cr_size, .int cr_room])), (a_rr, .inr (6, [.ref a_row, .int rr_place, .int rr_end, .int rr_current, .int rr_left]))]) (w1 := (wd_ctx_states cI a_ctx a_states a_likely states_n states_f)) hP hD [2, 3] [0, 1, 4, 5, 6, 7, 8] rfl rfl (by decide) (by decide) hk1 hFc hP1 hD1
  have hP : va_P (dC, dI) vwCl (wd_row_bytes_ctx_states_likely_cw_rw_cr_rr cI a_row a_bytes a_ctx a_states a_likely a_cw a_rw a_cr a_rr row_count row_start bytes_n bytes_f states_n states_f likely_n likely_f cw_low cw_size cw_room rw_free cr_place cr_end cr_window cr_size cr_room rr_place rr_end rr_current rr_left) H1 := hP.sub [0, 1, 7, 8, 2, 3, 4, 5, 6] rfl
  have hD : va_D A (wd_row_bytes_ctx_states_likely_cw_rw_cr_rr cI a_row a_bytes a_ctx a_states a_likely a_cw a_rw a_cr a_rr row_count row_start bytes_n bytes_f states_n states_f likely_n likely_f cw_low cw_size cw_room rw_free cr_place cr_end cr_window cr_size cr_room rr_place rr_end rr_current rr_left) := hD.sub [0, 1, 7, 8, 2, 3, 4, 5, 6] (by decide) rfl
  generalize H1 = H at hP hS ⊢
  have hpre := hpre.2 r_1 hr_1
  refine lv_istore_n (lv' := [(3, .int r_1), (0, .ref a_cr), (1, .int p1), (2, .int p2)]) hx hb dX2_next_8 rfl hl (by decide) rfl (fun ls hl => ?_)
  refine lv_aload_n hx hb dX2_next_9 rfl (lv_at hl 1 rfl) ?_
  refine va_get (D := (dC, dI)) (ci := 1) (v := .ref a_ctx) (C := RX2) (T := TX2) (N := 7) hx hb hts iw_X2_next_X2 hown hK hP 7 rfl rfl 1 (by decide) (hts (.fieldLink RX2 15 "PlaneBlocks$CodedReader" "contexts" "LPlaneBlocks$Contexts;") (by decide +kernel)) (fun _ h9 => h9) rfl dX2_next_10 ?_
  refine lv_iload_n hx hb dX2_next_13 rfl (lv_at hl 3 rfl) ?_
  have hPc := hP.sub (ws' := (wd_ctx_likely cI a_ctx a_states a_likely likely_n likely_f)) [2, 4] rfl
  have hDc := hD.sub (ws' := (wd_ctx_likely cI a_ctx a_states a_likely likely_n likely_f)) [2, 4] (by decide) rfl
  have hFc := va_free (wc := (wd_ctx_likely cI a_ctx a_states a_likely likely_n likely_f)) hD hS hA [2, 4] rfl
  refine va_calli (va_runV (As := [.int p2]) (rest := []) ⟨hx, hb, hml, hown, hts⟩ (c_X4_likelyBit l dC dI cI cJ cZ a_ctx a_states a_likely H.size likely_n likely_f p2 hpre.1) (cwV 1 hts gX2_next_X4_likelyBit rfl rfl rfl (by decide +kernel) ⟨Nat.le_of_ble_eq_true rfl, Nat.le_of_ble_eq_true rfl⟩) ⟨fun a U g mk q => by obtain ⟨q0, q1, qP, qK, qD⟩ := q; exact ⟨q0, q1, qP, va_K.moved (u := U) (U := U.calling g mk a) (Vm.Alike.refl U.vm) qK, qD⟩, va_recv hK hPc (ci := 3) (q0 := 0) rfl rfl, fun U hU hW => ⟨rfl, by rw [hU], by rw [hU]; exact hPc, va_K.moved hW.alike hK, hDc.weaken (fun _ _ _ _ => trivial)⟩⟩ rfl rfl hl.1 rfl (lv_room (Nat.le_of_ble_eq_true rfl)) dX2_next_14 ⟨k0_le hC, k0_le hC⟩) hS (fun q _ h => hFc q h) hFc (fun r u t H1 locs ht hvm hw hB hz1 hk1 hS => ?_)
  obtain ⟨hP1, hK1, hD1⟩ := hB
  rw [ht] at hP1
  obtain ⟨r_2, hr_2⟩ : ∃ z, F_X4_likelyBit p2 likely_f = z := ⟨_, rfl⟩
  try rw [hr_2] at hw
  try rw [hr_2] at hP1
  try rw [hr_2] at hD1
  have hg : (if r_1 ≤ ((cr_window.toUInt32 >>> ((16 : Int32).toUInt32 &&& Int32.toUInt32 31)).toInt32) then (if (cr_size - r_1) < (32768 : Int32) then (let j_6 := J_N2_j_6 cr_size r_1; let j_10 := J_N2_j_10 p2 states_f likely_f j_6; let j_11 := L_N2_j_11 row_count bytes_f cr_end fu (0 : Int32) cr_place (cr_window - (r_1 <<< ((16 : Int32) &&& 31))) (cr_size - r_1) cr_room; if j_6 = (0 : Int32) then ((1 : Int32) - r_2, row_count, bytes_n, bytes_f, j_10.1, j_10.2, cw_low, cw_size, cw_room, rw_free, j_11.2.1, j_11.2.2.1, j_11.2.2.2.1, j_11.2.2.2.2, rr_place, rr_current, rr_left) else (r_2, row_count, bytes_n, bytes_f, j_10.1, j_10.2, cw_low, cw_size, cw_room, rw_free, j_11.2.1, j_11.2.2.1, j_11.2.2.2.1, j_11.2.2.2.2, rr_place, rr_current, rr_left)) else (r_2, row_count, bytes_n, bytes_f, states_f, likely_f, cw_low, cw_size, cw_room, rw_free, cr_place, cr_window - (r_1 <<< ((16 : Int32) &&& 31)), cr_size - r_1, cr_room, rr_place, rr_current, rr_left)) else (let j_19 := J_N2_j_19 cr_size r_1; let j_23 := J_N2_j_23 p2 states_f likely_f j_19; let j_24 := L_N2_j_24 row_count bytes_f cr_end fu (0 : Int32) cr_place cr_window r_1 cr_room; if j_19 = (0 : Int32) then ((1 : Int32) - r_2, row_count, bytes_n, bytes_f, j_23.1, j_23.2, cw_low, cw_size, cw_room, rw_free, j_24.2.1, j_24.2.2.1, j_24.2.2.2.1, j_24.2.2.2.2, rr_place, rr_current, rr_left) else (r_2, row_count, bytes_n, bytes_f, j_23.1, j_23.2, cw_low, cw_size, cw_room, rw_free, j_24.2.1, j_24.2.2.1, j_24.2.2.2.1, j_24.2.2.2.2, rr_place, rr_current, rr_left))) = g := by first | (rw [hr_2] at hg; exact hg) | (subst hr_2; exact hg)
  have hw := hw.symm
  subst hw
  obtain ⟨hP, hD⟩ := va_join (wr := [(a_row, .inr (0, [.ref a_bytes, .int row_count, .int row_start])), (a_bytes, .inl (cI, bytes_n, .inl bytes_f)), (a_states, .inl (cI, states_n, .inl states_f)), (a_cw, .inr (2, [.ref a_row, .ref a_ctx, .int cw_low, .int cw_size, .int cw_room])), (a_rw, .inr (7, [.ref a_row, .int rw_free])), (a_cr, .inr (1, [.ref a_row, .ref a_ctx, .int cr_place, .int cr_end, .int cr_window, .int cr_size, .int cr_room])), (a_rr, .inr (6, [.ref a_row, .int rr_place, .int rr_end, .int rr_current, .int rr_left]))]) (w1 := (wd_ctx_likely cI a_ctx a_states a_likely likely_n likely_f)) hP hD [2, 4] [0, 1, 3, 5, 6, 7, 8] rfl rfl (by decide) (by decide) hk1 hFc hP1 hD1
  have hP : va_P (dC, dI) vwCl (wd_row_bytes_ctx_states_likely_cw_rw_cr_rr cI a_row a_bytes a_ctx a_states a_likely a_cw a_rw a_cr a_rr row_count row_start bytes_n bytes_f states_n states_f likely_n likely_f cw_low cw_size cw_room rw_free cr_place cr_end cr_window cr_size cr_room rr_place rr_end rr_current rr_left) H1 := hP.sub [0, 1, 7, 2, 8, 3, 4, 5, 6] rfl
  have hD : va_D A (wd_row_bytes_ctx_states_likely_cw_rw_cr_rr cI a_row a_bytes a_ctx a_states a_likely a_cw a_rw a_cr a_rr row_count row_start bytes_n bytes_f states_n states_f likely_n likely_f cw_low cw_size cw_room rw_free cr_place cr_end cr_window cr_size cr_room rr_place rr_end rr_current rr_left) := hD.sub [0, 1, 7, 2, 8, 3, 4, 5, 6] (by decide) rfl
  generalize H1 = H at hP hS ⊢
  have hpre := hpre.2 r_2 hr_2
  refine lv_istore (lv' := [(4, .int r_2), (3, .int r_1), (0, .ref a_cr), (1, .int p1), (2, .int p2)]) hx hb dX2_next_17 hl (by decide) rfl (fun ls hl => ?_)
  refine lv_aload_n hx hb dX2_next_19 rfl (lv_at hl 2 rfl) ?_
  refine lv_dup hx hb dX2_next_20 rfl ?_
  refine va_get (D := (dC, dI)) (ci := 1) (v := .int cr_size) (C := RX2) (T := TX2) (N := 7) hx hb hts iw_X2_next_X2 hown hK hP 7 rfl rfl 5 (by decide) (hts (.fieldLink RX2 36 "PlaneBlocks$CodedReader" "size" "I") (by decide +kernel)) (fun _ h9 => h9) rfl dX2_next_21 ?_
  refine lv_iload_n hx hb dX2_next_24 rfl (lv_at hl 1 rfl) ?_
  refine lv_isub hx hb dX2_next_25 ?_
  refine va_put (D := (dC, dI)) (ci := 1) (v := .int (cr_size - r_1)) (ty := .int) (C := RX2) (T := TX2) (N := 7) hx hb hts iw_X2_next_X2 tyX2 tyX2_ok nmX2 hown hK hP hD hS 7 rfl rfl 5 (by decide) (hts (.fieldLink RX2 36 "PlaneBlocks$CodedReader" "size" "I") (by decide +kernel)) (fun _ h9 => h9) rfl (by decide +kernel) rfl rfl (Nat.le_of_ble_eq_true rfl) dX2_next_26 (fun H locs hP hD hS => ?_)
  have hP : va_P (dC, dI) vwCl (wd_row_bytes_ctx_states_likely_cw_rw_cr_rr cI a_row a_bytes a_ctx a_states a_likely a_cw a_rw a_cr a_rr row_count row_start bytes_n bytes_f states_n states_f likely_n likely_f cw_low cw_size cw_room rw_free cr_place cr_end cr_window (cr_size - r_1) cr_room rr_place rr_end rr_current rr_left) H := hP
  have hD : va_D A (wd_row_bytes_ctx_states_likely_cw_rw_cr_rr cI a_row a_bytes a_ctx a_states a_likely a_cw a_rw a_cr a_rr row_count row_start bytes_n bytes_f states_n states_f likely_n likely_f cw_low cw_size cw_room rw_free cr_place cr_end cr_window (cr_size - r_1) cr_room rr_place rr_end rr_current rr_left) := hD
  refine lv_aload_n hx hb dX2_next_29 rfl (lv_at hl 2 rfl) ?_
  refine va_get (D := (dC, dI)) (ci := 1) (v := .int cr_window) (C := RX2) (T := TX2) (N := 7) hx hb hts iw_X2_next_X2 hown hK hP 7 rfl rfl 4 (by decide) (hts (.fieldLink RX2 32 "PlaneBlocks$CodedReader" "window" "I") (by decide +kernel)) (fun _ h9 => h9) rfl dX2_next_30 ?_
  refine lv_bipush (v := 16) hx hb dX2_next_33 (by decide) ?_
  refine lv_iushr hx hb dX2_next_35 rfl ?_
  refine lv_iload_n hx hb dX2_next_36 rfl (lv_at hl 1 rfl) ?_
  refine lv_icmp_ge (tgt := 63) hx hb dX2_next_37 (by decide) (fun c_3 => ?_) (fun c_3 => ?_)
  · rw [if_pos c_3] at hg
    have hpre := hpre.1 c_3
    refine lv_aload_n hx hb dX2_next_63 rfl (lv_at hl 2 rfl) ?_
    refine lv_dup hx hb dX2_next_64 rfl ?_
    refine va_get (D := (dC, dI)) (ci := 1) (v := .int cr_window) (C := RX2) (T := TX2) (N := 7) hx hb hts iw_X2_next_X2 hown hK hP 7 rfl rfl 4 (by decide) (hts (.fieldLink RX2 32 "PlaneBlocks$CodedReader" "window" "I") (by decide +kernel)) (fun _ h9 => h9) rfl dX2_next_65 ?_
    refine lv_iload_n hx hb dX2_next_68 rfl (lv_at hl 1 rfl) ?_
    refine lv_bipush (v := 16) hx hb dX2_next_69 (by decide) ?_
    refine lv_ishl hx hb dX2_next_71 ?_
    refine lv_isub hx hb dX2_next_72 ?_
    refine va_put (D := (dC, dI)) (ci := 1) (v := .int (cr_window - (r_1 <<< ((16 : Int32) &&& 31)))) (ty := .int) (C := RX2) (T := TX2) (N := 7) hx hb hts iw_X2_next_X2 tyX2 tyX2_ok nmX2 hown hK hP hD hS 7 rfl rfl 4 (by decide) (hts (.fieldLink RX2 32 "PlaneBlocks$CodedReader" "window" "I") (by decide +kernel)) (fun _ h9 => h9) rfl (by decide +kernel) rfl rfl (Nat.le_of_ble_eq_true rfl) dX2_next_73 (fun H locs hP hD hS => ?_)
    have hP : va_P (dC, dI) vwCl (wd_row_bytes_ctx_states_likely_cw_rw_cr_rr cI a_row a_bytes a_ctx a_states a_likely a_cw a_rw a_cr a_rr row_count row_start bytes_n bytes_f states_n states_f likely_n likely_f cw_low cw_size cw_room rw_free cr_place cr_end (cr_window - (r_1 <<< ((16 : Int32) &&& 31))) (cr_size - r_1) cr_room rr_place rr_end rr_current rr_left) H := hP
    have hD : va_D A (wd_row_bytes_ctx_states_likely_cw_rw_cr_rr cI a_row a_bytes a_ctx a_states a_likely a_cw a_rw a_cr a_rr row_count row_start bytes_n bytes_f states_n states_f likely_n likely_f cw_low cw_size cw_room rw_free cr_place cr_end (cr_window - (r_1 <<< ((16 : Int32) &&& 31))) (cr_size - r_1) cr_room rr_place rr_end rr_current rr_left) := hD
    refine lv_aload_n hx hb dX2_next_76 rfl (lv_at hl 2 rfl) ?_
    refine va_get (D := (dC, dI)) (ci := 1) (v := .int (cr_size - r_1)) (C := RX2) (T := TX2) (N := 7) hx hb hts iw_X2_next_X2 hown hK hP 7 rfl rfl 5 (by decide) (hts (.fieldLink RX2 36 "PlaneBlocks$CodedReader" "size" "I") (by decide +kernel)) (fun _ h9 => h9) rfl dX2_next_77 ?_
    refine lv_ldc (v := 32768) hx hb hown (hts (.constant RX2 35 (32768)) (by decide +kernel)) dX2_next_80 ?_
    refine lv_icmp_lt (tgt := 88) hx hb dX2_next_82 (by decide) (fun c_4 => ?_) (fun c_4 => ?_)
    · rw [if_pos c_4] at hg
      have hpre := hpre c_4
      refine lv_aload_n hx hb dX2_next_88 rfl (lv_at hl 2 rfl) ?_
      refine va_get (D := (dC, dI)) (ci := 1) (v := .int (cr_size - r_1)) (C := RX2) (T := TX2) (N := 7) hx hb hts iw_X2_next_X2 hown hK hP 7 rfl rfl 5 (by decide) (hts (.fieldLink RX2 36 "PlaneBlocks$CodedReader" "size" "I") (by decide +kernel)) (fun _ h9 => h9) rfl dX2_next_89 ?_
      refine lv_iload_n hx hb dX2_next_92 rfl (lv_at hl 1 rfl) ?_
      obtain ⟨j_6, hj_6⟩ : ∃ z, J_N2_j_6 cr_size r_1 = z := ⟨_, rfl⟩
      have hg : (let j_10 := J_N2_j_10 p2 states_f likely_f j_6; let j_11 := L_N2_j_11 row_count bytes_f cr_end fu (0 : Int32) cr_place (cr_window - (r_1 <<< ((16 : Int32) &&& 31))) (cr_size - r_1) cr_room; if j_6 = (0 : Int32) then ((1 : Int32) - r_2, row_count, bytes_n, bytes_f, j_10.1, j_10.2, cw_low, cw_size, cw_room, rw_free, j_11.2.1, j_11.2.2.1, j_11.2.2.2.1, j_11.2.2.2.2, rr_place, rr_current, rr_left) else (r_2, row_count, bytes_n, bytes_f, j_10.1, j_10.2, cw_low, cw_size, cw_room, rw_free, j_11.2.1, j_11.2.2.1, j_11.2.2.2.1, j_11.2.2.2.2, rr_place, rr_current, rr_left)) = g := by first | (rw [hj_6] at hg; exact hg) | (subst hj_6; exact hg)
      have hJ_j_6 : ∀ (k : Nat) (H : Heap) (locs : List Loc) (ls : Array Slot), va_P (dC, dI) vwCl (wd_row_bytes_ctx_states_likely_cw_rw_cr_rr cI a_row a_bytes a_ctx a_states a_likely a_cw a_rw a_cr a_rr row_count row_start bytes_n bytes_f states_n states_f likely_n likely_f cw_low cw_size cw_room rw_free cr_place cr_end (cr_window - (r_1 <<< ((16 : Int32) &&& 31))) (cr_size - r_1) cr_room rr_place rr_end rr_current rr_left) H → va_D A (wd_row_bytes_ctx_states_likely_cw_rw_cr_rr cI a_row a_bytes a_ctx a_states a_likely a_cw a_rw a_cr a_rr row_count row_start bytes_n bytes_f states_n states_f likely_n likely_f cw_low cw_size cw_room rw_free cr_place cr_end (cr_window - (r_1 <<< ((16 : Int32) &&& 31))) (cr_size - r_1) cr_room rr_place rr_end rr_current rr_left) → va_S A s.heap H locs → lv_has ls 7 [(0, .ref a_cr), (1, .int p1), (2, .int p2), (3, .int r_1), (4, .int r_2)] → k + (0) + E ≤ Dt → W p l e (headSpec wsX2_next (rm_N2 Dt)).room s m ([.ref a_cr, .int p1, .int p2] : List Value).toArray below meth c H locs k k Q (F0 m 101 ls [.int j_6]) := by
        intro k H locs ls hP hD hS hl hC
        have hpre := hpre j_6 hj_6
        refine lv_istore (lv' := [(5, .int j_6), (0, .ref a_cr), (1, .int p1), (2, .int p2), (3, .int r_1), (4, .int r_2)]) hx hb dX2_next_101 hl (by decide) rfl (fun ls hl => ?_)
        refine lv_iload hx hb dX2_next_103 (lv_at hl 0 rfl) ?_
        obtain ⟨j_10, hj_10⟩ : ∃ z, J_N2_j_10 p2 states_f likely_f j_6 = z := ⟨_, rfl⟩
        have hg : (let j_11 := L_N2_j_11 row_count bytes_f cr_end fu (0 : Int32) cr_place (cr_window - (r_1 <<< ((16 : Int32) &&& 31))) (cr_size - r_1) cr_room; if j_6 = (0 : Int32) then ((1 : Int32) - r_2, row_count, bytes_n, bytes_f, j_10.1, j_10.2, cw_low, cw_size, cw_room, rw_free, j_11.2.1, j_11.2.2.1, j_11.2.2.2.1, j_11.2.2.2.2, rr_place, rr_current, rr_left) else (r_2, row_count, bytes_n, bytes_f, j_10.1, j_10.2, cw_low, cw_size, cw_room, rw_free, j_11.2.1, j_11.2.2.1, j_11.2.2.2.1, j_11.2.2.2.2, rr_place, rr_current, rr_left)) = g := by first | (rw [hj_10] at hg; exact hg) | (subst hj_10; exact hg)
        have hJ_j_10 : ∀ (k : Nat) (H : Heap) (locs : List Loc) (ls : Array Slot), va_P (dC, dI) vwCl (wd_row_bytes_ctx_states_likely_cw_rw_cr_rr cI a_row a_bytes a_ctx a_states a_likely a_cw a_rw a_cr a_rr row_count row_start bytes_n bytes_f states_n j_10.1 likely_n j_10.2 cw_low cw_size cw_room rw_free cr_place cr_end (cr_window - (r_1 <<< ((16 : Int32) &&& 31))) (cr_size - r_1) cr_room rr_place rr_end rr_current rr_left) H → va_D A (wd_row_bytes_ctx_states_likely_cw_rw_cr_rr cI a_row a_bytes a_ctx a_states a_likely a_cw a_rw a_cr a_rr row_count row_start bytes_n bytes_f states_n j_10.1 likely_n j_10.2 cw_low cw_size cw_room rw_free cr_place cr_end (cr_window - (r_1 <<< ((16 : Int32) &&& 31))) (cr_size - r_1) cr_room rr_place rr_end rr_current rr_left) → va_S A s.heap H locs → lv_has ls 7 [(0, .ref a_cr), (1, .int p1), (2, .int p2), (3, .int r_1), (4, .int r_2), (5, .int j_6)] → k + (0) + E ≤ Dt → W p l e (headSpec wsX2_next (rm_N2 Dt)).room s m ([.ref a_cr, .int p1, .int p2] : List Value).toArray below meth c H locs k k Q (F0 m 127 ls []) := by
          intro k H locs ls hP hD hS hl hC
          have hpre := hpre.2 j_10 hj_10
          refine lv_iconst (v := 0) hx hb dX2_next_127 (by decide) ?_
          refine lv_istore (lv' := [(6, .int (0 : Int32)), (0, .ref a_cr), (1, .int p1), (2, .int p2), (3, .int r_1), (4, .int r_2), (5, .int j_6)]) hx hb dX2_next_128 hl (by decide) rfl (fun ls hl => ?_)
          obtain ⟨j_11, hj_11⟩ : ∃ z, L_N2_j_11 row_count bytes_f cr_end fu (0 : Int32) cr_place (cr_window - (r_1 <<< ((16 : Int32) &&& 31))) (cr_size - r_1) cr_room = z := ⟨_, rfl⟩
          have hg : (if j_6 = (0 : Int32) then ((1 : Int32) - r_2, row_count, bytes_n, bytes_f, j_10.1, j_10.2, cw_low, cw_size, cw_room, rw_free, j_11.2.1, j_11.2.2.1, j_11.2.2.2.1, j_11.2.2.2.2, rr_place, rr_current, rr_left) else (r_2, row_count, bytes_n, bytes_f, j_10.1, j_10.2, cw_low, cw_size, cw_room, rw_free, j_11.2.1, j_11.2.2.1, j_11.2.2.2.1, j_11.2.2.2.2, rr_place, rr_current, rr_left)) = g := by first | (rw [hj_11] at hg; exact hg) | (subst hj_11; exact hg)
          have hJ_j_11 : ∀ (k : Nat) (H : Heap) (locs : List Loc) (ls : Array Slot), va_P (dC, dI) vwCl (wd_row_bytes_ctx_states_likely_cw_rw_cr_rr cI a_row a_bytes a_ctx a_states a_likely a_cw a_rw a_cr a_rr row_count row_start bytes_n bytes_f states_n j_10.1 likely_n j_10.2 cw_low cw_size cw_room rw_free j_11.2.1 cr_end j_11.2.2.1 j_11.2.2.2.1 j_11.2.2.2.2 rr_place rr_end rr_current rr_left) H → va_D A (wd_row_bytes_ctx_states_likely_cw_rw_cr_rr cI a_row a_bytes a_ctx a_states a_likely a_cw a_rw a_cr a_rr row_count row_start bytes_n bytes_f states_n j_10.1 likely_n j_10.2 cw_low cw_size cw_room rw_free j_11.2.1 cr_end j_11.2.2.1 j_11.2.2.2.1 j_11.2.2.2.2 rr_place rr_end rr_current rr_left) → va_S A s.heap H locs → lv_has ls 7 [(0, .ref a_cr), (1, .int p1), (2, .int p2), (3, .int r_1), (4, .int r_2), (5, .int j_6), (6, .int j_11.1)] → k + (0) + E ≤ Dt → W p l e (headSpec wsX2_next (rm_N2 Dt)).room s m ([.ref a_cr, .int p1, .int p2] : List Value).toArray below meth c H locs k k Q (F0 m 193 ls []) := by
            intro k H locs ls hP hD hS hl hC
            refine lv_iload hx hb dX2_next_193 (lv_at hl 5 rfl) ?_
            refine lv_if_eq (tgt := 203) hx hb dX2_next_195 (by decide) (fun c_17 => ?_) (fun c_17 => ?_)
            · rw [if_pos c_17] at hg
              refine lv_iconst (v := 1) hx hb dX2_next_203 (by decide) ?_
              refine lv_iload hx hb dX2_next_204 (lv_at hl 4 rfl) ?_
              refine lv_isub hx hb dX2_next_206 ?_
              subst hg
              refine W.widen (k := Dt) (n := Dt) (k0_le hC) (k0_le hC) ?_
              rw [← hQe]
              exact W.iret (v := ((1 : Int32) - r_2)) hx hb hr (fun t ht hW => ⟨⟨((1 : Int32) - r_2), a_bytes, rfl, rfl, by rw [ht]; exact hP, va_K.moved hW.alike hK, hD⟩, hS.F ht⟩) hS.2.2 dX2_next_207
            · rw [if_neg c_17] at hg
              refine lv_iload hx hb dX2_next_198 (lv_at hl 4 rfl) ?_
              refine lv_goto (tgt := 207) hx hb dX2_next_200 (by decide) ?_
              subst hg
              refine W.widen (k := Dt) (n := Dt) (k0_le hC) (k0_le hC) ?_
              rw [← hQe]
              exact W.iret (v := r_2) hx hb hr (fun t ht hW => ⟨⟨r_2, a_bytes, rfl, rfl, by rw [ht]; exact hP, va_K.moved hW.alike hK, hD⟩, hS.F ht⟩) hS.2.2 dX2_next_207
          obtain ⟨E2, hE2⟩ : ∃ z : Nat, z = (0) + E := ⟨_, rfl⟩
          have hC : k + 0 + E2 ≤ Dt := by rw [hE2]; exact add40 hC
          have hL_j_11 : ∀ (n : Nat) (v6_j_11 : Int32) (cr_place_j_11 : Int32) (cr_window_j_11 : Int32) (cr_size_j_11 : Int32) (cr_room_j_11 : Int32) (k : Nat) (H : Heap) (locs : List Loc) (ls : Array Slot), PL_N2_j_11 row_count bytes_n bytes_f cr_end n v6_j_11 cr_place_j_11 cr_window_j_11 cr_size_j_11 cr_room_j_11 → L_N2_j_11 row_count bytes_f cr_end n v6_j_11 cr_place_j_11 cr_window_j_11 cr_size_j_11 cr_room_j_11 = j_11 → va_P (dC, dI) vwCl (wd_row_bytes_ctx_states_likely_cw_rw_cr_rr cI a_row a_bytes a_ctx a_states a_likely a_cw a_rw a_cr a_rr row_count row_start bytes_n bytes_f states_n j_10.1 likely_n j_10.2 cw_low cw_size cw_room rw_free cr_place_j_11 cr_end cr_window_j_11 cr_size_j_11 cr_room_j_11 rr_place rr_end rr_current rr_left) H → va_D A (wd_row_bytes_ctx_states_likely_cw_rw_cr_rr cI a_row a_bytes a_ctx a_states a_likely a_cw a_rw a_cr a_rr row_count row_start bytes_n bytes_f states_n j_10.1 likely_n j_10.2 cw_low cw_size cw_room rw_free cr_place_j_11 cr_end cr_window_j_11 cr_size_j_11 cr_room_j_11 rr_place rr_end rr_current rr_left) → va_S A s.heap H locs → lv_has ls 7 [(0, .ref a_cr), (1, .int p1), (2, .int p2), (3, .int r_1), (4, .int r_2), (5, .int j_6), (6, .int v6_j_11)] → k + (0) + E2 ≤ Dt → W p l e (headSpec wsX2_next (rm_N2 Dt)).room s m ([.ref a_cr, .int p1, .int p2] : List Value).toArray below meth c H locs k k Q (F0 m 130 ls []) := by
            intro n
            induction n with
            | zero => intro v6_j_11 cr_place_j_11 cr_window_j_11 cr_size_j_11 cr_room_j_11 k H locs ls hpre; exact absurd hpre id
            | succ n ih =>
              intro v6_j_11 cr_place_j_11 cr_window_j_11 cr_size_j_11 cr_room_j_11 k H locs ls hpre hg hP hD hS hl hC
              rw [PL_N2_j_11] at hpre
              rw [L_N2_j_11] at hg
              refine lv_iload hx hb dX2_next_130 (lv_at hl 6 rfl) ?_
              refine lv_bipush (v := 15) hx hb dX2_next_132 (by decide) ?_
              refine lv_icmp_ge (tgt := 193) hx hb dX2_next_134 (by decide) (fun c_12 => ?_) (fun c_12 => ?_)
              · rw [if_pos c_12] at hg
                exact hJ_j_11 _ _ _ _ (by rw [← hg]; exact hP) (by rw [← hg]; exact hD) hS (by rw [← hg]; exact lv_sub hl [0, 1, 2, 3, 4, 5, 6] rfl) (by rw [Nat.add_assoc, ← hE2]; exact hC)
              · rw [if_neg c_12] at hg
                have hpre := hpre c_12
                refine lv_aload_n hx hb dX2_next_137 rfl (lv_at hl 0 rfl) ?_
                refine va_get (D := (dC, dI)) (ci := 1) (v := .int cr_size_j_11) (C := RX2) (T := TX2) (N := 7) hx hb hts iw_X2_next_X2 hown hK hP 7 rfl rfl 5 (by decide) (hts (.fieldLink RX2 36 "PlaneBlocks$CodedReader" "size" "I") (by decide +kernel)) (fun _ h9 => h9) rfl dX2_next_138 ?_
                refine lv_ldc (v := 32768) hx hb hown (hts (.constant RX2 35 (32768)) (by decide +kernel)) dX2_next_141 ?_
                refine lv_icmp_ge (tgt := 193) hx hb dX2_next_143 (by decide) (fun c_13 => ?_) (fun c_13 => ?_)
                · rw [if_pos c_13] at hg
                  exact hJ_j_11 _ _ _ _ (by rw [← hg]; exact hP) (by rw [← hg]; exact hD) hS (by rw [← hg]; exact lv_sub hl [0, 1, 2, 3, 4, 5, 6] rfl) (by rw [Nat.add_assoc, ← hE2]; exact hC)
                · rw [if_neg c_13] at hg
                  have hpre := hpre c_13
                  refine lv_aload_n hx hb dX2_next_146 rfl (lv_at hl 0 rfl) ?_
                  refine va_get (D := (dC, dI)) (ci := 1) (v := .int cr_room_j_11) (C := RX2) (T := TX2) (N := 7) hx hb hts iw_X2_next_X2 hown hK hP 7 rfl rfl 6 (by decide) (hts (.fieldLink RX2 42 "PlaneBlocks$CodedReader" "room" "I") (by decide +kernel)) (fun _ h9 => h9) rfl dX2_next_147 ?_
                  obtain ⟨j_16, hj_16⟩ : ∃ z, J_N2_j_16 row_count bytes_f cr_end cr_place_j_11 cr_window_j_11 cr_room_j_11 = z := ⟨_, rfl⟩
                  have hg : (L_N2_j_11 row_count bytes_f cr_end n (v6_j_11 + (1 : Int32)) j_16.1 (j_16.2.1 * (2 : Int32)) (cr_size_j_11 * (2 : Int32)) (j_16.2.2 - (1 : Int32))) = j_11 := by first | (rw [hj_16] at hg; exact hg) | (subst hj_16; exact hg)
                  have hJ_j_16 : ∀ (k : Nat) (H : Heap) (locs : List Loc) (ls : Array Slot), va_P (dC, dI) vwCl (wd_row_bytes_ctx_states_likely_cw_rw_cr_rr cI a_row a_bytes a_ctx a_states a_likely a_cw a_rw a_cr a_rr row_count row_start bytes_n bytes_f states_n j_10.1 likely_n j_10.2 cw_low cw_size cw_room rw_free j_16.1 cr_end j_16.2.1 cr_size_j_11 j_16.2.2 rr_place rr_end rr_current rr_left) H → va_D A (wd_row_bytes_ctx_states_likely_cw_rw_cr_rr cI a_row a_bytes a_ctx a_states a_likely a_cw a_rw a_cr a_rr row_count row_start bytes_n bytes_f states_n j_10.1 likely_n j_10.2 cw_low cw_size cw_room rw_free j_16.1 cr_end j_16.2.1 cr_size_j_11 j_16.2.2 rr_place rr_end rr_current rr_left) → va_S A s.heap H locs → lv_has ls 7 [(0, .ref a_cr), (1, .int p1), (2, .int p2), (3, .int r_1), (4, .int r_2), (5, .int j_6), (6, .int v6_j_11)] → k + (0) + E2 ≤ Dt → W p l e (headSpec wsX2_next (rm_N2 Dt)).room s m ([.ref a_cr, .int p1, .int p2] : List Value).toArray below meth c H locs k k Q (F0 m 157 ls []) := by
                    intro k H locs ls hP hD hS hl hC
                    have hpre := hpre.2 j_16 hj_16
                    refine lv_aload_n hx hb dX2_next_157 rfl (lv_at hl 0 rfl) ?_
                    refine lv_dup hx hb dX2_next_158 rfl ?_
                    refine va_get (D := (dC, dI)) (ci := 1) (v := .int cr_size_j_11) (C := RX2) (T := TX2) (N := 7) hx hb hts iw_X2_next_X2 hown hK hP 7 rfl rfl 5 (by decide) (hts (.fieldLink RX2 36 "PlaneBlocks$CodedReader" "size" "I") (by decide +kernel)) (fun _ h9 => h9) rfl dX2_next_159 ?_
                    refine lv_iconst (v := 2) hx hb dX2_next_162 (by decide) ?_
                    refine lv_imul hx hb dX2_next_163 ?_
                    refine va_put (D := (dC, dI)) (ci := 1) (v := .int (cr_size_j_11 * (2 : Int32))) (ty := .int) (C := RX2) (T := TX2) (N := 7) hx hb hts iw_X2_next_X2 tyX2 tyX2_ok nmX2 hown hK hP hD hS 7 rfl rfl 5 (by decide) (hts (.fieldLink RX2 36 "PlaneBlocks$CodedReader" "size" "I") (by decide +kernel)) (fun _ h9 => h9) rfl (by decide +kernel) rfl rfl (Nat.le_of_ble_eq_true rfl) dX2_next_164 (fun H locs hP hD hS => ?_)
                    have hP : va_P (dC, dI) vwCl (wd_row_bytes_ctx_states_likely_cw_rw_cr_rr cI a_row a_bytes a_ctx a_states a_likely a_cw a_rw a_cr a_rr row_count row_start bytes_n bytes_f states_n j_10.1 likely_n j_10.2 cw_low cw_size cw_room rw_free j_16.1 cr_end j_16.2.1 (cr_size_j_11 * (2 : Int32)) j_16.2.2 rr_place rr_end rr_current rr_left) H := hP
                    have hD : va_D A (wd_row_bytes_ctx_states_likely_cw_rw_cr_rr cI a_row a_bytes a_ctx a_states a_likely a_cw a_rw a_cr a_rr row_count row_start bytes_n bytes_f states_n j_10.1 likely_n j_10.2 cw_low cw_size cw_room rw_free j_16.1 cr_end j_16.2.1 (cr_size_j_11 * (2 : Int32)) j_16.2.2 rr_place rr_end rr_current rr_left) := hD
                    refine lv_aload_n hx hb dX2_next_167 rfl (lv_at hl 0 rfl) ?_
                    refine lv_dup hx hb dX2_next_168 rfl ?_
                    refine va_get (D := (dC, dI)) (ci := 1) (v := .int j_16.2.1) (C := RX2) (T := TX2) (N := 7) hx hb hts iw_X2_next_X2 hown hK hP 7 rfl rfl 4 (by decide) (hts (.fieldLink RX2 32 "PlaneBlocks$CodedReader" "window" "I") (by decide +kernel)) (fun _ h9 => h9) rfl dX2_next_169 ?_
                    refine lv_iconst (v := 2) hx hb dX2_next_172 (by decide) ?_
                    refine lv_imul hx hb dX2_next_173 ?_
                    refine va_put (D := (dC, dI)) (ci := 1) (v := .int (j_16.2.1 * (2 : Int32))) (ty := .int) (C := RX2) (T := TX2) (N := 7) hx hb hts iw_X2_next_X2 tyX2 tyX2_ok nmX2 hown hK hP hD hS 7 rfl rfl 4 (by decide) (hts (.fieldLink RX2 32 "PlaneBlocks$CodedReader" "window" "I") (by decide +kernel)) (fun _ h9 => h9) rfl (by decide +kernel) rfl rfl (Nat.le_of_ble_eq_true rfl) dX2_next_174 (fun H locs hP hD hS => ?_)
                    have hP : va_P (dC, dI) vwCl (wd_row_bytes_ctx_states_likely_cw_rw_cr_rr cI a_row a_bytes a_ctx a_states a_likely a_cw a_rw a_cr a_rr row_count row_start bytes_n bytes_f states_n j_10.1 likely_n j_10.2 cw_low cw_size cw_room rw_free j_16.1 cr_end (j_16.2.1 * (2 : Int32)) (cr_size_j_11 * (2 : Int32)) j_16.2.2 rr_place rr_end rr_current rr_left) H := hP
                    have hD : va_D A (wd_row_bytes_ctx_states_likely_cw_rw_cr_rr cI a_row a_bytes a_ctx a_states a_likely a_cw a_rw a_cr a_rr row_count row_start bytes_n bytes_f states_n j_10.1 likely_n j_10.2 cw_low cw_size cw_room rw_free j_16.1 cr_end (j_16.2.1 * (2 : Int32)) (cr_size_j_11 * (2 : Int32)) j_16.2.2 rr_place rr_end rr_current rr_left) := hD
                    refine lv_aload_n hx hb dX2_next_177 rfl (lv_at hl 0 rfl) ?_
                    refine lv_dup hx hb dX2_next_178 rfl ?_
                    refine va_get (D := (dC, dI)) (ci := 1) (v := .int j_16.2.2) (C := RX2) (T := TX2) (N := 7) hx hb hts iw_X2_next_X2 hown hK hP 7 rfl rfl 6 (by decide) (hts (.fieldLink RX2 42 "PlaneBlocks$CodedReader" "room" "I") (by decide +kernel)) (fun _ h9 => h9) rfl dX2_next_179 ?_
                    refine lv_iconst (v := 1) hx hb dX2_next_182 (by decide) ?_
                    refine lv_isub hx hb dX2_next_183 ?_
                    refine va_put (D := (dC, dI)) (ci := 1) (v := .int (j_16.2.2 - (1 : Int32))) (ty := .int) (C := RX2) (T := TX2) (N := 7) hx hb hts iw_X2_next_X2 tyX2 tyX2_ok nmX2 hown hK hP hD hS 7 rfl rfl 6 (by decide) (hts (.fieldLink RX2 42 "PlaneBlocks$CodedReader" "room" "I") (by decide +kernel)) (fun _ h9 => h9) rfl (by decide +kernel) rfl rfl (Nat.le_of_ble_eq_true rfl) dX2_next_184 (fun H locs hP hD hS => ?_)
                    have hP : va_P (dC, dI) vwCl (wd_row_bytes_ctx_states_likely_cw_rw_cr_rr cI a_row a_bytes a_ctx a_states a_likely a_cw a_rw a_cr a_rr row_count row_start bytes_n bytes_f states_n j_10.1 likely_n j_10.2 cw_low cw_size cw_room rw_free j_16.1 cr_end (j_16.2.1 * (2 : Int32)) (cr_size_j_11 * (2 : Int32)) (j_16.2.2 - (1 : Int32)) rr_place rr_end rr_current rr_left) H := hP
                    have hD : va_D A (wd_row_bytes_ctx_states_likely_cw_rw_cr_rr cI a_row a_bytes a_ctx a_states a_likely a_cw a_rw a_cr a_rr row_count row_start bytes_n bytes_f states_n j_10.1 likely_n j_10.2 cw_low cw_size cw_room rw_free j_16.1 cr_end (j_16.2.1 * (2 : Int32)) (cr_size_j_11 * (2 : Int32)) (j_16.2.2 - (1 : Int32)) rr_place rr_end rr_current rr_left) := hD
                    refine lv_iinc (v := (v6_j_11 + (1 : Int32))) (lv' := [(6, .int (v6_j_11 + (1 : Int32))), (0, .ref a_cr), (1, .int p1), (2, .int p2), (3, .int r_1), (4, .int r_2), (5, .int j_6)]) hx hb dX2_next_187 hl (k := 6) rfl rfl (by decide) rfl (fun ls hl => ?_)
                    refine lv_goto (tgt := 130) hx hb dX2_next_190 (by decide) ?_
                    exact ih (v6_j_11 + (1 : Int32)) j_16.1 (j_16.2.1 * (2 : Int32)) (cr_size_j_11 * (2 : Int32)) (j_16.2.2 - (1 : Int32)) k _ _ _ hpre hg hP hD hS (lv_sub hl [1, 2, 3, 4, 5, 6, 0] rfl) hC
                  have hpre := hpre.1
                  obtain ⟨E2, hE2⟩ : ∃ z : Nat, z = (0) + E2 := ⟨_, rfl⟩
                  have hC : k + 0 + E2 ≤ Dt := by rw [hE2]; exact add40 hC
                  unfold PJ_N2_j_16 at hpre
                  have hg : (if cr_room_j_11 = (0 : Int32) then (let r_15 := F_X2_byteIn row_count bytes_f cr_place_j_11 cr_end cr_window_j_11; (r_15.1, r_15.2.1, r_15.2.2)) else (cr_place_j_11, cr_window_j_11, cr_room_j_11)) = j_16 := by rw [← hj_16]; rfl
                  clear hj_16
                  refine lv_if_ne (tgt := 157) hx hb dX2_next_150 (by decide) (fun c_14 => ?_) (fun c_14 => ?_)
                  · rw [if_neg c_14] at hg
                    exact hJ_j_16 _ _ _ _ (by rw [← hg]; exact hP) (by rw [← hg]; exact hD) hS (lv_sub hl [0, 1, 2, 3, 4, 5, 6] rfl) (by rw [Nat.add_assoc, ← hE2]; exact hC)
                  · rw [if_pos c_14] at hg
                    have hpre := hpre c_14
                    refine lv_aload_n hx hb dX2_next_153 rfl (lv_at hl 0 rfl) ?_
                    have hPc := hP.sub (ws' := (wd_row_bytes_cr cI a_row a_bytes a_cr a_ctx row_count row_start bytes_n bytes_f cr_place_j_11 cr_end cr_window_j_11 cr_size_j_11 cr_room_j_11)) [0, 1, 7] rfl
                    have hDc := hD.sub (ws' := (wd_row_bytes_cr cI a_row a_bytes a_cr a_ctx row_count row_start bytes_n bytes_f cr_place_j_11 cr_end cr_window_j_11 cr_size_j_11 cr_room_j_11)) [0, 1, 7] (by decide) rfl
                    have hFc := va_free (wc := (wd_row_bytes_cr cI a_row a_bytes a_cr a_ctx row_count row_start bytes_n bytes_f cr_place_j_11 cr_end cr_window_j_11 cr_size_j_11 cr_room_j_11)) hD hS hA [0, 1, 7] rfl
                    refine va_callv (va_runV (As := []) (rest := []) ⟨hx, hb, hml, hown, hts⟩ (c_X2_byteIn l dC dI cI cJ cZ a_row a_bytes a_cr a_ctx H.size row_count row_start bytes_n bytes_f cr_place_j_11 cr_end cr_window_j_11 cr_size_j_11 cr_room_j_11 hpre) (cwV 0 hts gX2_next_X2_byteIn rfl rfl rfl (by decide +kernel) ⟨Nat.le_of_ble_eq_true rfl, Nat.le_of_ble_eq_true rfl⟩) ⟨fun a U g mk q => by obtain ⟨q0, q1, qP, qK, qD⟩ := q; exact ⟨q0, q1, qP, va_K.moved (u := U) (U := U.calling g mk a) (Vm.Alike.refl U.vm) qK, qD⟩, va_recv hK hPc (ci := 1) (q0 := 2) rfl rfl, fun U hU hW => ⟨rfl, by rw [hU], by rw [hU]; exact hPc, va_K.moved hW.alike hK, hDc.weaken (fun _ _ _ _ => trivial)⟩⟩ rfl rfl hl.1 rfl (lv_room (Nat.le_of_ble_eq_true rfl)) dX2_next_154 ⟨k0_le hC, k0_le hC⟩) hS (fun q _ h => hFc q h) hFc (fun u t H1 locs ht hvm hw hB hz1 hk1 hS => ?_)
                    obtain ⟨hP1, hK1, hD1⟩ := hB
                    rw [ht] at hP1
                    obtain ⟨r_15, hr_15⟩ : ∃ z, F_X2_byteIn row_count bytes_f cr_place_j_11 cr_end cr_window_j_11 = z := ⟨_, rfl⟩
                    try rw [hr_15] at hw
                    try rw [hr_15] at hP1
                    try rw [hr_15] at hD1
                    have hg : (r_15.1, r_15.2.1, r_15.2.2) = j_16 := by first | (rw [hr_15] at hg; exact hg) | (subst hr_15; exact hg)
                    obtain ⟨hP, hD⟩ := va_join (wr := [(a_ctx, .inr (3, [.ref a_states, .ref a_likely])), (a_states, .inl (cI, states_n, .inl j_10.1)), (a_likely, .inl (cI, likely_n, .inl j_10.2)), (a_cw, .inr (2, [.ref a_row, .ref a_ctx, .int cw_low, .int cw_size, .int cw_room])), (a_rw, .inr (7, [.ref a_row, .int rw_free])), (a_rr, .inr (6, [.ref a_row, .int rr_place, .int rr_end, .int rr_current, .int rr_left]))]) (w1 := (wd_row_bytes_cr cI a_row a_bytes a_cr a_ctx row_count row_start bytes_n bytes_f r_15.1 cr_end r_15.2.1 cr_size_j_11 r_15.2.2)) hP hD [0, 1, 7] [2, 3, 4, 5, 6, 8] rfl rfl (by decide) (by decide) hk1 hFc hP1 hD1
                    have hP : va_P (dC, dI) vwCl (wd_row_bytes_ctx_states_likely_cw_rw_cr_rr cI a_row a_bytes a_ctx a_states a_likely a_cw a_rw a_cr a_rr row_count row_start bytes_n bytes_f states_n j_10.1 likely_n j_10.2 cw_low cw_size cw_room rw_free r_15.1 cr_end r_15.2.1 cr_size_j_11 r_15.2.2 rr_place rr_end rr_current rr_left) H1 := hP.sub [6, 7, 0, 1, 2, 3, 4, 8, 5] rfl
                    have hD : va_D A (wd_row_bytes_ctx_states_likely_cw_rw_cr_rr cI a_row a_bytes a_ctx a_states a_likely a_cw a_rw a_cr a_rr row_count row_start bytes_n bytes_f states_n j_10.1 likely_n j_10.2 cw_low cw_size cw_room rw_free r_15.1 cr_end r_15.2.1 cr_size_j_11 r_15.2.2 rr_place rr_end rr_current rr_left) := hD.sub [6, 7, 0, 1, 2, 3, 4, 8, 5] (by decide) rfl
                    generalize H1 = H at hP hS ⊢
                    exact hJ_j_16 _ _ _ _ (by rw [← hg]; exact hP) (by rw [← hg]; exact hD) hS (lv_sub hl [0, 1, 2, 3, 4, 5, 6] rfl) (by rw [Nat.add_assoc, ← hE2]; exact hC)
          exact hL_j_11 fu (0 : Int32) cr_place (cr_window - (r_1 <<< ((16 : Int32) &&& 31))) (cr_size - r_1) cr_room k _ _ _ hpre hj_11 hP hD hS (lv_sub hl [1, 2, 3, 4, 5, 6, 0] rfl) hC
        have hpre := hpre.1
        obtain ⟨E2, hE2⟩ : ∃ z : Nat, z = (0) + E := ⟨_, rfl⟩
        have hC : k + 0 + E2 ≤ Dt := by rw [hE2]; exact add40 hC
        unfold PJ_N2_j_10 at hpre
        have hg : (if j_6 = (0 : Int32) then (let r_8 := F_X4_otherCame p2 states_f likely_f; (r_8.1, r_8.2)) else (let r_9 := F_X4_likelyCame p2 states_f; (r_9, likely_f))) = j_10 := by rw [← hj_10]; rfl
        clear hj_10
        refine lv_if_eq (tgt := 119) hx hb dX2_next_105 (by decide) (fun c_7 => ?_) (fun c_7 => ?_)
        · rw [if_pos c_7] at hg
          have hpre := hpre.1 c_7
          refine lv_aload_n hx hb dX2_next_119 rfl (lv_at hl 1 rfl) ?_
          refine va_get (D := (dC, dI)) (ci := 1) (v := .ref a_ctx) (C := RX2) (T := TX2) (N := 7) hx hb hts iw_X2_next_X2 hown hK hP 7 rfl rfl 1 (by decide) (hts (.fieldLink RX2 15 "PlaneBlocks$CodedReader" "contexts" "LPlaneBlocks$Contexts;") (by decide +kernel)) (fun _ h9 => h9) rfl dX2_next_120 ?_
          refine lv_iload_n hx hb dX2_next_123 rfl (lv_at hl 3 rfl) ?_
          have hPc := hP.sub (ws' := (wd_ctx_states_likely cI a_ctx a_states a_likely states_n states_f likely_n likely_f)) [2, 3, 4] rfl
          have hDc := hD.sub (ws' := (wd_ctx_states_likely cI a_ctx a_states a_likely states_n states_f likely_n likely_f)) [2, 3, 4] (by decide) rfl
          have hFc := va_free (wc := (wd_ctx_states_likely cI a_ctx a_states a_likely states_n states_f likely_n likely_f)) hD hS hA [2, 3, 4] rfl
          refine va_callv (va_runV (As := [.int p2]) (rest := []) ⟨hx, hb, hml, hown, hts⟩ (c_X4_otherCame l dC dI cI cJ cZ tP tN tO a_ctx a_states a_likely H.size states_n states_f likely_n likely_f p2 hpre) (cwV 1 hts gX2_next_X4_otherCame rfl rfl rfl (by decide +kernel) ⟨Nat.le_of_ble_eq_true rfl, Nat.le_of_ble_eq_true rfl⟩) ⟨fun a U g mk q => by obtain ⟨q0, q1, qP, qK, qD, qZ⟩ := q; exact ⟨q0, q1, qP, va_K.moved (u := U) (U := U.calling g mk a) (Vm.Alike.refl U.vm) qK, qD, Zs.moved (u := U) (U := U.calling g mk a) (Vm.Alike.refl U.vm) qZ⟩, va_recv hK hPc (ci := 3) (q0 := 0) rfl rfl, fun U hU hW => ⟨rfl, by rw [hU], by rw [hU]; exact hPc, va_K.moved hW.alike hK, hDc.weaken (fun _ _ _ _ => trivial), by rw [hU]; exact (((hZ.kept hS.2.1).narrow hFc).moved hW.alike)⟩⟩ rfl rfl hl.1 rfl (lv_room (Nat.le_of_ble_eq_true rfl)) dX2_next_124 ⟨k0_le hC, k0_le hC⟩) hS (fun q _ h => hFc q h) hFc (fun u t H1 locs ht hvm hw hB hz1 hk1 hS => ?_)
          obtain ⟨hP1, hK1, hD1⟩ := hB
          rw [ht] at hP1
          obtain ⟨r_8, hr_8⟩ : ∃ z, F_X4_otherCame p2 states_f likely_f = z := ⟨_, rfl⟩
          try rw [hr_8] at hw
          try rw [hr_8] at hP1
          try rw [hr_8] at hD1
          have hg : (r_8.1, r_8.2) = j_10 := by first | (rw [hr_8] at hg; exact hg) | (subst hr_8; exact hg)
          obtain ⟨hP, hD⟩ := va_join (wr := [(a_row, .inr (0, [.ref a_bytes, .int row_count, .int row_start])), (a_bytes, .inl (cI, bytes_n, .inl bytes_f)), (a_cw, .inr (2, [.ref a_row, .ref a_ctx, .int cw_low, .int cw_size, .int cw_room])), (a_rw, .inr (7, [.ref a_row, .int rw_free])), (a_cr, .inr (1, [.ref a_row, .ref a_ctx, .int cr_place, .int cr_end, .int (cr_window - (r_1 <<< ((16 : Int32) &&& 31))), .int (cr_size - r_1), .int cr_room])), (a_rr, .inr (6, [.ref a_row, .int rr_place, .int rr_end, .int rr_current, .int rr_left]))]) (w1 := (wd_ctx_states_likely cI a_ctx a_states a_likely states_n r_8.1 likely_n r_8.2)) hP hD [2, 3, 4] [0, 1, 5, 6, 7, 8] rfl rfl (by decide) (by decide) hk1 hFc hP1 hD1
          have hP : va_P (dC, dI) vwCl (wd_row_bytes_ctx_states_likely_cw_rw_cr_rr cI a_row a_bytes a_ctx a_states a_likely a_cw a_rw a_cr a_rr row_count row_start bytes_n bytes_f states_n r_8.1 likely_n r_8.2 cw_low cw_size cw_room rw_free cr_place cr_end (cr_window - (r_1 <<< ((16 : Int32) &&& 31))) (cr_size - r_1) cr_room rr_place rr_end rr_current rr_left) H1 := hP.sub [0, 1, 6, 7, 8, 2, 3, 4, 5] rfl
          have hD : va_D A (wd_row_bytes_ctx_states_likely_cw_rw_cr_rr cI a_row a_bytes a_ctx a_states a_likely a_cw a_rw a_cr a_rr row_count row_start bytes_n bytes_f states_n r_8.1 likely_n r_8.2 cw_low cw_size cw_room rw_free cr_place cr_end (cr_window - (r_1 <<< ((16 : Int32) &&& 31))) (cr_size - r_1) cr_room rr_place rr_end rr_current rr_left) := hD.sub [0, 1, 6, 7, 8, 2, 3, 4, 5] (by decide) rfl
          generalize H1 = H at hP hS ⊢
          exact hJ_j_10 _ _ _ _ (by rw [← hg]; exact hP) (by rw [← hg]; exact hD) hS (lv_sub hl [1, 2, 3, 4, 5, 0] rfl) (by rw [Nat.add_assoc, ← hE2]; exact hC)
        · rw [if_neg c_7] at hg
          have hpre := hpre.2 c_7
          refine lv_aload_n hx hb dX2_next_108 rfl (lv_at hl 1 rfl) ?_
          refine va_get (D := (dC, dI)) (ci := 1) (v := .ref a_ctx) (C := RX2) (T := TX2) (N := 7) hx hb hts iw_X2_next_X2 hown hK hP 7 rfl rfl 1 (by decide) (hts (.fieldLink RX2 15 "PlaneBlocks$CodedReader" "contexts" "LPlaneBlocks$Contexts;") (by decide +kernel)) (fun _ h9 => h9) rfl dX2_next_109 ?_
          refine lv_iload_n hx hb dX2_next_112 rfl (lv_at hl 3 rfl) ?_
          have hPc := hP.sub (ws' := (wd_ctx_states cI a_ctx a_states a_likely states_n states_f)) [2, 3] rfl
          have hDc := hD.sub (ws' := (wd_ctx_states cI a_ctx a_states a_likely states_n states_f)) [2, 3] (by decide) rfl
          have hFc := va_free (wc := (wd_ctx_states cI a_ctx a_states a_likely states_n states_f)) hD hS hA [2, 3] rfl
          refine va_callv (va_runV (As := [.int p2]) (rest := []) ⟨hx, hb, hml, hown, hts⟩ (c_X4_likelyCame l dC dI cI cJ cZ tP tN tO a_ctx a_states a_likely H.size states_n states_f p2 hpre) (cwV 1 hts gX2_next_X4_likelyCame rfl rfl rfl (by decide +kernel) ⟨Nat.le_of_ble_eq_true rfl, Nat.le_of_ble_eq_true rfl⟩) ⟨fun a U g mk q => by obtain ⟨q0, q1, qP, qK, qD, qZ⟩ := q; exact ⟨q0, q1, qP, va_K.moved (u := U) (U := U.calling g mk a) (Vm.Alike.refl U.vm) qK, qD, Zs.moved (u := U) (U := U.calling g mk a) (Vm.Alike.refl U.vm) qZ⟩, va_recv hK hPc (ci := 3) (q0 := 0) rfl rfl, fun U hU hW => ⟨rfl, by rw [hU], by rw [hU]; exact hPc, va_K.moved hW.alike hK, hDc.weaken (fun _ _ _ _ => trivial), by rw [hU]; exact (((hZ.kept hS.2.1).narrow hFc).moved hW.alike)⟩⟩ rfl rfl hl.1 rfl (lv_room (Nat.le_of_ble_eq_true rfl)) dX2_next_113 ⟨k0_le hC, k0_le hC⟩) hS (fun q _ h => hFc q h) hFc (fun u t H1 locs ht hvm hw hB hz1 hk1 hS => ?_)
          obtain ⟨hP1, hK1, hD1⟩ := hB
          rw [ht] at hP1
          obtain ⟨r_9, hr_9⟩ : ∃ z, F_X4_likelyCame p2 states_f = z := ⟨_, rfl⟩
          try rw [hr_9] at hw
          try rw [hr_9] at hP1
          try rw [hr_9] at hD1
          have hg : (r_9, likely_f) = j_10 := by first | (rw [hr_9] at hg; exact hg) | (subst hr_9; exact hg)
          obtain ⟨hP, hD⟩ := va_join (wr := [(a_row, .inr (0, [.ref a_bytes, .int row_count, .int row_start])), (a_bytes, .inl (cI, bytes_n, .inl bytes_f)), (a_likely, .inl (cI, likely_n, .inl likely_f)), (a_cw, .inr (2, [.ref a_row, .ref a_ctx, .int cw_low, .int cw_size, .int cw_room])), (a_rw, .inr (7, [.ref a_row, .int rw_free])), (a_cr, .inr (1, [.ref a_row, .ref a_ctx, .int cr_place, .int cr_end, .int (cr_window - (r_1 <<< ((16 : Int32) &&& 31))), .int (cr_size - r_1), .int cr_room])), (a_rr, .inr (6, [.ref a_row, .int rr_place, .int rr_end, .int rr_current, .int rr_left]))]) (w1 := (wd_ctx_states cI a_ctx a_states a_likely states_n r_9)) hP hD [2, 3] [0, 1, 4, 5, 6, 7, 8] rfl rfl (by decide) (by decide) hk1 hFc hP1 hD1
          have hP : va_P (dC, dI) vwCl (wd_row_bytes_ctx_states_likely_cw_rw_cr_rr cI a_row a_bytes a_ctx a_states a_likely a_cw a_rw a_cr a_rr row_count row_start bytes_n bytes_f states_n r_9 likely_n likely_f cw_low cw_size cw_room rw_free cr_place cr_end (cr_window - (r_1 <<< ((16 : Int32) &&& 31))) (cr_size - r_1) cr_room rr_place rr_end rr_current rr_left) H1 := hP.sub [0, 1, 7, 8, 2, 3, 4, 5, 6] rfl
          have hD : va_D A (wd_row_bytes_ctx_states_likely_cw_rw_cr_rr cI a_row a_bytes a_ctx a_states a_likely a_cw a_rw a_cr a_rr row_count row_start bytes_n bytes_f states_n r_9 likely_n likely_f cw_low cw_size cw_room rw_free cr_place cr_end (cr_window - (r_1 <<< ((16 : Int32) &&& 31))) (cr_size - r_1) cr_room rr_place rr_end rr_current rr_left) := hD.sub [0, 1, 7, 8, 2, 3, 4, 5, 6] (by decide) rfl
          generalize H1 = H at hP hS ⊢
          refine lv_goto (tgt := 127) hx hb dX2_next_116 (by decide) ?_
          exact hJ_j_10 _ _ _ _ (by rw [← hg]; exact hP) (by rw [← hg]; exact hD) hS (lv_sub hl [1, 2, 3, 4, 5, 0] rfl) (by rw [Nat.add_assoc, ← hE2]; exact hC)
      obtain ⟨E2, hE2⟩ : ∃ z : Nat, z = (0) + E := ⟨_, rfl⟩
      have hC : k + 0 + E2 ≤ Dt := by rw [hE2]; exact add40 hC
      have hg : (if (cr_size - r_1) < r_1 then (0 : Int32) else (1 : Int32)) = j_6 := by rw [← hj_6]; rfl
      clear hj_6
      refine lv_icmp_lt (tgt := 100) hx hb dX2_next_93 (by decide) (fun c_5 => ?_) (fun c_5 => ?_)
      · rw [if_pos c_5] at hg
        refine lv_iconst (v := 0) hx hb dX2_next_100 (by decide) ?_
        rw [← hg] at hJ_j_6
        try rw [← hg] at hE2
        exact hJ_j_6 _ _ _ _ hP hD hS (lv_sub hl [2, 3, 4, 1, 0] rfl) (by rw [Nat.add_assoc, ← hE2]; exact hC)
      · rw [if_neg c_5] at hg
        refine lv_iconst (v := 1) hx hb dX2_next_96 (by decide) ?_
        refine lv_goto (tgt := 101) hx hb dX2_next_97 (by decide) ?_
        rw [← hg] at hJ_j_6
        try rw [← hg] at hE2
        exact hJ_j_6 _ _ _ _ hP hD hS (lv_sub hl [2, 3, 4, 1, 0] rfl) (by rw [Nat.add_assoc, ← hE2]; exact hC)
    · rw [if_neg c_4] at hg
      refine lv_iload hx hb dX2_next_85 (lv_at hl 0 rfl) ?_
      subst hg
      refine W.widen (k := Dt) (n := Dt) (k0_le hC) (k0_le hC) ?_
      rw [← hQe]
      exact W.iret (v := r_2) hx hb hr (fun t ht hW => ⟨⟨r_2, a_bytes, rfl, rfl, by rw [ht]; exact hP, va_K.moved hW.alike hK, hD⟩, hS.F ht⟩) hS.2.2 dX2_next_87
  · rw [if_neg c_3] at hg
    have hpre := hpre.2 c_3
    refine lv_aload_n hx hb dX2_next_40 rfl (lv_at hl 2 rfl) ?_
    refine va_get (D := (dC, dI)) (ci := 1) (v := .int (cr_size - r_1)) (C := RX2) (T := TX2) (N := 7) hx hb hts iw_X2_next_X2 hown hK hP 7 rfl rfl 5 (by decide) (hts (.fieldLink RX2 36 "PlaneBlocks$CodedReader" "size" "I") (by decide +kernel)) (fun _ h9 => h9) rfl dX2_next_41 ?_
    refine lv_iload_n hx hb dX2_next_44 rfl (lv_at hl 1 rfl) ?_
    obtain ⟨j_19, hj_19⟩ : ∃ z, J_N2_j_19 cr_size r_1 = z := ⟨_, rfl⟩
    have hg : (let j_23 := J_N2_j_23 p2 states_f likely_f j_19; let j_24 := L_N2_j_24 row_count bytes_f cr_end fu (0 : Int32) cr_place cr_window r_1 cr_room; if j_19 = (0 : Int32) then ((1 : Int32) - r_2, row_count, bytes_n, bytes_f, j_23.1, j_23.2, cw_low, cw_size, cw_room, rw_free, j_24.2.1, j_24.2.2.1, j_24.2.2.2.1, j_24.2.2.2.2, rr_place, rr_current, rr_left) else (r_2, row_count, bytes_n, bytes_f, j_23.1, j_23.2, cw_low, cw_size, cw_room, rw_free, j_24.2.1, j_24.2.2.1, j_24.2.2.2.1, j_24.2.2.2.2, rr_place, rr_current, rr_left)) = g := by first | (rw [hj_19] at hg; exact hg) | (subst hj_19; exact hg)
    have hJ_j_19 : ∀ (k : Nat) (H : Heap) (locs : List Loc) (ls : Array Slot), va_P (dC, dI) vwCl (wd_row_bytes_ctx_states_likely_cw_rw_cr_rr cI a_row a_bytes a_ctx a_states a_likely a_cw a_rw a_cr a_rr row_count row_start bytes_n bytes_f states_n states_f likely_n likely_f cw_low cw_size cw_room rw_free cr_place cr_end cr_window (cr_size - r_1) cr_room rr_place rr_end rr_current rr_left) H → va_D A (wd_row_bytes_ctx_states_likely_cw_rw_cr_rr cI a_row a_bytes a_ctx a_states a_likely a_cw a_rw a_cr a_rr row_count row_start bytes_n bytes_f states_n states_f likely_n likely_f cw_low cw_size cw_room rw_free cr_place cr_end cr_window (cr_size - r_1) cr_room rr_place rr_end rr_current rr_left) → va_S A s.heap H locs → lv_has ls 7 [(0, .ref a_cr), (1, .int p1), (2, .int p2), (3, .int r_1), (4, .int r_2)] → k + (0) + E ≤ Dt → W p l e (headSpec wsX2_next (rm_N2 Dt)).room s m ([.ref a_cr, .int p1, .int p2] : List Value).toArray below meth c H locs k k Q (F0 m 53 ls [.int j_19]) := by
      intro k H locs ls hP hD hS hl hC
      have hpre := hpre j_19 hj_19
      refine lv_istore (lv' := [(5, .int j_19), (0, .ref a_cr), (1, .int p1), (2, .int p2), (3, .int r_1), (4, .int r_2)]) hx hb dX2_next_53 hl (by decide) rfl (fun ls hl => ?_)
      refine lv_aload_n hx hb dX2_next_55 rfl (lv_at hl 1 rfl) ?_
      refine lv_iload_n hx hb dX2_next_56 rfl (lv_at hl 4 rfl) ?_
      refine va_put (D := (dC, dI)) (ci := 1) (v := .int r_1) (ty := .int) (C := RX2) (T := TX2) (N := 7) hx hb hts iw_X2_next_X2 tyX2 tyX2_ok nmX2 hown hK hP hD hS 7 rfl rfl 5 (by decide) (hts (.fieldLink RX2 36 "PlaneBlocks$CodedReader" "size" "I") (by decide +kernel)) (fun _ h9 => h9) rfl (by decide +kernel) rfl rfl (Nat.le_of_ble_eq_true rfl) dX2_next_57 (fun H locs hP hD hS => ?_)
      have hP : va_P (dC, dI) vwCl (wd_row_bytes_ctx_states_likely_cw_rw_cr_rr cI a_row a_bytes a_ctx a_states a_likely a_cw a_rw a_cr a_rr row_count row_start bytes_n bytes_f states_n states_f likely_n likely_f cw_low cw_size cw_room rw_free cr_place cr_end cr_window r_1 cr_room rr_place rr_end rr_current rr_left) H := hP
      have hD : va_D A (wd_row_bytes_ctx_states_likely_cw_rw_cr_rr cI a_row a_bytes a_ctx a_states a_likely a_cw a_rw a_cr a_rr row_count row_start bytes_n bytes_f states_n states_f likely_n likely_f cw_low cw_size cw_room rw_free cr_place cr_end cr_window r_1 cr_room rr_place rr_end rr_current rr_left) := hD
      refine lv_goto (tgt := 103) hx hb dX2_next_60 (by decide) ?_
      refine lv_iload hx hb dX2_next_103 (lv_at hl 0 rfl) ?_
      obtain ⟨j_23, hj_23⟩ : ∃ z, J_N2_j_23 p2 states_f likely_f j_19 = z := ⟨_, rfl⟩
      have hg : (let j_24 := L_N2_j_24 row_count bytes_f cr_end fu (0 : Int32) cr_place cr_window r_1 cr_room; if j_19 = (0 : Int32) then ((1 : Int32) - r_2, row_count, bytes_n, bytes_f, j_23.1, j_23.2, cw_low, cw_size, cw_room, rw_free, j_24.2.1, j_24.2.2.1, j_24.2.2.2.1, j_24.2.2.2.2, rr_place, rr_current, rr_left) else (r_2, row_count, bytes_n, bytes_f, j_23.1, j_23.2, cw_low, cw_size, cw_room, rw_free, j_24.2.1, j_24.2.2.1, j_24.2.2.2.1, j_24.2.2.2.2, rr_place, rr_current, rr_left)) = g := by first | (rw [hj_23] at hg; exact hg) | (subst hj_23; exact hg)
      have hJ_j_23 : ∀ (k : Nat) (H : Heap) (locs : List Loc) (ls : Array Slot), va_P (dC, dI) vwCl (wd_row_bytes_ctx_states_likely_cw_rw_cr_rr cI a_row a_bytes a_ctx a_states a_likely a_cw a_rw a_cr a_rr row_count row_start bytes_n bytes_f states_n j_23.1 likely_n j_23.2 cw_low cw_size cw_room rw_free cr_place cr_end cr_window r_1 cr_room rr_place rr_end rr_current rr_left) H → va_D A (wd_row_bytes_ctx_states_likely_cw_rw_cr_rr cI a_row a_bytes a_ctx a_states a_likely a_cw a_rw a_cr a_rr row_count row_start bytes_n bytes_f states_n j_23.1 likely_n j_23.2 cw_low cw_size cw_room rw_free cr_place cr_end cr_window r_1 cr_room rr_place rr_end rr_current rr_left) → va_S A s.heap H locs → lv_has ls 7 [(0, .ref a_cr), (1, .int p1), (2, .int p2), (3, .int r_1), (4, .int r_2), (5, .int j_19)] → k + (0) + E ≤ Dt → W p l e (headSpec wsX2_next (rm_N2 Dt)).room s m ([.ref a_cr, .int p1, .int p2] : List Value).toArray below meth c H locs k k Q (F0 m 127 ls []) := by
        intro k H locs ls hP hD hS hl hC
        have hpre := hpre.2 j_23 hj_23
        refine lv_iconst (v := 0) hx hb dX2_next_127 (by decide) ?_
        refine lv_istore (lv' := [(6, .int (0 : Int32)), (0, .ref a_cr), (1, .int p1), (2, .int p2), (3, .int r_1), (4, .int r_2), (5, .int j_19)]) hx hb dX2_next_128 hl (by decide) rfl (fun ls hl => ?_)
        obtain ⟨j_24, hj_24⟩ : ∃ z, L_N2_j_24 row_count bytes_f cr_end fu (0 : Int32) cr_place cr_window r_1 cr_room = z := ⟨_, rfl⟩
        have hg : (if j_19 = (0 : Int32) then ((1 : Int32) - r_2, row_count, bytes_n, bytes_f, j_23.1, j_23.2, cw_low, cw_size, cw_room, rw_free, j_24.2.1, j_24.2.2.1, j_24.2.2.2.1, j_24.2.2.2.2, rr_place, rr_current, rr_left) else (r_2, row_count, bytes_n, bytes_f, j_23.1, j_23.2, cw_low, cw_size, cw_room, rw_free, j_24.2.1, j_24.2.2.1, j_24.2.2.2.1, j_24.2.2.2.2, rr_place, rr_current, rr_left)) = g := by first | (rw [hj_24] at hg; exact hg) | (subst hj_24; exact hg)
        have hJ_j_24 : ∀ (k : Nat) (H : Heap) (locs : List Loc) (ls : Array Slot), va_P (dC, dI) vwCl (wd_row_bytes_ctx_states_likely_cw_rw_cr_rr cI a_row a_bytes a_ctx a_states a_likely a_cw a_rw a_cr a_rr row_count row_start bytes_n bytes_f states_n j_23.1 likely_n j_23.2 cw_low cw_size cw_room rw_free j_24.2.1 cr_end j_24.2.2.1 j_24.2.2.2.1 j_24.2.2.2.2 rr_place rr_end rr_current rr_left) H → va_D A (wd_row_bytes_ctx_states_likely_cw_rw_cr_rr cI a_row a_bytes a_ctx a_states a_likely a_cw a_rw a_cr a_rr row_count row_start bytes_n bytes_f states_n j_23.1 likely_n j_23.2 cw_low cw_size cw_room rw_free j_24.2.1 cr_end j_24.2.2.1 j_24.2.2.2.1 j_24.2.2.2.2 rr_place rr_end rr_current rr_left) → va_S A s.heap H locs → lv_has ls 7 [(0, .ref a_cr), (1, .int p1), (2, .int p2), (3, .int r_1), (4, .int r_2), (5, .int j_19), (6, .int j_24.1)] → k + (0) + E ≤ Dt → W p l e (headSpec wsX2_next (rm_N2 Dt)).room s m ([.ref a_cr, .int p1, .int p2] : List Value).toArray below meth c H locs k k Q (F0 m 193 ls []) := by
          intro k H locs ls hP hD hS hl hC
          refine lv_iload hx hb dX2_next_193 (lv_at hl 5 rfl) ?_
          refine lv_if_eq (tgt := 203) hx hb dX2_next_195 (by decide) (fun c_30 => ?_) (fun c_30 => ?_)
          · rw [if_pos c_30] at hg
            refine lv_iconst (v := 1) hx hb dX2_next_203 (by decide) ?_
            refine lv_iload hx hb dX2_next_204 (lv_at hl 4 rfl) ?_
            refine lv_isub hx hb dX2_next_206 ?_
            subst hg
            refine W.widen (k := Dt) (n := Dt) (k0_le hC) (k0_le hC) ?_
            rw [← hQe]
            exact W.iret (v := ((1 : Int32) - r_2)) hx hb hr (fun t ht hW => ⟨⟨((1 : Int32) - r_2), a_bytes, rfl, rfl, by rw [ht]; exact hP, va_K.moved hW.alike hK, hD⟩, hS.F ht⟩) hS.2.2 dX2_next_207
          · rw [if_neg c_30] at hg
            refine lv_iload hx hb dX2_next_198 (lv_at hl 4 rfl) ?_
            refine lv_goto (tgt := 207) hx hb dX2_next_200 (by decide) ?_
            subst hg
            refine W.widen (k := Dt) (n := Dt) (k0_le hC) (k0_le hC) ?_
            rw [← hQe]
            exact W.iret (v := r_2) hx hb hr (fun t ht hW => ⟨⟨r_2, a_bytes, rfl, rfl, by rw [ht]; exact hP, va_K.moved hW.alike hK, hD⟩, hS.F ht⟩) hS.2.2 dX2_next_207
        obtain ⟨E2, hE2⟩ : ∃ z : Nat, z = (0) + E := ⟨_, rfl⟩
        have hC : k + 0 + E2 ≤ Dt := by rw [hE2]; exact add40 hC
        have hL_j_24 : ∀ (n : Nat) (v6_j_24 : Int32) (cr_place_j_24 : Int32) (cr_window_j_24 : Int32) (cr_size_j_24 : Int32) (cr_room_j_24 : Int32) (k : Nat) (H : Heap) (locs : List Loc) (ls : Array Slot), PL_N2_j_24 row_count bytes_n bytes_f cr_end n v6_j_24 cr_place_j_24 cr_window_j_24 cr_size_j_24 cr_room_j_24 → L_N2_j_24 row_count bytes_f cr_end n v6_j_24 cr_place_j_24 cr_window_j_24 cr_size_j_24 cr_room_j_24 = j_24 → va_P (dC, dI) vwCl (wd_row_bytes_ctx_states_likely_cw_rw_cr_rr cI a_row a_bytes a_ctx a_states a_likely a_cw a_rw a_cr a_rr row_count row_start bytes_n bytes_f states_n j_23.1 likely_n j_23.2 cw_low cw_size cw_room rw_free cr_place_j_24 cr_end cr_window_j_24 cr_size_j_24 cr_room_j_24 rr_place rr_end rr_current rr_left) H → va_D A (wd_row_bytes_ctx_states_likely_cw_rw_cr_rr cI a_row a_bytes a_ctx a_states a_likely a_cw a_rw a_cr a_rr row_count row_start bytes_n bytes_f states_n j_23.1 likely_n j_23.2 cw_low cw_size cw_room rw_free cr_place_j_24 cr_end cr_window_j_24 cr_size_j_24 cr_room_j_24 rr_place rr_end rr_current rr_left) → va_S A s.heap H locs → lv_has ls 7 [(0, .ref a_cr), (1, .int p1), (2, .int p2), (3, .int r_1), (4, .int r_2), (5, .int j_19), (6, .int v6_j_24)] → k + (0) + E2 ≤ Dt → W p l e (headSpec wsX2_next (rm_N2 Dt)).room s m ([.ref a_cr, .int p1, .int p2] : List Value).toArray below meth c H locs k k Q (F0 m 130 ls []) := by
          intro n
          induction n with
          | zero => intro v6_j_24 cr_place_j_24 cr_window_j_24 cr_size_j_24 cr_room_j_24 k H locs ls hpre; exact absurd hpre id
          | succ n ih =>
            intro v6_j_24 cr_place_j_24 cr_window_j_24 cr_size_j_24 cr_room_j_24 k H locs ls hpre hg hP hD hS hl hC
            rw [PL_N2_j_24] at hpre
            rw [L_N2_j_24] at hg
            refine lv_iload hx hb dX2_next_130 (lv_at hl 6 rfl) ?_
            refine lv_bipush (v := 15) hx hb dX2_next_132 (by decide) ?_
            refine lv_icmp_ge (tgt := 193) hx hb dX2_next_134 (by decide) (fun c_25 => ?_) (fun c_25 => ?_)
            · rw [if_pos c_25] at hg
              exact hJ_j_24 _ _ _ _ (by rw [← hg]; exact hP) (by rw [← hg]; exact hD) hS (by rw [← hg]; exact lv_sub hl [0, 1, 2, 3, 4, 5, 6] rfl) (by rw [Nat.add_assoc, ← hE2]; exact hC)
            · rw [if_neg c_25] at hg
              have hpre := hpre c_25
              refine lv_aload_n hx hb dX2_next_137 rfl (lv_at hl 0 rfl) ?_
              refine va_get (D := (dC, dI)) (ci := 1) (v := .int cr_size_j_24) (C := RX2) (T := TX2) (N := 7) hx hb hts iw_X2_next_X2 hown hK hP 7 rfl rfl 5 (by decide) (hts (.fieldLink RX2 36 "PlaneBlocks$CodedReader" "size" "I") (by decide +kernel)) (fun _ h9 => h9) rfl dX2_next_138 ?_
              refine lv_ldc (v := 32768) hx hb hown (hts (.constant RX2 35 (32768)) (by decide +kernel)) dX2_next_141 ?_
              refine lv_icmp_ge (tgt := 193) hx hb dX2_next_143 (by decide) (fun c_26 => ?_) (fun c_26 => ?_)
              · rw [if_pos c_26] at hg
                exact hJ_j_24 _ _ _ _ (by rw [← hg]; exact hP) (by rw [← hg]; exact hD) hS (by rw [← hg]; exact lv_sub hl [0, 1, 2, 3, 4, 5, 6] rfl) (by rw [Nat.add_assoc, ← hE2]; exact hC)
              · rw [if_neg c_26] at hg
                have hpre := hpre c_26
                refine lv_aload_n hx hb dX2_next_146 rfl (lv_at hl 0 rfl) ?_
                refine va_get (D := (dC, dI)) (ci := 1) (v := .int cr_room_j_24) (C := RX2) (T := TX2) (N := 7) hx hb hts iw_X2_next_X2 hown hK hP 7 rfl rfl 6 (by decide) (hts (.fieldLink RX2 42 "PlaneBlocks$CodedReader" "room" "I") (by decide +kernel)) (fun _ h9 => h9) rfl dX2_next_147 ?_
                obtain ⟨j_29, hj_29⟩ : ∃ z, J_N2_j_29 row_count bytes_f cr_end cr_place_j_24 cr_window_j_24 cr_room_j_24 = z := ⟨_, rfl⟩
                have hg : (L_N2_j_24 row_count bytes_f cr_end n (v6_j_24 + (1 : Int32)) j_29.1 (j_29.2.1 * (2 : Int32)) (cr_size_j_24 * (2 : Int32)) (j_29.2.2 - (1 : Int32))) = j_24 := by first | (rw [hj_29] at hg; exact hg) | (subst hj_29; exact hg)
                have hJ_j_29 : ∀ (k : Nat) (H : Heap) (locs : List Loc) (ls : Array Slot), va_P (dC, dI) vwCl (wd_row_bytes_ctx_states_likely_cw_rw_cr_rr cI a_row a_bytes a_ctx a_states a_likely a_cw a_rw a_cr a_rr row_count row_start bytes_n bytes_f states_n j_23.1 likely_n j_23.2 cw_low cw_size cw_room rw_free j_29.1 cr_end j_29.2.1 cr_size_j_24 j_29.2.2 rr_place rr_end rr_current rr_left) H → va_D A (wd_row_bytes_ctx_states_likely_cw_rw_cr_rr cI a_row a_bytes a_ctx a_states a_likely a_cw a_rw a_cr a_rr row_count row_start bytes_n bytes_f states_n j_23.1 likely_n j_23.2 cw_low cw_size cw_room rw_free j_29.1 cr_end j_29.2.1 cr_size_j_24 j_29.2.2 rr_place rr_end rr_current rr_left) → va_S A s.heap H locs → lv_has ls 7 [(0, .ref a_cr), (1, .int p1), (2, .int p2), (3, .int r_1), (4, .int r_2), (5, .int j_19), (6, .int v6_j_24)] → k + (0) + E2 ≤ Dt → W p l e (headSpec wsX2_next (rm_N2 Dt)).room s m ([.ref a_cr, .int p1, .int p2] : List Value).toArray below meth c H locs k k Q (F0 m 157 ls []) := by
                  intro k H locs ls hP hD hS hl hC
                  have hpre := hpre.2 j_29 hj_29
                  refine lv_aload_n hx hb dX2_next_157 rfl (lv_at hl 0 rfl) ?_
                  refine lv_dup hx hb dX2_next_158 rfl ?_
                  refine va_get (D := (dC, dI)) (ci := 1) (v := .int cr_size_j_24) (C := RX2) (T := TX2) (N := 7) hx hb hts iw_X2_next_X2 hown hK hP 7 rfl rfl 5 (by decide) (hts (.fieldLink RX2 36 "PlaneBlocks$CodedReader" "size" "I") (by decide +kernel)) (fun _ h9 => h9) rfl dX2_next_159 ?_
                  refine lv_iconst (v := 2) hx hb dX2_next_162 (by decide) ?_
                  refine lv_imul hx hb dX2_next_163 ?_
                  refine va_put (D := (dC, dI)) (ci := 1) (v := .int (cr_size_j_24 * (2 : Int32))) (ty := .int) (C := RX2) (T := TX2) (N := 7) hx hb hts iw_X2_next_X2 tyX2 tyX2_ok nmX2 hown hK hP hD hS 7 rfl rfl 5 (by decide) (hts (.fieldLink RX2 36 "PlaneBlocks$CodedReader" "size" "I") (by decide +kernel)) (fun _ h9 => h9) rfl (by decide +kernel) rfl rfl (Nat.le_of_ble_eq_true rfl) dX2_next_164 (fun H locs hP hD hS => ?_)
                  have hP : va_P (dC, dI) vwCl (wd_row_bytes_ctx_states_likely_cw_rw_cr_rr cI a_row a_bytes a_ctx a_states a_likely a_cw a_rw a_cr a_rr row_count row_start bytes_n bytes_f states_n j_23.1 likely_n j_23.2 cw_low cw_size cw_room rw_free j_29.1 cr_end j_29.2.1 (cr_size_j_24 * (2 : Int32)) j_29.2.2 rr_place rr_end rr_current rr_left) H := hP
                  have hD : va_D A (wd_row_bytes_ctx_states_likely_cw_rw_cr_rr cI a_row a_bytes a_ctx a_states a_likely a_cw a_rw a_cr a_rr row_count row_start bytes_n bytes_f states_n j_23.1 likely_n j_23.2 cw_low cw_size cw_room rw_free j_29.1 cr_end j_29.2.1 (cr_size_j_24 * (2 : Int32)) j_29.2.2 rr_place rr_end rr_current rr_left) := hD
                  refine lv_aload_n hx hb dX2_next_167 rfl (lv_at hl 0 rfl) ?_
                  refine lv_dup hx hb dX2_next_168 rfl ?_
                  refine va_get (D := (dC, dI)) (ci := 1) (v := .int j_29.2.1) (C := RX2) (T := TX2) (N := 7) hx hb hts iw_X2_next_X2 hown hK hP 7 rfl rfl 4 (by decide) (hts (.fieldLink RX2 32 "PlaneBlocks$CodedReader" "window" "I") (by decide +kernel)) (fun _ h9 => h9) rfl dX2_next_169 ?_
                  refine lv_iconst (v := 2) hx hb dX2_next_172 (by decide) ?_
                  refine lv_imul hx hb dX2_next_173 ?_
                  refine va_put (D := (dC, dI)) (ci := 1) (v := .int (j_29.2.1 * (2 : Int32))) (ty := .int) (C := RX2) (T := TX2) (N := 7) hx hb hts iw_X2_next_X2 tyX2 tyX2_ok nmX2 hown hK hP hD hS 7 rfl rfl 4 (by decide) (hts (.fieldLink RX2 32 "PlaneBlocks$CodedReader" "window" "I") (by decide +kernel)) (fun _ h9 => h9) rfl (by decide +kernel) rfl rfl (Nat.le_of_ble_eq_true rfl) dX2_next_174 (fun H locs hP hD hS => ?_)
                  have hP : va_P (dC, dI) vwCl (wd_row_bytes_ctx_states_likely_cw_rw_cr_rr cI a_row a_bytes a_ctx a_states a_likely a_cw a_rw a_cr a_rr row_count row_start bytes_n bytes_f states_n j_23.1 likely_n j_23.2 cw_low cw_size cw_room rw_free j_29.1 cr_end (j_29.2.1 * (2 : Int32)) (cr_size_j_24 * (2 : Int32)) j_29.2.2 rr_place rr_end rr_current rr_left) H := hP
                  have hD : va_D A (wd_row_bytes_ctx_states_likely_cw_rw_cr_rr cI a_row a_bytes a_ctx a_states a_likely a_cw a_rw a_cr a_rr row_count row_start bytes_n bytes_f states_n j_23.1 likely_n j_23.2 cw_low cw_size cw_room rw_free j_29.1 cr_end (j_29.2.1 * (2 : Int32)) (cr_size_j_24 * (2 : Int32)) j_29.2.2 rr_place rr_end rr_current rr_left) := hD
                  refine lv_aload_n hx hb dX2_next_177 rfl (lv_at hl 0 rfl) ?_
                  refine lv_dup hx hb dX2_next_178 rfl ?_
                  refine va_get (D := (dC, dI)) (ci := 1) (v := .int j_29.2.2) (C := RX2) (T := TX2) (N := 7) hx hb hts iw_X2_next_X2 hown hK hP 7 rfl rfl 6 (by decide) (hts (.fieldLink RX2 42 "PlaneBlocks$CodedReader" "room" "I") (by decide +kernel)) (fun _ h9 => h9) rfl dX2_next_179 ?_
                  refine lv_iconst (v := 1) hx hb dX2_next_182 (by decide) ?_
                  refine lv_isub hx hb dX2_next_183 ?_
                  refine va_put (D := (dC, dI)) (ci := 1) (v := .int (j_29.2.2 - (1 : Int32))) (ty := .int) (C := RX2) (T := TX2) (N := 7) hx hb hts iw_X2_next_X2 tyX2 tyX2_ok nmX2 hown hK hP hD hS 7 rfl rfl 6 (by decide) (hts (.fieldLink RX2 42 "PlaneBlocks$CodedReader" "room" "I") (by decide +kernel)) (fun _ h9 => h9) rfl (by decide +kernel) rfl rfl (Nat.le_of_ble_eq_true rfl) dX2_next_184 (fun H locs hP hD hS => ?_)
                  have hP : va_P (dC, dI) vwCl (wd_row_bytes_ctx_states_likely_cw_rw_cr_rr cI a_row a_bytes a_ctx a_states a_likely a_cw a_rw a_cr a_rr row_count row_start bytes_n bytes_f states_n j_23.1 likely_n j_23.2 cw_low cw_size cw_room rw_free j_29.1 cr_end (j_29.2.1 * (2 : Int32)) (cr_size_j_24 * (2 : Int32)) (j_29.2.2 - (1 : Int32)) rr_place rr_end rr_current rr_left) H := hP
                  have hD : va_D A (wd_row_bytes_ctx_states_likely_cw_rw_cr_rr cI a_row a_bytes a_ctx a_states a_likely a_cw a_rw a_cr a_rr row_count row_start bytes_n bytes_f states_n j_23.1 likely_n j_23.2 cw_low cw_size cw_room rw_free j_29.1 cr_end (j_29.2.1 * (2 : Int32)) (cr_size_j_24 * (2 : Int32)) (j_29.2.2 - (1 : Int32)) rr_place rr_end rr_current rr_left) := hD
                  refine lv_iinc (v := (v6_j_24 + (1 : Int32))) (lv' := [(6, .int (v6_j_24 + (1 : Int32))), (0, .ref a_cr), (1, .int p1), (2, .int p2), (3, .int r_1), (4, .int r_2), (5, .int j_19)]) hx hb dX2_next_187 hl (k := 6) rfl rfl (by decide) rfl (fun ls hl => ?_)
                  refine lv_goto (tgt := 130) hx hb dX2_next_190 (by decide) ?_
                  exact ih (v6_j_24 + (1 : Int32)) j_29.1 (j_29.2.1 * (2 : Int32)) (cr_size_j_24 * (2 : Int32)) (j_29.2.2 - (1 : Int32)) k _ _ _ hpre hg hP hD hS (lv_sub hl [1, 2, 3, 4, 5, 6, 0] rfl) hC
                have hpre := hpre.1
                obtain ⟨E2, hE2⟩ : ∃ z : Nat, z = (0) + E2 := ⟨_, rfl⟩
                have hC : k + 0 + E2 ≤ Dt := by rw [hE2]; exact add40 hC
                unfold PJ_N2_j_29 at hpre
                have hg : (if cr_room_j_24 = (0 : Int32) then (let r_28 := F_X2_byteIn row_count bytes_f cr_place_j_24 cr_end cr_window_j_24; (r_28.1, r_28.2.1, r_28.2.2)) else (cr_place_j_24, cr_window_j_24, cr_room_j_24)) = j_29 := by rw [← hj_29]; rfl
                clear hj_29
                refine lv_if_ne (tgt := 157) hx hb dX2_next_150 (by decide) (fun c_27 => ?_) (fun c_27 => ?_)
                · rw [if_neg c_27] at hg
                  exact hJ_j_29 _ _ _ _ (by rw [← hg]; exact hP) (by rw [← hg]; exact hD) hS (lv_sub hl [0, 1, 2, 3, 4, 5, 6] rfl) (by rw [Nat.add_assoc, ← hE2]; exact hC)
                · rw [if_pos c_27] at hg
                  have hpre := hpre c_27
                  refine lv_aload_n hx hb dX2_next_153 rfl (lv_at hl 0 rfl) ?_
                  have hPc := hP.sub (ws' := (wd_row_bytes_cr cI a_row a_bytes a_cr a_ctx row_count row_start bytes_n bytes_f cr_place_j_24 cr_end cr_window_j_24 cr_size_j_24 cr_room_j_24)) [0, 1, 7] rfl
                  have hDc := hD.sub (ws' := (wd_row_bytes_cr cI a_row a_bytes a_cr a_ctx row_count row_start bytes_n bytes_f cr_place_j_24 cr_end cr_window_j_24 cr_size_j_24 cr_room_j_24)) [0, 1, 7] (by decide) rfl
                  have hFc := va_free (wc := (wd_row_bytes_cr cI a_row a_bytes a_cr a_ctx row_count row_start bytes_n bytes_f cr_place_j_24 cr_end cr_window_j_24 cr_size_j_24 cr_room_j_24)) hD hS hA [0, 1, 7] rfl
                  refine va_callv (va_runV (As := []) (rest := []) ⟨hx, hb, hml, hown, hts⟩ (c_X2_byteIn l dC dI cI cJ cZ a_row a_bytes a_cr a_ctx H.size row_count row_start bytes_n bytes_f cr_place_j_24 cr_end cr_window_j_24 cr_size_j_24 cr_room_j_24 hpre) (cwV 0 hts gX2_next_X2_byteIn rfl rfl rfl (by decide +kernel) ⟨Nat.le_of_ble_eq_true rfl, Nat.le_of_ble_eq_true rfl⟩) ⟨fun a U g mk q => by obtain ⟨q0, q1, qP, qK, qD⟩ := q; exact ⟨q0, q1, qP, va_K.moved (u := U) (U := U.calling g mk a) (Vm.Alike.refl U.vm) qK, qD⟩, va_recv hK hPc (ci := 1) (q0 := 2) rfl rfl, fun U hU hW => ⟨rfl, by rw [hU], by rw [hU]; exact hPc, va_K.moved hW.alike hK, hDc.weaken (fun _ _ _ _ => trivial)⟩⟩ rfl rfl hl.1 rfl (lv_room (Nat.le_of_ble_eq_true rfl)) dX2_next_154 ⟨k0_le hC, k0_le hC⟩) hS (fun q _ h => hFc q h) hFc (fun u t H1 locs ht hvm hw hB hz1 hk1 hS => ?_)
                  obtain ⟨hP1, hK1, hD1⟩ := hB
                  rw [ht] at hP1
                  obtain ⟨r_28, hr_28⟩ : ∃ z, F_X2_byteIn row_count bytes_f cr_place_j_24 cr_end cr_window_j_24 = z := ⟨_, rfl⟩
                  try rw [hr_28] at hw
                  try rw [hr_28] at hP1
                  try rw [hr_28] at hD1
                  have hg : (r_28.1, r_28.2.1, r_28.2.2) = j_29 := by first | (rw [hr_28] at hg; exact hg) | (subst hr_28; exact hg)
                  obtain ⟨hP, hD⟩ := va_join (wr := [(a_ctx, .inr (3, [.ref a_states, .ref a_likely])), (a_states, .inl (cI, states_n, .inl j_23.1)), (a_likely, .inl (cI, likely_n, .inl j_23.2)), (a_cw, .inr (2, [.ref a_row, .ref a_ctx, .int cw_low, .int cw_size, .int cw_room])), (a_rw, .inr (7, [.ref a_row, .int rw_free])), (a_rr, .inr (6, [.ref a_row, .int rr_place, .int rr_end, .int rr_current, .int rr_left]))]) (w1 := (wd_row_bytes_cr cI a_row a_bytes a_cr a_ctx row_count row_start bytes_n bytes_f r_28.1 cr_end r_28.2.1 cr_size_j_24 r_28.2.2)) hP hD [0, 1, 7] [2, 3, 4, 5, 6, 8] rfl rfl (by decide) (by decide) hk1 hFc hP1 hD1
                  have hP : va_P (dC, dI) vwCl (wd_row_bytes_ctx_states_likely_cw_rw_cr_rr cI a_row a_bytes a_ctx a_states a_likely a_cw a_rw a_cr a_rr row_count row_start bytes_n bytes_f states_n j_23.1 likely_n j_23.2 cw_low cw_size cw_room rw_free r_28.1 cr_end r_28.2.1 cr_size_j_24 r_28.2.2 rr_place rr_end rr_current rr_left) H1 := hP.sub [6, 7, 0, 1, 2, 3, 4, 8, 5] rfl
                  have hD : va_D A (wd_row_bytes_ctx_states_likely_cw_rw_cr_rr cI a_row a_bytes a_ctx a_states a_likely a_cw a_rw a_cr a_rr row_count row_start bytes_n bytes_f states_n j_23.1 likely_n j_23.2 cw_low cw_size cw_room rw_free r_28.1 cr_end r_28.2.1 cr_size_j_24 r_28.2.2 rr_place rr_end rr_current rr_left) := hD.sub [6, 7, 0, 1, 2, 3, 4, 8, 5] (by decide) rfl
                  generalize H1 = H at hP hS ⊢
                  exact hJ_j_29 _ _ _ _ (by rw [← hg]; exact hP) (by rw [← hg]; exact hD) hS (lv_sub hl [0, 1, 2, 3, 4, 5, 6] rfl) (by rw [Nat.add_assoc, ← hE2]; exact hC)
        exact hL_j_24 fu (0 : Int32) cr_place cr_window r_1 cr_room k _ _ _ hpre hj_24 hP hD hS (lv_sub hl [1, 2, 3, 4, 5, 6, 0] rfl) hC
      have hpre := hpre.1
      obtain ⟨E2, hE2⟩ : ∃ z : Nat, z = (0) + E := ⟨_, rfl⟩
      have hC : k + 0 + E2 ≤ Dt := by rw [hE2]; exact add40 hC
      unfold PJ_N2_j_23 at hpre
      have hg : (if j_19 = (0 : Int32) then (let r_21 := F_X4_otherCame p2 states_f likely_f; (r_21.1, r_21.2)) else (let r_22 := F_X4_likelyCame p2 states_f; (r_22, likely_f))) = j_23 := by rw [← hj_23]; rfl
      clear hj_23
      refine lv_if_eq (tgt := 119) hx hb dX2_next_105 (by decide) (fun c_20 => ?_) (fun c_20 => ?_)
      · rw [if_pos c_20] at hg
        have hpre := hpre.1 c_20
        refine lv_aload_n hx hb dX2_next_119 rfl (lv_at hl 1 rfl) ?_
        refine va_get (D := (dC, dI)) (ci := 1) (v := .ref a_ctx) (C := RX2) (T := TX2) (N := 7) hx hb hts iw_X2_next_X2 hown hK hP 7 rfl rfl 1 (by decide) (hts (.fieldLink RX2 15 "PlaneBlocks$CodedReader" "contexts" "LPlaneBlocks$Contexts;") (by decide +kernel)) (fun _ h9 => h9) rfl dX2_next_120 ?_
        refine lv_iload_n hx hb dX2_next_123 rfl (lv_at hl 3 rfl) ?_
        have hPc := hP.sub (ws' := (wd_ctx_states_likely cI a_ctx a_states a_likely states_n states_f likely_n likely_f)) [2, 3, 4] rfl
        have hDc := hD.sub (ws' := (wd_ctx_states_likely cI a_ctx a_states a_likely states_n states_f likely_n likely_f)) [2, 3, 4] (by decide) rfl
        have hFc := va_free (wc := (wd_ctx_states_likely cI a_ctx a_states a_likely states_n states_f likely_n likely_f)) hD hS hA [2, 3, 4] rfl
        refine va_callv (va_runV (As := [.int p2]) (rest := []) ⟨hx, hb, hml, hown, hts⟩ (c_X4_otherCame l dC dI cI cJ cZ tP tN tO a_ctx a_states a_likely H.size states_n states_f likely_n likely_f p2 hpre) (cwV 1 hts gX2_next_X4_otherCame rfl rfl rfl (by decide +kernel) ⟨Nat.le_of_ble_eq_true rfl, Nat.le_of_ble_eq_true rfl⟩) ⟨fun a U g mk q => by obtain ⟨q0, q1, qP, qK, qD, qZ⟩ := q; exact ⟨q0, q1, qP, va_K.moved (u := U) (U := U.calling g mk a) (Vm.Alike.refl U.vm) qK, qD, Zs.moved (u := U) (U := U.calling g mk a) (Vm.Alike.refl U.vm) qZ⟩, va_recv hK hPc (ci := 3) (q0 := 0) rfl rfl, fun U hU hW => ⟨rfl, by rw [hU], by rw [hU]; exact hPc, va_K.moved hW.alike hK, hDc.weaken (fun _ _ _ _ => trivial), by rw [hU]; exact (((hZ.kept hS.2.1).narrow hFc).moved hW.alike)⟩⟩ rfl rfl hl.1 rfl (lv_room (Nat.le_of_ble_eq_true rfl)) dX2_next_124 ⟨k0_le hC, k0_le hC⟩) hS (fun q _ h => hFc q h) hFc (fun u t H1 locs ht hvm hw hB hz1 hk1 hS => ?_)
        obtain ⟨hP1, hK1, hD1⟩ := hB
        rw [ht] at hP1
        obtain ⟨r_21, hr_21⟩ : ∃ z, F_X4_otherCame p2 states_f likely_f = z := ⟨_, rfl⟩
        try rw [hr_21] at hw
        try rw [hr_21] at hP1
        try rw [hr_21] at hD1
        have hg : (r_21.1, r_21.2) = j_23 := by first | (rw [hr_21] at hg; exact hg) | (subst hr_21; exact hg)
        obtain ⟨hP, hD⟩ := va_join (wr := [(a_row, .inr (0, [.ref a_bytes, .int row_count, .int row_start])), (a_bytes, .inl (cI, bytes_n, .inl bytes_f)), (a_cw, .inr (2, [.ref a_row, .ref a_ctx, .int cw_low, .int cw_size, .int cw_room])), (a_rw, .inr (7, [.ref a_row, .int rw_free])), (a_cr, .inr (1, [.ref a_row, .ref a_ctx, .int cr_place, .int cr_end, .int cr_window, .int r_1, .int cr_room])), (a_rr, .inr (6, [.ref a_row, .int rr_place, .int rr_end, .int rr_current, .int rr_left]))]) (w1 := (wd_ctx_states_likely cI a_ctx a_states a_likely states_n r_21.1 likely_n r_21.2)) hP hD [2, 3, 4] [0, 1, 5, 6, 7, 8] rfl rfl (by decide) (by decide) hk1 hFc hP1 hD1
        have hP : va_P (dC, dI) vwCl (wd_row_bytes_ctx_states_likely_cw_rw_cr_rr cI a_row a_bytes a_ctx a_states a_likely a_cw a_rw a_cr a_rr row_count row_start bytes_n bytes_f states_n r_21.1 likely_n r_21.2 cw_low cw_size cw_room rw_free cr_place cr_end cr_window r_1 cr_room rr_place rr_end rr_current rr_left) H1 := hP.sub [0, 1, 6, 7, 8, 2, 3, 4, 5] rfl
        have hD : va_D A (wd_row_bytes_ctx_states_likely_cw_rw_cr_rr cI a_row a_bytes a_ctx a_states a_likely a_cw a_rw a_cr a_rr row_count row_start bytes_n bytes_f states_n r_21.1 likely_n r_21.2 cw_low cw_size cw_room rw_free cr_place cr_end cr_window r_1 cr_room rr_place rr_end rr_current rr_left) := hD.sub [0, 1, 6, 7, 8, 2, 3, 4, 5] (by decide) rfl
        generalize H1 = H at hP hS ⊢
        exact hJ_j_23 _ _ _ _ (by rw [← hg]; exact hP) (by rw [← hg]; exact hD) hS (lv_sub hl [1, 2, 3, 4, 5, 0] rfl) (by rw [Nat.add_assoc, ← hE2]; exact hC)
      · rw [if_neg c_20] at hg
        have hpre := hpre.2 c_20
        refine lv_aload_n hx hb dX2_next_108 rfl (lv_at hl 1 rfl) ?_
        refine va_get (D := (dC, dI)) (ci := 1) (v := .ref a_ctx) (C := RX2) (T := TX2) (N := 7) hx hb hts iw_X2_next_X2 hown hK hP 7 rfl rfl 1 (by decide) (hts (.fieldLink RX2 15 "PlaneBlocks$CodedReader" "contexts" "LPlaneBlocks$Contexts;") (by decide +kernel)) (fun _ h9 => h9) rfl dX2_next_109 ?_
        refine lv_iload_n hx hb dX2_next_112 rfl (lv_at hl 3 rfl) ?_
        have hPc := hP.sub (ws' := (wd_ctx_states cI a_ctx a_states a_likely states_n states_f)) [2, 3] rfl
        have hDc := hD.sub (ws' := (wd_ctx_states cI a_ctx a_states a_likely states_n states_f)) [2, 3] (by decide) rfl
        have hFc := va_free (wc := (wd_ctx_states cI a_ctx a_states a_likely states_n states_f)) hD hS hA [2, 3] rfl
        refine va_callv (va_runV (As := [.int p2]) (rest := []) ⟨hx, hb, hml, hown, hts⟩ (c_X4_likelyCame l dC dI cI cJ cZ tP tN tO a_ctx a_states a_likely H.size states_n states_f p2 hpre) (cwV 1 hts gX2_next_X4_likelyCame rfl rfl rfl (by decide +kernel) ⟨Nat.le_of_ble_eq_true rfl, Nat.le_of_ble_eq_true rfl⟩) ⟨fun a U g mk q => by obtain ⟨q0, q1, qP, qK, qD, qZ⟩ := q; exact ⟨q0, q1, qP, va_K.moved (u := U) (U := U.calling g mk a) (Vm.Alike.refl U.vm) qK, qD, Zs.moved (u := U) (U := U.calling g mk a) (Vm.Alike.refl U.vm) qZ⟩, va_recv hK hPc (ci := 3) (q0 := 0) rfl rfl, fun U hU hW => ⟨rfl, by rw [hU], by rw [hU]; exact hPc, va_K.moved hW.alike hK, hDc.weaken (fun _ _ _ _ => trivial), by rw [hU]; exact (((hZ.kept hS.2.1).narrow hFc).moved hW.alike)⟩⟩ rfl rfl hl.1 rfl (lv_room (Nat.le_of_ble_eq_true rfl)) dX2_next_113 ⟨k0_le hC, k0_le hC⟩) hS (fun q _ h => hFc q h) hFc (fun u t H1 locs ht hvm hw hB hz1 hk1 hS => ?_)
        obtain ⟨hP1, hK1, hD1⟩ := hB
        rw [ht] at hP1
        obtain ⟨r_22, hr_22⟩ : ∃ z, F_X4_likelyCame p2 states_f = z := ⟨_, rfl⟩
        try rw [hr_22] at hw
        try rw [hr_22] at hP1
        try rw [hr_22] at hD1
        have hg : (r_22, likely_f) = j_23 := by first | (rw [hr_22] at hg; exact hg) | (subst hr_22; exact hg)
        obtain ⟨hP, hD⟩ := va_join (wr := [(a_row, .inr (0, [.ref a_bytes, .int row_count, .int row_start])), (a_bytes, .inl (cI, bytes_n, .inl bytes_f)), (a_likely, .inl (cI, likely_n, .inl likely_f)), (a_cw, .inr (2, [.ref a_row, .ref a_ctx, .int cw_low, .int cw_size, .int cw_room])), (a_rw, .inr (7, [.ref a_row, .int rw_free])), (a_cr, .inr (1, [.ref a_row, .ref a_ctx, .int cr_place, .int cr_end, .int cr_window, .int r_1, .int cr_room])), (a_rr, .inr (6, [.ref a_row, .int rr_place, .int rr_end, .int rr_current, .int rr_left]))]) (w1 := (wd_ctx_states cI a_ctx a_states a_likely states_n r_22)) hP hD [2, 3] [0, 1, 4, 5, 6, 7, 8] rfl rfl (by decide) (by decide) hk1 hFc hP1 hD1
        have hP : va_P (dC, dI) vwCl (wd_row_bytes_ctx_states_likely_cw_rw_cr_rr cI a_row a_bytes a_ctx a_states a_likely a_cw a_rw a_cr a_rr row_count row_start bytes_n bytes_f states_n r_22 likely_n likely_f cw_low cw_size cw_room rw_free cr_place cr_end cr_window r_1 cr_room rr_place rr_end rr_current rr_left) H1 := hP.sub [0, 1, 7, 8, 2, 3, 4, 5, 6] rfl
        have hD : va_D A (wd_row_bytes_ctx_states_likely_cw_rw_cr_rr cI a_row a_bytes a_ctx a_states a_likely a_cw a_rw a_cr a_rr row_count row_start bytes_n bytes_f states_n r_22 likely_n likely_f cw_low cw_size cw_room rw_free cr_place cr_end cr_window r_1 cr_room rr_place rr_end rr_current rr_left) := hD.sub [0, 1, 7, 8, 2, 3, 4, 5, 6] (by decide) rfl
        generalize H1 = H at hP hS ⊢
        refine lv_goto (tgt := 127) hx hb dX2_next_116 (by decide) ?_
        exact hJ_j_23 _ _ _ _ (by rw [← hg]; exact hP) (by rw [← hg]; exact hD) hS (lv_sub hl [1, 2, 3, 4, 5, 0] rfl) (by rw [Nat.add_assoc, ← hE2]; exact hC)
    obtain ⟨E2, hE2⟩ : ∃ z : Nat, z = (0) + E := ⟨_, rfl⟩
    have hC : k + 0 + E2 ≤ Dt := by rw [hE2]; exact add40 hC
    have hg : (if r_1 ≤ (cr_size - r_1) then (0 : Int32) else (1 : Int32)) = j_19 := by rw [← hj_19]; rfl
    clear hj_19
    refine lv_icmp_ge (tgt := 52) hx hb dX2_next_45 (by decide) (fun c_18 => ?_) (fun c_18 => ?_)
    · rw [if_pos c_18] at hg
      refine lv_iconst (v := 0) hx hb dX2_next_52 (by decide) ?_
      rw [← hg] at hJ_j_19
      try rw [← hg] at hE2
      exact hJ_j_19 _ _ _ _ hP hD hS (lv_sub hl [2, 3, 4, 1, 0] rfl) (by rw [Nat.add_assoc, ← hE2]; exact hC)
    · rw [if_neg c_18] at hg
      refine lv_iconst (v := 1) hx hb dX2_next_48 (by decide) ?_
      refine lv_goto (tgt := 53) hx hb dX2_next_49 (by decide) ?_
      rw [← hg] at hJ_j_19
      try rw [← hg] at hE2
      exact hJ_j_19 _ _ _ _ hP hD hS (lv_sub hl [2, 3, 4, 1, 0] rfl) (by rw [Nat.add_assoc, ← hE2]; exact hC)
abbrev rm_N7 (Dt : Nat) : Room := { frames := 1, cells := Dt, slots := Dt, locals := 22 }
abbrev Q_N7 (dC : Nat → ClassId) (dI : Nat → Nat → Nat) (cI cJ cZ : ClassId) (a_row : Nat) (a_bytes : Nat) (a_ctx : Nat) (a_states : Nat) (a_likely : Nat) (a_cw : Nat) (a_rw : Nat) (a_cr : Nat) (a_rr : Nat) (A : Nat → Prop) (row_count : Int32) (row_start : Int32) (bytes_n : Nat) (bytes_f : Nat → Int32) (states_n : Nat) (states_f : Nat → Int32) (likely_n : Nat) (likely_f : Nat → Int32) (cw_low : Int32) (cw_size : Int32) (cw_room : Int32) (rw_free : Int32) (cr_place : Int32) (cr_end : Int32) (cr_window : Int32) (cr_size : Int32) (cr_room : Int32) (rr_place : Int32) (rr_end : Int32) (rr_current : Int32) (rr_left : Int32) (g : (Int32 × Int32 × Nat × (Nat → Int32) × (Nat → Int32) × (Nat → Int32) × Int32 × Int32 × Int32 × Int32 × Int32 × Int32 × Int32 × Int32 × Int32 × Int32 × Int32)) : Array Value → State → Outcome → State → Prop := va_Qi (fun (r : Int32) (_ : Nat) => r = g.1) (fun u t => va_P (dC, dI) vwCl (wd_row_bytes_ctx_states_likely_cw_rw_cr_rr cI a_row u a_ctx a_states a_likely a_cw a_rw a_cr a_rr g.2.1 row_start g.2.2.1 g.2.2.2.1 states_n g.2.2.2.2.1 likely_n g.2.2.2.2.2.1 g.2.2.2.2.2.2.1 g.2.2.2.2.2.2.2.1 g.2.2.2.2.2.2.2.2.1 g.2.2.2.2.2.2.2.2.2.1 g.2.2.2.2.2.2.2.2.2.2.1 cr_end g.2.2.2.2.2.2.2.2.2.2.2.1 g.2.2.2.2.2.2.2.2.2.2.2.2.1 g.2.2.2.2.2.2.2.2.2.2.2.2.2.1 g.2.2.2.2.2.2.2.2.2.2.2.2.2.2.1 rr_end g.2.2.2.2.2.2.2.2.2.2.2.2.2.2.2.1 g.2.2.2.2.2.2.2.2.2.2.2.2.2.2.2.2) t.heap ∧ va_K (dC, dI) vwCl [(cI, .int), (cJ, .long), (cZ, .boolean)] t ∧ va_D A (wd_row_bytes_ctx_states_likely_cw_rw_cr_rr cI a_row u a_ctx a_states a_likely a_cw a_rw a_cr a_rr g.2.1 row_start g.2.2.1 g.2.2.2.1 states_n g.2.2.2.2.1 likely_n g.2.2.2.2.2.1 g.2.2.2.2.2.2.1 g.2.2.2.2.2.2.2.1 g.2.2.2.2.2.2.2.2.1 g.2.2.2.2.2.2.2.2.2.1 g.2.2.2.2.2.2.2.2.2.2.1 cr_end g.2.2.2.2.2.2.2.2.2.2.2.1 g.2.2.2.2.2.2.2.2.2.2.2.2.1 g.2.2.2.2.2.2.2.2.2.2.2.2.2.1 g.2.2.2.2.2.2.2.2.2.2.2.2.2.2.1 rr_end g.2.2.2.2.2.2.2.2.2.2.2.2.2.2.2.1 g.2.2.2.2.2.2.2.2.2.2.2.2.2.2.2.2)) A
set_option maxHeartbeats 4000000 in
set_option maxRecDepth 100000 in
theorem c_N7 (l : Launch) (dC : Nat → ClassId) (dI : Nat → Nat → Nat) (cI cJ cZ : ClassId) (a_row : Nat) (a_bytes : Nat) (a_ctx : Nat) (a_states : Nat) (a_likely : Nat) (a_cw : Nat) (a_rw : Nat) (a_cr : Nat) (a_rr : Nat) (sz : Nat) (row_count : Int32) (row_start : Int32) (bytes_n : Nat) (bytes_f : Nat → Int32) (states_n : Nat) (states_f : Nat → Int32) (likely_n : Nat) (likely_f : Nat → Int32) (cw_low : Int32) (cw_size : Int32) (cw_room : Int32) (rw_free : Int32) (cr_place : Int32) (cr_end : Int32) (cr_window : Int32) (cr_size : Int32) (cr_room : Int32) (rr_place : Int32) (rr_end : Int32) (rr_current : Int32) (rr_left : Int32) (p1 : Int32) (p2 : Int32) (hpre : P_N7 row_count bytes_n rr_place rr_end rr_current rr_left) : Met l yX7_next wsX7_next (rm_N7 (D_N7)) (va_Pc [.ref a_rr, .int p1, .int p2] (fun U => U.heap.size = sz ∧ va_P (dC, dI) vwCl (wd_row_bytes_ctx_states_likely_cw_rw_cr_rr cI a_row a_bytes a_ctx a_states a_likely a_cw a_rw a_cr a_rr row_count row_start bytes_n bytes_f states_n states_f likely_n likely_f cw_low cw_size cw_room rw_free cr_place cr_end cr_window cr_size cr_room rr_place rr_end rr_current rr_left) U.heap ∧ va_K (dC, dI) vwCl [(cI, .int), (cJ, .long), (cZ, .boolean)] U ∧ va_D (fun _ => True) (wd_row_bytes_ctx_states_likely_cw_rw_cr_rr cI a_row a_bytes a_ctx a_states a_likely a_cw a_rw a_cr a_rr row_count row_start bytes_n bytes_f states_n states_f likely_n likely_f cw_low cw_size cw_room rw_free cr_place cr_end cr_window cr_size cr_room rr_place rr_end rr_current rr_left))) (Q_N7 dC dI cI cJ cZ a_row a_bytes a_ctx a_states a_likely a_cw a_rw a_cr a_rr (va_A (wd_row_bytes_ctx_states_likely_cw_rw_cr_rr cI a_row a_bytes a_ctx a_states a_likely a_cw a_rw a_cr a_rr row_count row_start bytes_n bytes_f states_n states_f likely_n likely_f cw_low cw_size cw_room rw_free cr_place cr_end cr_window cr_size cr_room rr_place rr_end rr_current rr_left) sz) row_count row_start bytes_n bytes_f states_n states_f likely_n likely_f cw_low cw_size cw_room rw_free cr_place cr_end cr_window cr_size cr_room rr_place rr_end rr_current rr_left (F_N7 row_count bytes_n bytes_f states_f likely_f cw_low cw_size cw_room rw_free cr_place cr_window cr_size cr_room rr_place rr_end rr_current rr_left)) (D_N7) (D_N7) (va_A (wd_row_bytes_ctx_states_likely_cw_rw_cr_rr cI a_row a_bytes a_ctx a_states a_likely a_cw a_rw a_cr a_rr row_count row_start bytes_n bytes_f states_n states_f likely_n likely_f cw_low cw_size cw_room rw_free cr_place cr_end cr_window cr_size cr_room rr_place rr_end rr_current rr_left) sz) := by
  refine Met.ofW (cc := cX7_next) (maxL := 3) (ret := (some .int)) (by decide) rfl ?_
  intro p e s m args below meth c s₁ B hml hv
  obtain ⟨rfl, hsz, hP, hK, hD0⟩ := hv
  have hx := B.exec
  have hb := B.bytes
  have hr := B.returns
  have hts := atoms_spec (ws := wsX7_next) B.pre
  have hown : s.vm.findClass RX7 = some m.cls := findClass_of_methodNamed B.named
  have hlocks := B.notSynchronized
  subst hsz
  have hD := hD0.self (sz := s.heap.size)
  generalize hAe : va_A (wd_row_bytes_ctx_states_likely_cw_rw_cr_rr cI a_row a_bytes a_ctx a_states a_likely a_cw a_rw a_cr a_rr row_count row_start bytes_n bytes_f states_n states_f likely_n likely_f cw_low cw_size cw_room rw_free cr_place cr_end cr_window cr_size cr_room rr_place rr_end rr_current rr_left) s.heap.size = A at hD ⊢
  have hA : ∀ q : Nat, s.heap.size ≤ q → A q := fun q h => by rw [← hAe]; exact Or.inr h
  have hS : va_S A s.heap s.heap [] := va_S.rf
  obtain ⟨H, hH⟩ : ∃ z, z = s.heap := ⟨_, rfl⟩
  have hP : va_P (dC, dI) vwCl (wd_row_bytes_ctx_states_likely_cw_rw_cr_rr cI a_row a_bytes a_ctx a_states a_likely a_cw a_rw a_cr a_rr row_count row_start bytes_n bytes_f states_n states_f likely_n likely_f cw_low cw_size cw_room rw_free cr_place cr_end cr_window cr_size cr_room rr_place rr_end rr_current rr_left) H := by rw [hH]; exact hP
  have hS : va_S A s.heap H [] := by rw [hH]; exact va_S.rf
  obtain ⟨g, hg⟩ : ∃ z, F_N7 row_count bytes_n bytes_f states_f likely_f cw_low cw_size cw_room rw_free cr_place cr_window cr_size cr_room rr_place rr_end rr_current rr_left = z := ⟨_, rfl⟩
  rw [hg]
  obtain ⟨Dt, hDt⟩ : ∃ z, D_N7 = z := ⟨_, rfl⟩
  rw [hDt]
  generalize hQe : MQ below (Q_N7 dC dI cI cJ cZ a_row a_bytes a_ctx a_states a_likely a_cw a_rw a_cr a_rr A row_count row_start bytes_n bytes_f states_n states_f likely_n likely_f cw_low cw_size cw_room rw_free cr_place cr_end cr_window cr_size cr_room rr_place rr_end rr_current rr_left g) _ s Dt Dt A = Q
  rw [← hH]
  clear hH
  have hl := lv_entry ([.ref a_rr, .int p1, .int p2]) (n := 3) (Nat.le_of_ble_eq_true rfl)
  rw [lg_entry_eq]
  generalize (lg_sl ([.ref a_rr, .int p1, .int p2]) ++ List.replicate (3 - (lg_sl ([.ref a_rr, .int p1, .int p2])).length) Slot.unset).toArray = ls at hl ⊢
  have hl : lv_has ls 3 [(0, .ref a_rr), (1, .int p1), (2, .int p2)] := hl
  unfold F_N7 at hg
  unfold P_N7 at hpre
  unfold D_N7 at hDt
  obtain ⟨k, hk⟩ : ∃ z : Nat, z = 0 := ⟨_, rfl⟩
  obtain ⟨E, hE⟩ : ∃ z : Nat, z = 0 := ⟨_, rfl⟩
  have hC : k + (0) + E ≤ Dt := by rw [hk, hE, Nat.zero_add]; exact Nat.le_of_eq hDt
  refine W.widen (k := k) (n := k) (Nat.zero_le _) (Nat.zero_le _) ?_
  clear hk hE hDt
  refine lv_aload_n hx hb dX7_next_0 rfl (lv_at hl 0 rfl) ?_
  refine va_get (D := (dC, dI)) (ci := 6) (v := .int rr_left) (C := RX7) (T := TX7) (N := 5) hx hb hts iw_X7_next_X7 hown hK hP 8 rfl rfl 4 (by decide) (hts (.fieldLink RX7 25 "PlaneBlocks$RawReader" "left" "I") (by decide +kernel)) (fun _ h9 => h9) rfl dX7_next_1 ?_
  obtain ⟨j_5, hj_5⟩ : ∃ z, J_N7_j_5 row_count bytes_f rr_place rr_end rr_current rr_left = z := ⟨_, rfl⟩
  have hg : ((j_5.2.1 >>> ((j_5.2.2 - (1 : Int32)) &&& 31)) &&& (1 : Int32), row_count, bytes_n, bytes_f, states_f, likely_f, cw_low, cw_size, cw_room, rw_free, cr_place, cr_window, cr_size, cr_room, j_5.1, j_5.2.1, j_5.2.2 - (1 : Int32)) = g := by first | (rw [hj_5] at hg; exact hg) | (subst hj_5; exact hg)
  have hJ_j_5 : ∀ (k : Nat) (H : Heap) (locs : List Loc) (ls : Array Slot), va_P (dC, dI) vwCl (wd_row_bytes_ctx_states_likely_cw_rw_cr_rr cI a_row a_bytes a_ctx a_states a_likely a_cw a_rw a_cr a_rr row_count row_start bytes_n bytes_f states_n states_f likely_n likely_f cw_low cw_size cw_room rw_free cr_place cr_end cr_window cr_size cr_room j_5.1 rr_end j_5.2.1 j_5.2.2) H → va_D A (wd_row_bytes_ctx_states_likely_cw_rw_cr_rr cI a_row a_bytes a_ctx a_states a_likely a_cw a_rw a_cr a_rr row_count row_start bytes_n bytes_f states_n states_f likely_n likely_f cw_low cw_size cw_room rw_free cr_place cr_end cr_window cr_size cr_room j_5.1 rr_end j_5.2.1 j_5.2.2) → va_S A s.heap H locs → lv_has ls 3 [(0, .ref a_rr), (1, .int p1), (2, .int p2)] → k + (0) + E ≤ Dt → W p l e (headSpec wsX7_next (rm_N7 Dt)).room s m ([.ref a_rr, .int p1, .int p2] : List Value).toArray below meth c H locs k k Q (F0 m 57 ls []) := by
    intro k H locs ls hP hD hS hl hC
    refine lv_aload_n hx hb dX7_next_57 rfl (lv_at hl 0 rfl) ?_
    refine lv_dup hx hb dX7_next_58 rfl ?_
    refine va_get (D := (dC, dI)) (ci := 6) (v := .int j_5.2.2) (C := RX7) (T := TX7) (N := 5) hx hb hts iw_X7_next_X7 hown hK hP 8 rfl rfl 4 (by decide) (hts (.fieldLink RX7 25 "PlaneBlocks$RawReader" "left" "I") (by decide +kernel)) (fun _ h9 => h9) rfl dX7_next_59 ?_
    refine lv_iconst (v := 1) hx hb dX7_next_62 (by decide) ?_
    refine lv_isub hx hb dX7_next_63 ?_
    refine va_put (D := (dC, dI)) (ci := 6) (v := .int (j_5.2.2 - (1 : Int32))) (ty := .int) (C := RX7) (T := TX7) (N := 5) hx hb hts iw_X7_next_X7 tyX7 tyX7_ok nmX7 hown hK hP hD hS 8 rfl rfl 4 (by decide) (hts (.fieldLink RX7 25 "PlaneBlocks$RawReader" "left" "I") (by decide +kernel)) (fun _ h9 => h9) rfl (by decide +kernel) rfl rfl (Nat.le_of_ble_eq_true rfl) dX7_next_64 (fun H locs hP hD hS => ?_)
    have hP : va_P (dC, dI) vwCl (wd_row_bytes_ctx_states_likely_cw_rw_cr_rr cI a_row a_bytes a_ctx a_states a_likely a_cw a_rw a_cr a_rr row_count row_start bytes_n bytes_f states_n states_f likely_n likely_f cw_low cw_size cw_room rw_free cr_place cr_end cr_window cr_size cr_room j_5.1 rr_end j_5.2.1 (j_5.2.2 - (1 : Int32))) H := hP
    have hD : va_D A (wd_row_bytes_ctx_states_likely_cw_rw_cr_rr cI a_row a_bytes a_ctx a_states a_likely a_cw a_rw a_cr a_rr row_count row_start bytes_n bytes_f states_n states_f likely_n likely_f cw_low cw_size cw_room rw_free cr_place cr_end cr_window cr_size cr_room j_5.1 rr_end j_5.2.1 (j_5.2.2 - (1 : Int32))) := hD
    refine lv_aload_n hx hb dX7_next_67 rfl (lv_at hl 0 rfl) ?_
    refine va_get (D := (dC, dI)) (ci := 6) (v := .int j_5.2.1) (C := RX7) (T := TX7) (N := 5) hx hb hts iw_X7_next_X7 hown hK hP 8 rfl rfl 3 (by decide) (hts (.fieldLink RX7 22 "PlaneBlocks$RawReader" "current" "I") (by decide +kernel)) (fun _ h9 => h9) rfl dX7_next_68 ?_
    refine lv_aload_n hx hb dX7_next_71 rfl (lv_at hl 0 rfl) ?_
    refine va_get (D := (dC, dI)) (ci := 6) (v := .int (j_5.2.2 - (1 : Int32))) (C := RX7) (T := TX7) (N := 5) hx hb hts iw_X7_next_X7 hown hK hP 8 rfl rfl 4 (by decide) (hts (.fieldLink RX7 25 "PlaneBlocks$RawReader" "left" "I") (by decide +kernel)) (fun _ h9 => h9) rfl dX7_next_72 ?_
    refine lv_ishr hx hb dX7_next_75 ?_
    refine lv_iconst (v := 1) hx hb dX7_next_76 (by decide) ?_
    refine lv_iand hx hb dX7_next_77 ?_
    subst hg
    refine W.widen (k := Dt) (n := Dt) (k0_le hC) (k0_le hC) ?_
    rw [← hQe]
    exact W.iret (v := ((j_5.2.1 >>> ((j_5.2.2 - (1 : Int32)) &&& 31)) &&& (1 : Int32))) hx hb hr (fun t ht hW => ⟨⟨((j_5.2.1 >>> ((j_5.2.2 - (1 : Int32)) &&& 31)) &&& (1 : Int32)), a_bytes, rfl, rfl, by rw [ht]; exact hP, va_K.moved hW.alike hK, hD⟩, hS.F ht⟩) hS.2.2 dX7_next_78
  obtain ⟨E2, hE2⟩ : ∃ z : Nat, z = (0) + E := ⟨_, rfl⟩
  have hC : k + 0 + E2 ≤ Dt := by rw [hE2]; exact add40 hC
  unfold PJ_N7_j_5 at hpre
  have hg : (if rr_left = (0 : Int32) then (let j_3 := J_N7_j_3 rr_current; let r_4 := F_X1_byteOf rr_place rr_end row_count bytes_f; (rr_place + (1 : Int32), r_4, j_3)) else (rr_place, rr_current, rr_left)) = j_5 := by rw [← hj_5]; rfl
  clear hj_5
  refine lv_if_ne (tgt := 57) hx hb dX7_next_4 (by decide) (fun c_1 => ?_) (fun c_1 => ?_)
  · rw [if_neg c_1] at hg
    exact hJ_j_5 _ _ _ _ (by rw [← hg]; exact hP) (by rw [← hg]; exact hD) hS (lv_sub hl [0, 1, 2] rfl) (by rw [Nat.add_assoc, ← hE2]; exact hC)
  · rw [if_pos c_1] at hg
    have hpre := hpre c_1
    refine lv_aload_n hx hb dX7_next_7 rfl (lv_at hl 0 rfl) ?_
    refine lv_aload_n hx hb dX7_next_8 rfl (lv_at hl 0 rfl) ?_
    refine va_get (D := (dC, dI)) (ci := 6) (v := .int rr_current) (C := RX7) (T := TX7) (N := 5) hx hb hts iw_X7_next_X7 hown hK hP 8 rfl rfl 3 (by decide) (hts (.fieldLink RX7 22 "PlaneBlocks$RawReader" "current" "I") (by decide +kernel)) (fun _ h9 => h9) rfl dX7_next_9 ?_
    refine lv_sipush (v := 255) hx hb dX7_next_12 (by decide) ?_
    obtain ⟨j_3, hj_3⟩ : ∃ z, J_N7_j_3 rr_current = z := ⟨_, rfl⟩
    have hg : (let r_4 := F_X1_byteOf rr_place rr_end row_count bytes_f; (rr_place + (1 : Int32), r_4, j_3)) = j_5 := by first | (rw [hj_3] at hg; exact hg) | (subst hj_3; exact hg)
    have hJ_j_3 : ∀ (k : Nat) (H : Heap) (locs : List Loc) (ls : Array Slot), va_P (dC, dI) vwCl (wd_row_bytes_ctx_states_likely_cw_rw_cr_rr cI a_row a_bytes a_ctx a_states a_likely a_cw a_rw a_cr a_rr row_count row_start bytes_n bytes_f states_n states_f likely_n likely_f cw_low cw_size cw_room rw_free cr_place cr_end cr_window cr_size cr_room rr_place rr_end rr_current rr_left) H → va_D A (wd_row_bytes_ctx_states_likely_cw_rw_cr_rr cI a_row a_bytes a_ctx a_states a_likely a_cw a_rw a_cr a_rr row_count row_start bytes_n bytes_f states_n states_f likely_n likely_f cw_low cw_size cw_room rw_free cr_place cr_end cr_window cr_size cr_room rr_place rr_end rr_current rr_left) → va_S A s.heap H locs → lv_has ls 3 [(0, .ref a_rr), (1, .int p1), (2, .int p2)] → k + (0) + E2 ≤ Dt → W p l e (headSpec wsX7_next (rm_N7 Dt)).room s m ([.ref a_rr, .int p1, .int p2] : List Value).toArray below meth c H locs k k Q (F0 m 25 ls [.int j_3, .ref a_rr]) := by
      intro k H locs ls hP hD hS hl hC
      have hpre := hpre j_3 hj_3
      refine va_put (D := (dC, dI)) (ci := 6) (v := .int j_3) (ty := .int) (C := RX7) (T := TX7) (N := 5) hx hb hts iw_X7_next_X7 tyX7 tyX7_ok nmX7 hown hK hP hD hS 8 rfl rfl 4 (by decide) (hts (.fieldLink RX7 25 "PlaneBlocks$RawReader" "left" "I") (by decide +kernel)) (fun _ h9 => h9) rfl (by decide +kernel) rfl rfl (Nat.le_of_ble_eq_true rfl) dX7_next_25 (fun H locs hP hD hS => ?_)
      have hP : va_P (dC, dI) vwCl (wd_row_bytes_ctx_states_likely_cw_rw_cr_rr cI a_row a_bytes a_ctx a_states a_likely a_cw a_rw a_cr a_rr row_count row_start bytes_n bytes_f states_n states_f likely_n likely_f cw_low cw_size cw_room rw_free cr_place cr_end cr_window cr_size cr_room rr_place rr_end rr_current j_3) H := hP
      have hD : va_D A (wd_row_bytes_ctx_states_likely_cw_rw_cr_rr cI a_row a_bytes a_ctx a_states a_likely a_cw a_rw a_cr a_rr row_count row_start bytes_n bytes_f states_n states_f likely_n likely_f cw_low cw_size cw_room rw_free cr_place cr_end cr_window cr_size cr_room rr_place rr_end rr_current j_3) := hD
      refine lv_aload_n hx hb dX7_next_28 rfl (lv_at hl 0 rfl) ?_
      refine lv_aload_n hx hb dX7_next_29 rfl (lv_at hl 0 rfl) ?_
      refine va_get (D := (dC, dI)) (ci := 6) (v := .ref a_row) (C := RX7) (T := TX7) (N := 5) hx hb hts iw_X7_next_X7 hown hK hP 8 rfl rfl 0 (by decide) (hts (.fieldLink RX7 9 "PlaneBlocks$RawReader" "row" "LPlaneBlocks$ByteRow;") (by decide +kernel)) (fun _ h9 => h9) rfl dX7_next_30 ?_
      refine lv_aload_n hx hb dX7_next_33 rfl (lv_at hl 0 rfl) ?_
      refine va_get (D := (dC, dI)) (ci := 6) (v := .int rr_place) (C := RX7) (T := TX7) (N := 5) hx hb hts iw_X7_next_X7 hown hK hP 8 rfl rfl 1 (by decide) (hts (.fieldLink RX7 15 "PlaneBlocks$RawReader" "place" "I") (by decide +kernel)) (fun _ h9 => h9) rfl dX7_next_34 ?_
      refine lv_aload_n hx hb dX7_next_37 rfl (lv_at hl 0 rfl) ?_
      refine va_get (D := (dC, dI)) (ci := 6) (v := .int rr_end) (C := RX7) (T := TX7) (N := 5) hx hb hts iw_X7_next_X7 hown hK hP 8 rfl rfl 2 (by decide) (hts (.fieldLink RX7 19 "PlaneBlocks$RawReader" "end" "I") (by decide +kernel)) (fun _ h9 => h9) rfl dX7_next_38 ?_
      have hPc := hP.sub (ws' := (wd_row_bytes cI a_row a_bytes row_count row_start bytes_n bytes_f)) [0, 1] rfl
      have hDc := hD.sub (ws' := (wd_row_bytes cI a_row a_bytes row_count row_start bytes_n bytes_f)) [0, 1] (by decide) rfl
      have hFc := va_free (wc := (wd_row_bytes cI a_row a_bytes row_count row_start bytes_n bytes_f)) hD hS hA [0, 1] rfl
      refine va_calli (va_runV (As := [.int rr_place, .int rr_end]) (rest := [.ref a_rr]) ⟨hx, hb, hml, hown, hts⟩ (c_X1_byteOf l dC dI cI cJ cZ a_row a_bytes H.size row_count row_start bytes_n bytes_f rr_place rr_end hpre) (cwV 2 hts gX7_next_X1_byteOf rfl rfl rfl (by decide +kernel) ⟨Nat.le_of_ble_eq_true rfl, Nat.le_of_ble_eq_true rfl⟩) ⟨fun a U g mk q => by obtain ⟨q0, q1, qP, qK, qD⟩ := q; exact ⟨q0, q1, qP, va_K.moved (u := U) (U := U.calling g mk a) (Vm.Alike.refl U.vm) qK, qD⟩, va_recv hK hPc (ci := 0) (q0 := 0) rfl rfl, fun U hU hW => ⟨rfl, by rw [hU], by rw [hU]; exact hPc, va_K.moved hW.alike hK, hDc.weaken (fun _ _ _ _ => trivial)⟩⟩ rfl rfl hl.1 rfl (lv_room (Nat.le_of_ble_eq_true rfl)) dX7_next_41 ⟨k0_le hC, k0_le hC⟩) hS (fun q _ h => hFc q h) hFc (fun r u t H1 locs ht hvm hw hB hz1 hk1 hS => ?_)
      obtain ⟨hP1, hK1, hD1⟩ := hB
      rw [ht] at hP1
      obtain ⟨r_4, hr_4⟩ : ∃ z, F_X1_byteOf rr_place rr_end row_count bytes_f = z := ⟨_, rfl⟩
      try rw [hr_4] at hw
      try rw [hr_4] at hP1
      try rw [hr_4] at hD1
      have hg : (rr_place + (1 : Int32), r_4, j_3) = j_5 := by first | (rw [hr_4] at hg; exact hg) | (subst hr_4; exact hg)
      have hw := hw.symm
      subst hw
      obtain ⟨hP, hD⟩ := va_join (wr := [(a_ctx, .inr (3, [.ref a_states, .ref a_likely])), (a_states, .inl (cI, states_n, .inl states_f)), (a_likely, .inl (cI, likely_n, .inl likely_f)), (a_cw, .inr (2, [.ref a_row, .ref a_ctx, .int cw_low, .int cw_size, .int cw_room])), (a_rw, .inr (7, [.ref a_row, .int rw_free])), (a_cr, .inr (1, [.ref a_row, .ref a_ctx, .int cr_place, .int cr_end, .int cr_window, .int cr_size, .int cr_room])), (a_rr, .inr (6, [.ref a_row, .int rr_place, .int rr_end, .int rr_current, .int j_3]))]) (w1 := (wd_row_bytes cI a_row a_bytes row_count row_start bytes_n bytes_f)) hP hD [0, 1] [2, 3, 4, 5, 6, 7, 8] rfl rfl (by decide) (by decide) hk1 hFc hP1 hD1
      have hP : va_P (dC, dI) vwCl (wd_row_bytes_ctx_states_likely_cw_rw_cr_rr cI a_row a_bytes a_ctx a_states a_likely a_cw a_rw a_cr a_rr row_count row_start bytes_n bytes_f states_n states_f likely_n likely_f cw_low cw_size cw_room rw_free cr_place cr_end cr_window cr_size cr_room rr_place rr_end rr_current j_3) H1 := hP.sub [7, 8, 0, 1, 2, 3, 4, 5, 6] rfl
      have hD : va_D A (wd_row_bytes_ctx_states_likely_cw_rw_cr_rr cI a_row a_bytes a_ctx a_states a_likely a_cw a_rw a_cr a_rr row_count row_start bytes_n bytes_f states_n states_f likely_n likely_f cw_low cw_size cw_room rw_free cr_place cr_end cr_window cr_size cr_room rr_place rr_end rr_current j_3) := hD.sub [7, 8, 0, 1, 2, 3, 4, 5, 6] (by decide) rfl
      generalize H1 = H at hP hS ⊢
      refine va_put (D := (dC, dI)) (ci := 6) (v := .int r_4) (ty := .int) (C := RX7) (T := TX7) (N := 5) hx hb hts iw_X7_next_X7 tyX7 tyX7_ok nmX7 hown hK hP hD hS 8 rfl rfl 3 (by decide) (hts (.fieldLink RX7 22 "PlaneBlocks$RawReader" "current" "I") (by decide +kernel)) (fun _ h9 => h9) rfl (by decide +kernel) rfl rfl (Nat.le_of_ble_eq_true rfl) dX7_next_44 (fun H locs hP hD hS => ?_)
      have hP : va_P (dC, dI) vwCl (wd_row_bytes_ctx_states_likely_cw_rw_cr_rr cI a_row a_bytes a_ctx a_states a_likely a_cw a_rw a_cr a_rr row_count row_start bytes_n bytes_f states_n states_f likely_n likely_f cw_low cw_size cw_room rw_free cr_place cr_end cr_window cr_size cr_room rr_place rr_end r_4 j_3) H := hP
      have hD : va_D A (wd_row_bytes_ctx_states_likely_cw_rw_cr_rr cI a_row a_bytes a_ctx a_states a_likely a_cw a_rw a_cr a_rr row_count row_start bytes_n bytes_f states_n states_f likely_n likely_f cw_low cw_size cw_room rw_free cr_place cr_end cr_window cr_size cr_room rr_place rr_end r_4 j_3) := hD
      refine lv_aload_n hx hb dX7_next_47 rfl (lv_at hl 0 rfl) ?_
      refine lv_dup hx hb dX7_next_48 rfl ?_
      refine va_get (D := (dC, dI)) (ci := 6) (v := .int rr_place) (C := RX7) (T := TX7) (N := 5) hx hb hts iw_X7_next_X7 hown hK hP 8 rfl rfl 1 (by decide) (hts (.fieldLink RX7 15 "PlaneBlocks$RawReader" "place" "I") (by decide +kernel)) (fun _ h9 => h9) rfl dX7_next_49 ?_
      refine lv_iconst (v := 1) hx hb dX7_next_52 (by decide) ?_
      refine lv_iadd hx hb dX7_next_53 ?_
      refine va_put (D := (dC, dI)) (ci := 6) (v := .int (rr_place + (1 : Int32))) (ty := .int) (C := RX7) (T := TX7) (N := 5) hx hb hts iw_X7_next_X7 tyX7 tyX7_ok nmX7 hown hK hP hD hS 8 rfl rfl 1 (by decide) (hts (.fieldLink RX7 15 "PlaneBlocks$RawReader" "place" "I") (by decide +kernel)) (fun _ h9 => h9) rfl (by decide +kernel) rfl rfl (Nat.le_of_ble_eq_true rfl) dX7_next_54 (fun H locs hP hD hS => ?_)
      have hP : va_P (dC, dI) vwCl (wd_row_bytes_ctx_states_likely_cw_rw_cr_rr cI a_row a_bytes a_ctx a_states a_likely a_cw a_rw a_cr a_rr row_count row_start bytes_n bytes_f states_n states_f likely_n likely_f cw_low cw_size cw_room rw_free cr_place cr_end cr_window cr_size cr_room (rr_place + (1 : Int32)) rr_end r_4 j_3) H := hP
      have hD : va_D A (wd_row_bytes_ctx_states_likely_cw_rw_cr_rr cI a_row a_bytes a_ctx a_states a_likely a_cw a_rw a_cr a_rr row_count row_start bytes_n bytes_f states_n states_f likely_n likely_f cw_low cw_size cw_room rw_free cr_place cr_end cr_window cr_size cr_room (rr_place + (1 : Int32)) rr_end r_4 j_3) := hD
      exact hJ_j_5 _ _ _ _ (by rw [← hg]; exact hP) (by rw [← hg]; exact hD) hS (lv_sub hl [0, 1, 2] rfl) (by rw [Nat.add_assoc, ← hE2]; exact hC)
    obtain ⟨E2, hE2⟩ : ∃ z : Nat, z = (0) + E2 := ⟨_, rfl⟩
    have hC : k + 0 + E2 ≤ Dt := by rw [hE2]; exact add40 hC
    have hg : (if rr_current = (255 : Int32) then (7 : Int32) else (8 : Int32)) = j_3 := by rw [← hj_3]; rfl
    clear hj_3
    refine lv_icmp_ne (tgt := 23) hx hb dX7_next_15 (by decide) (fun c_2 => ?_) (fun c_2 => ?_)
    · rw [if_neg c_2] at hg
      refine lv_bipush (v := 8) hx hb dX7_next_23 (by decide) ?_
      rw [← hg] at hJ_j_3
      try rw [← hg] at hE2
      exact hJ_j_3 _ _ _ _ hP hD hS (lv_sub hl [0, 1, 2] rfl) (by rw [Nat.add_assoc, ← hE2]; exact hC)
    · rw [if_pos c_2] at hg
      refine lv_bipush (v := 7) hx hb dX7_next_18 (by decide) ?_
      refine lv_goto (tgt := 25) hx hb dX7_next_20 (by decide) ?_
      rw [← hg] at hJ_j_3
      try rw [← hg] at hE2
      exact hJ_j_3 _ _ _ _ hP hD hS (lv_sub hl [0, 1, 2] rfl) (by rw [Nat.add_assoc, ← hE2]; exact hC)
set_option maxHeartbeats 4000000 in
theorem run_next {p : Program} {e : Env} {R : Room} {s : State} {m : MethodId} {args : Array Value} {below : List Frame} {meth : Method} {c : Code} {cc : ByteArray} {nL : Nat} {Ts : List Cond} {H : Heap} {locs : List Loc} {k pc : Nat} {ls : Array Slot} {rest : List Value} {A0 : Nat → Prop} (S : CallFix p m c cc nL s args Ts RX9) (gX3 : GoodIn Ts (va_wsU RX9 82 RX3 "PlaneBlocks$Bits" xBits yX3_next wsX3_next)) (gX8 : GoodIn Ts (va_wsU RX9 82 RX8 "PlaneBlocks$Bits" xBits yX8_next wsX8_next)) (gX2 : GoodIn Ts (va_wsU RX9 82 RX2 "PlaneBlocks$Bits" xBits yX2_next wsX2_next)) (gX7 : GoodIn Ts (va_wsU RX9 82 RX7 "PlaneBlocks$Bits" xBits yX7_next wsX7_next)) (hR : 5 ≤ R.frames ∧ 129 ≤ R.locals) (l : Launch) (dC : Nat → ClassId) (dI : Nat → Nat → Nat) (cI cJ cZ : ClassId) (tP tN tO : Nat) (a_row : Nat) (a_bytes : Nat) (a_ctx : Nat) (a_states : Nat) (a_likely : Nat) (a_cw : Nat) (a_rw : Nat) (a_cr : Nat) (a_rr : Nat) (row_count : Int32) (row_start : Int32) (bytes_n : Nat) (bytes_f : Nat → Int32) (states_n : Nat) (states_f : Nat → Int32) (likely_n : Nat) (likely_f : Nat → Int32) (cw_low : Int32) (cw_size : Int32) (cw_room : Int32) (rw_free : Int32) (cr_place : Int32) (cr_end : Int32) (cr_window : Int32) (cr_size : Int32) (cr_room : Int32) (rr_place : Int32) (rr_end : Int32) (rr_current : Int32) (rr_left : Int32) (p1 p2 : Int32) (scan_bk : Nat) (hpre : P_B_next row_count row_start bytes_n bytes_f states_n states_f likely_n likely_f cw_low cw_size cw_room rw_free cr_place cr_end cr_window cr_size cr_room rr_place rr_end rr_current rr_left p1 p2 scan_bk) (hK : va_K (dC, dI) vwCl [(cI, .int), (cJ, .long), (cZ, .boolean)] s) (hPc : va_P (dC, dI) vwCl (wd_row_bytes_ctx_states_likely_cw_rw_cr_rr cI a_row a_bytes a_ctx a_states a_likely a_cw a_rw a_cr a_rr row_count row_start bytes_n bytes_f states_n states_f likely_n likely_f cw_low cw_size cw_room rw_free cr_place cr_end cr_window cr_size cr_room rr_place rr_end rr_current rr_left) H) (hDc : va_D A0 (wd_row_bytes_ctx_states_likely_cw_rw_cr_rr cI a_row a_bytes a_ctx a_states a_likely a_cw a_rw a_cr a_rr row_count row_start bytes_n bytes_f states_n states_f likely_n likely_f cw_low cw_size cw_room rw_free cr_place cr_end cr_window cr_size cr_room rr_place rr_end rr_current rr_left)) (hZ : Zs tP tN tO (va_A (wd_row_bytes_ctx_states_likely_cw_rw_cr_rr cI a_row a_bytes a_ctx a_states a_likely a_cw a_rw a_cr a_rr row_count row_start bytes_n bytes_f states_n states_f likely_n likely_f cw_low cw_size cw_room rw_free cr_place cr_end cr_window cr_size cr_room rr_place rr_end rr_current rr_left) H.size) s H) (hz : va_Nw (.declares xBits) s) (hls : ls.size = nL) (hst : (rest.map fun v => v.category).sum ≤ 8) (hdg : decode cc pc = .ok (.invokevirtual 82, 3)) (hf : k + D_B_next row_count row_start bytes_n bytes_f states_n states_f likely_n likely_f cw_low cw_size cw_room rw_free cr_place cr_end cr_window cr_size cr_room rr_place rr_end rr_current rr_left p1 p2 scan_bk ≤ R.cells ∧ k + D_B_next row_count row_start bytes_n bytes_f states_n states_f likely_n likely_f cw_low cw_size cw_room rw_free cr_place cr_end cr_window cr_size cr_room rr_place rr_end rr_current rr_left p1 p2 scan_bk ≤ R.slots) : va_Run p l e R s m args below meth c H locs k k (D_B_next row_count row_start bytes_n bytes_f states_n states_f likely_n likely_f cw_low cw_size cw_room rw_free cr_place cr_end cr_window cr_size cr_room rr_place rr_end rr_current rr_left p1 p2 scan_bk) (D_B_next row_count row_start bytes_n bytes_f states_n states_f likely_n likely_f cw_low cw_size cw_room rw_free cr_place cr_end cr_window cr_size cr_room rr_place rr_end rr_current rr_left p1 p2 scan_bk) (F0 m pc ls (.int p2 :: .int p1 :: .ref (bsel scan_bk a_cw a_rw a_cr a_rr) :: rest)) rest (Q_N3 dC dI cI cJ cZ a_row a_bytes a_ctx a_states a_likely a_cw a_rw a_cr a_rr (va_A (wd_row_bytes_ctx_states_likely_cw_rw_cr_rr cI a_row a_bytes a_ctx a_states a_likely a_cw a_rw a_cr a_rr row_count row_start bytes_n bytes_f states_n states_f likely_n likely_f cw_low cw_size cw_room rw_free cr_place cr_end cr_window cr_size cr_room rr_place rr_end rr_current rr_left) H.size) row_count row_start bytes_n bytes_f states_n states_f likely_n likely_f cw_low cw_size cw_room rw_free cr_place cr_end cr_window cr_size cr_room rr_place rr_end rr_current rr_left (F_B_next row_count row_start bytes_n bytes_f states_n states_f likely_n likely_f cw_low cw_size cw_room rw_free cr_place cr_end cr_window cr_size cr_room rr_place rr_end rr_current rr_left p1 p2 scan_bk) (Value.ref (bsel scan_bk a_cw a_rw a_cr a_rr) :: [.int p1, .int p2]).toArray) (va_A (wd_row_bytes_ctx_states_likely_cw_rw_cr_rr cI a_row a_bytes a_ctx a_states a_likely a_cw a_rw a_cr a_rr row_count row_start bytes_n bytes_f states_n states_f likely_n likely_f cw_low cw_size cw_room rw_free cr_place cr_end cr_window cr_size cr_room rr_place rr_end rr_current rr_left) H.size) := by
  have hfb : ∀ {av : List Value}, FrameBlind (va_Pc av (fun U => U.heap.size = H.size ∧ va_P (dC, dI) vwCl (wd_row_bytes_ctx_states_likely_cw_rw_cr_rr cI a_row a_bytes a_ctx a_states a_likely a_cw a_rw a_cr a_rr row_count row_start bytes_n bytes_f states_n states_f likely_n likely_f cw_low cw_size cw_room rw_free cr_place cr_end cr_window cr_size cr_room rr_place rr_end rr_current rr_left) U.heap ∧ va_K (dC, dI) vwCl [(cI, .int), (cJ, .long), (cZ, .boolean)] U ∧ va_D (fun _ => True) (wd_row_bytes_ctx_states_likely_cw_rw_cr_rr cI a_row a_bytes a_ctx a_states a_likely a_cw a_rw a_cr a_rr row_count row_start bytes_n bytes_f states_n states_f likely_n likely_f cw_low cw_size cw_room rw_free cr_place cr_end cr_window cr_size cr_room rr_place rr_end rr_current rr_left) ∧ Zs tP tN tO (va_A (wd_row_bytes_ctx_states_likely_cw_rw_cr_rr cI a_row a_bytes a_ctx a_states a_likely a_cw a_rw a_cr a_rr row_count row_start bytes_n bytes_f states_n states_f likely_n likely_f cw_low cw_size cw_room rw_free cr_place cr_end cr_window cr_size cr_room rr_place rr_end rr_current rr_left) H.size) U U.heap)) := fun a U g mk q => by obtain ⟨q0, q1, qP, qK, qD, qZ⟩ := q; exact ⟨q0, q1, qP, va_K.moved (u := U) (U := U.calling g mk a) (Vm.Alike.refl U.vm) qK, qD, Zs.moved (u := U) (U := U.calling g mk a) (Vm.Alike.refl U.vm) qZ⟩
  have hfb2 : ∀ {av : List Value}, FrameBlind (va_Pc av (fun U => U.heap.size = H.size ∧ va_P (dC, dI) vwCl (wd_row_bytes_ctx_states_likely_cw_rw_cr_rr cI a_row a_bytes a_ctx a_states a_likely a_cw a_rw a_cr a_rr row_count row_start bytes_n bytes_f states_n states_f likely_n likely_f cw_low cw_size cw_room rw_free cr_place cr_end cr_window cr_size cr_room rr_place rr_end rr_current rr_left) U.heap ∧ va_K (dC, dI) vwCl [(cI, .int), (cJ, .long), (cZ, .boolean)] U ∧ va_D (fun _ => True) (wd_row_bytes_ctx_states_likely_cw_rw_cr_rr cI a_row a_bytes a_ctx a_states a_likely a_cw a_rw a_cr a_rr row_count row_start bytes_n bytes_f states_n states_f likely_n likely_f cw_low cw_size cw_room rw_free cr_place cr_end cr_window cr_size cr_room rr_place rr_end rr_current rr_left))) := fun a U g mk q => by obtain ⟨q0, q1, qP, qK, qD⟩ := q; exact ⟨q0, q1, qP, va_K.moved (u := U) (U := U.calling g mk a) (Vm.Alike.refl U.vm) qK, qD⟩
  have hro := lv_room (m := m) (pc := pc) (ls := ls) (rest := (.int p2 :: .int p1 :: .ref (bsel scan_bk a_cw a_rw a_cr a_rr) :: rest)) hst
  match scan_bk, hpre, hf, hro with
  | 0, hpre, hf, hro => exact va_runU (As := [.int p1, .int p2]) (rest := rest) S (c_N3 l dC dI cI cJ cZ tP tN tO a_row a_bytes a_ctx a_states a_likely a_cw a_rw a_cr a_rr H.size row_count row_start bytes_n bytes_f states_n states_f likely_n likely_f cw_low cw_size cw_room rw_free cr_place cr_end cr_window cr_size cr_room rr_place rr_end rr_current rr_left p1 p2 hpre) (va_cwA 2 S.2.2.2.2 gX3 rfl rfl rfl hz (by decide +kernel) ⟨Nat.le_trans (Nat.le_of_ble_eq_true rfl) hR.1, Nat.le_trans (Nat.le_of_ble_eq_true rfl) hR.2⟩) ⟨hfb, va_recv hK hPc (ci := 2) (q0 := 5) rfl rfl, fun U hU hW => ⟨rfl, by rw [hU], by rw [hU]; exact hPc, va_K.moved hW.alike hK, hDc.weaken (fun _ _ _ _ => trivial), by rw [hU]; exact hZ.moved hW.alike⟩⟩ rfl rfl hls rfl hro hdg hf
  | 1, hpre, hf, hro => exact va_runU (As := [.int p1, .int p2]) (rest := rest) S (c_N8 l dC dI cI cJ cZ a_row a_bytes a_ctx a_states a_likely a_cw a_rw a_cr a_rr H.size row_count row_start bytes_n bytes_f states_n states_f likely_n likely_f cw_low cw_size cw_room rw_free cr_place cr_end cr_window cr_size cr_room rr_place rr_end rr_current rr_left p1 p2 hpre) (va_cwA 2 S.2.2.2.2 gX8 rfl rfl rfl hz (by decide +kernel) ⟨Nat.le_trans (Nat.le_of_ble_eq_true rfl) hR.1, Nat.le_trans (Nat.le_of_ble_eq_true rfl) hR.2⟩) ⟨hfb2, va_recv hK hPc (ci := 7) (q0 := 6) rfl rfl, fun U hU hW => ⟨rfl, by rw [hU], by rw [hU]; exact hPc, va_K.moved hW.alike hK, hDc.weaken (fun _ _ _ _ => trivial)⟩⟩ rfl rfl hls rfl hro hdg hf
  | 2, hpre, hf, hro => exact va_runU (As := [.int p1, .int p2]) (rest := rest) S (c_N2 l dC dI cI cJ cZ tP tN tO a_row a_bytes a_ctx a_states a_likely a_cw a_rw a_cr a_rr H.size row_count row_start bytes_n bytes_f states_n states_f likely_n likely_f cw_low cw_size cw_room rw_free cr_place cr_end cr_window cr_size cr_room rr_place rr_end rr_current rr_left p1 p2 hpre) (va_cwA 2 S.2.2.2.2 gX2 rfl rfl rfl hz (by decide +kernel) ⟨Nat.le_trans (Nat.le_of_ble_eq_true rfl) hR.1, Nat.le_trans (Nat.le_of_ble_eq_true rfl) hR.2⟩) ⟨hfb, va_recv hK hPc (ci := 1) (q0 := 7) rfl rfl, fun U hU hW => ⟨rfl, by rw [hU], by rw [hU]; exact hPc, va_K.moved hW.alike hK, hDc.weaken (fun _ _ _ _ => trivial), by rw [hU]; exact hZ.moved hW.alike⟩⟩ rfl rfl hls rfl hro hdg hf
  | n + 3, hpre, hf, hro => exact va_runU (As := [.int p1, .int p2]) (rest := rest) S (c_N7 l dC dI cI cJ cZ a_row a_bytes a_ctx a_states a_likely a_cw a_rw a_cr a_rr H.size row_count row_start bytes_n bytes_f states_n states_f likely_n likely_f cw_low cw_size cw_room rw_free cr_place cr_end cr_window cr_size cr_room rr_place rr_end rr_current rr_left p1 p2 hpre) (va_cwA 2 S.2.2.2.2 gX7 rfl rfl rfl hz (by decide +kernel) ⟨Nat.le_trans (Nat.le_of_ble_eq_true rfl) hR.1, Nat.le_trans (Nat.le_of_ble_eq_true rfl) hR.2⟩) ⟨hfb2, va_recv hK hPc (ci := 6) (q0 := 8) rfl rfl, fun U hU hW => ⟨rfl, by rw [hU], by rw [hU]; exact hPc, va_K.moved hW.alike hK, hDc.weaken (fun _ _ _ _ => trivial)⟩⟩ rfl rfl hls rfl hro hdg hf
