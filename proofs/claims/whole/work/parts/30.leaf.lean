/-- the three static rows of Contexts -/
def Zs (tP tN tO : Nat) (A : Nat → Prop) (U : State) (H : Heap) : Prop :=
  va_Z "PlaneBlocks$Contexts" "PARTS" "[I" (.ref tP) A U H ∧ va_T .int tP 47 (fun j => .int (tabP j)) A U H ∧
  va_Z "PlaneBlocks$Contexts" "NEXT" "[I" (.ref tN) A U H ∧ va_T .int tN 47 (fun j => .int (tabN j)) A U H ∧
  va_Z "PlaneBlocks$Contexts" "OTHER" "[I" (.ref tO) A U H ∧ va_T .int tO 47 (fun j => .int (tabO j)) A U H
theorem Zs.moved {tP tN tO : Nat} {A : Nat → Prop} {u U : State} {H : Heap} (hvm : u.vm.Alike U.vm) (h : Zs tP tN tO A u H) : Zs tP tN tO A U H :=
  ⟨h.1.moved hvm, h.2.1.moved hvm, h.2.2.1.moved hvm, h.2.2.2.1.moved hvm, h.2.2.2.2.1.moved hvm, h.2.2.2.2.2.moved hvm⟩
theorem Zs.kept {tP tN tO : Nat} {A : Nat → Prop} {U : State} {H H1 : Heap} (h : Zs tP tN tO A U H) (hq : ∀ a : Nat, a < H.size → ¬ A a → H1[a]? = H[a]?) : Zs tP tN tO A U H1 :=
  ⟨h.1.kept hq, h.2.1.kept hq, h.2.2.1.kept hq, h.2.2.2.1.kept hq, h.2.2.2.2.1.kept hq, h.2.2.2.2.2.kept hq⟩
theorem Zs.narrow {tP tN tO : Nat} {A B : Nat → Prop} {U : State} {H : Heap} (h : Zs tP tN tO A U H) (hAB : ∀ q, B q → A q) : Zs tP tN tO B U H :=
  ⟨h.1.narrow hAB, h.2.1.narrow hAB, h.2.2.1.narrow hAB, h.2.2.2.1.narrow hAB, h.2.2.2.2.1.narrow hAB, h.2.2.2.2.2.narrow hAB⟩

abbrev wd_arr (cI : ClassId) (a_arr : Nat) (arr_n : Nat) (arr_f : Nat → Int32) : va_W := [(a_arr, .inl (cI, arr_n, .inl arr_f))]
abbrev rm_J7_fill_53178 : Room := { frames := 0, cells := 0, slots := 0, locals := 0 }
abbrev Q_J7_fill_53178 (dC : Nat → ClassId) (dI : Nat → Nat → Nat) (cI cJ cZ : ClassId) (a_arr : Nat) (A : Nat → Prop) (arr_n : Nat) (arr_f : Nat → Int32) (g : (Nat → Int32)) : Array Value → State → Outcome → State → Prop := va_Qv (fun _ : Unit => True) (fun u t => va_P (dC, dI) vwCl (wd_arr cI a_arr arr_n g) t.heap ∧ va_K (dC, dI) vwCl [(cI, .int), (cJ, .long), (cZ, .boolean)] t ∧ va_D A (wd_arr cI a_arr arr_n g)) A
set_option maxHeartbeats 4000000 in
set_option maxRecDepth 100000 in
theorem c_J7_fill_53178 (l : Launch) (dC : Nat → ClassId) (dI : Nat → Nat → Nat) (cI cJ cZ : ClassId) (a_arr : Nat) (sz : Nat) (arr_n : Nat) (arr_f : Nat → Int32) (p2 : Int32) (hpre : P_J7_fill_53178 p2 arr_n arr_f) : Met l yJ7_fill_53178 wsJ7_fill_53178 rm_J7_fill_53178 (va_Pc [.ref a_arr, .int p2] (fun U => U.heap.size = sz ∧ va_P (dC, dI) vwCl (wd_arr cI a_arr arr_n arr_f) U.heap ∧ va_K (dC, dI) vwCl [(cI, .int), (cJ, .long), (cZ, .boolean)] U ∧ va_D (fun _ => True) (wd_arr cI a_arr arr_n arr_f))) (Q_J7_fill_53178 dC dI cI cJ cZ a_arr (va_A (wd_arr cI a_arr arr_n arr_f) sz) arr_n arr_f (F_J7_fill_53178 p2 arr_n arr_f)) 0 0 (va_A (wd_arr cI a_arr arr_n arr_f) sz) := by
  refine Met.ofW (cc := cJ7_fill_53178) (maxL := 4) (ret := none) (by decide) rfl ?_
  intro p e s m args below meth c s₁ B hml hv
  obtain ⟨rfl, hsz, hP, hK, hD0⟩ := hv
  have hx := B.exec
  have hb := B.bytes
  have hr := B.returns
  have hts := atoms_spec (ws := wsJ7_fill_53178) B.pre
  have hown : s.vm.findClass RJ7 = some m.cls := findClass_of_methodNamed B.named
  have hlocks := B.notSynchronized
  subst hsz
  have hD := hD0.self (sz := s.heap.size)
  generalize hAe : va_A (wd_arr cI a_arr arr_n arr_f) s.heap.size = A at hD ⊢
  have hA : ∀ q : Nat, s.heap.size ≤ q → A q := fun q h => by rw [← hAe]; exact Or.inr h
  have hS : va_S A s.heap s.heap [] := va_S.rf
  obtain ⟨H, hH⟩ : ∃ z, z = s.heap := ⟨_, rfl⟩
  have hP : va_P (dC, dI) vwCl (wd_arr cI a_arr arr_n arr_f) H := by rw [hH]; exact hP
  have hS : va_S A s.heap H [] := by rw [hH]; exact va_S.rf
  obtain ⟨g, hg⟩ : ∃ z, F_J7_fill_53178 p2 arr_n arr_f = z := ⟨_, rfl⟩
  rw [hg]
  generalize hQe : MQ below (Q_J7_fill_53178 dC dI cI cJ cZ a_arr A arr_n arr_f g) _ s 0 0 A = Q
  rw [← hH]
  clear hH
  have hl := lv_entry ([.ref a_arr, .int p2]) (n := 4) (Nat.le_of_ble_eq_true rfl)
  rw [lg_entry_eq]
  generalize (lg_sl ([.ref a_arr, .int p2]) ++ List.replicate (4 - (lg_sl ([.ref a_arr, .int p2])).length) Slot.unset).toArray = ls at hl ⊢
  have hl : lv_has ls 4 [(0, .ref a_arr), (1, .int p2)] := hl
  unfold F_J7_fill_53178 at hg
  unfold P_J7_fill_53178 at hpre
  refine lv_iconst (v := 0) hx hb dJ7_fill_53178_0 (by decide) ?_
  refine lv_istore_n (lv' := [(2, .int (0 : Int32)), (0, .ref a_arr), (1, .int p2)]) hx hb dJ7_fill_53178_1 rfl hl (by decide) rfl (fun ls hl => ?_)
  refine lv_aload_n hx hb dJ7_fill_53178_2 rfl (lv_at hl 1 rfl) ?_
  refine va_alen hx hb hK hP 0 0 (v := (nI arr_n)) rfl rfl rfl dJ7_fill_53178_3 ?_
  refine lv_istore_n (lv' := [(3, .int (nI arr_n)), (2, .int (0 : Int32)), (0, .ref a_arr), (1, .int p2)]) hx hb dJ7_fill_53178_4 rfl hl (by decide) rfl (fun ls hl => ?_)
  obtain ⟨j_1, hj_1⟩ : ∃ z, L_J7_fill_53178_j_1 p2 arr_n fu (0 : Int32) arr_f = z := ⟨_, rfl⟩
  have hg : j_1.2 = g := by first | (rw [hj_1] at hg; exact hg) | (subst hj_1; exact hg)
  have hJ_j_1 : ∀ (H : Heap) (locs : List Loc) (ls : Array Slot), va_P (dC, dI) vwCl (wd_arr cI a_arr arr_n j_1.2) H → va_D A (wd_arr cI a_arr arr_n j_1.2) → va_S A s.heap H locs → lv_has ls 4 [(0, .ref a_arr), (1, .int p2), (2, .int j_1.1), (3, .int (nI arr_n))] → W p l e (headSpec wsJ7_fill_53178 rm_J7_fill_53178).room s m ([.ref a_arr, .int p2] : List Value).toArray below meth c H locs 0 0 Q (F0 m 20 ls []) := by
    intro H locs ls hP hD hS hl
    subst hg
    rw [← hQe]
    exact W.vret hx hb hr (fun t ht hW => ⟨⟨(), rfl, trivial, by rw [ht]; exact hP, va_K.moved hW.alike hK, hD⟩, hS.F ht⟩) hS.2.2 dJ7_fill_53178_20
  have hL_j_1 : ∀ (n : Nat) (v2_j_1 : Int32) (arr_f_j_1 : Nat → Int32) (H : Heap) (locs : List Loc) (ls : Array Slot), PL_J7_fill_53178_j_1 p2 arr_n n v2_j_1 arr_f_j_1 → L_J7_fill_53178_j_1 p2 arr_n n v2_j_1 arr_f_j_1 = j_1 → va_P (dC, dI) vwCl (wd_arr cI a_arr arr_n arr_f_j_1) H → va_D A (wd_arr cI a_arr arr_n arr_f_j_1) → va_S A s.heap H locs → lv_has ls 4 [(0, .ref a_arr), (1, .int p2), (2, .int v2_j_1), (3, .int (nI arr_n))] → W p l e (headSpec wsJ7_fill_53178 rm_J7_fill_53178).room s m ([.ref a_arr, .int p2] : List Value).toArray below meth c H locs 0 0 Q (F0 m 5 ls []) := by
    intro n
    induction n with
    | zero => intro v2_j_1 arr_f_j_1 H locs ls hpre; exact absurd hpre id
    | succ n ih =>
      intro v2_j_1 arr_f_j_1 H locs ls hpre hg hP hD hS hl
      rw [PL_J7_fill_53178_j_1] at hpre
      rw [L_J7_fill_53178_j_1] at hg
      refine lv_iload_n hx hb dJ7_fill_53178_5 rfl (lv_at hl 2 rfl) ?_
      refine lv_iload_n hx hb dJ7_fill_53178_6 rfl (lv_at hl 3 rfl) ?_
      refine lv_icmp_ge (tgt := 20) hx hb dJ7_fill_53178_7 (by decide) (fun c_2 => ?_) (fun c_2 => ?_)
      · rw [if_pos c_2] at hg
        exact hJ_j_1 _ _ _ (by rw [← hg]; exact hP) (by rw [← hg]; exact hD) hS (by rw [← hg]; exact lv_sub hl [0, 1, 2, 3] rfl)
      · rw [if_neg c_2] at hg
        have hpre := hpre c_2
        refine lv_aload_n hx hb dJ7_fill_53178_10 rfl (lv_at hl 0 rfl) ?_
        refine lv_iload_n hx hb dJ7_fill_53178_11 rfl (lv_at hl 2 rfl) ?_
        refine lv_iload_n hx hb dJ7_fill_53178_12 rfl (lv_at hl 1 rfl) ?_
        have h_3 := hpre.1
        have hpre := hpre.2
        refine va_iast hx hb hK hP hD hS 0 0 rfl rfl h_3 dJ7_fill_53178_13 (fun H locs hP hD hS => ?_)
        have hP : va_P (dC, dI) vwCl (wd_arr cI a_arr arr_n (upd arr_f_j_1 v2_j_1.toNatClampNeg p2)) H := hP
        have hD : va_D A (wd_arr cI a_arr arr_n (upd arr_f_j_1 v2_j_1.toNatClampNeg p2)) := hD
        refine lv_iinc (v := (v2_j_1 + (1 : Int32))) (lv' := [(2, .int (v2_j_1 + (1 : Int32))), (0, .ref a_arr), (1, .int p2), (3, .int (nI arr_n))]) hx hb dJ7_fill_53178_14 hl (k := 2) rfl rfl (by decide) rfl (fun ls hl => ?_)
        refine lv_goto (tgt := 5) hx hb dJ7_fill_53178_17 (by decide) ?_
        exact ih (v2_j_1 + (1 : Int32)) (upd arr_f_j_1 v2_j_1.toNatClampNeg p2) _ _ _ hpre hg hP hD hS (lv_sub hl [1, 2, 0, 3] rfl)
  exact hL_j_1 fu (0 : Int32) arr_f _ _ _ hpre hj_1 hP hD hS (lv_sub hl [2, 3, 1, 0] rfl)
abbrev wd_ : va_W := []
abbrev rm_J6_signum_0f7a4 : Room := { frames := 0, cells := 0, slots := 0, locals := 0 }
abbrev Q_J6_signum_0f7a4 (dC : Nat → ClassId) (dI : Nat → Nat → Nat) (cI cJ cZ : ClassId) (A : Nat → Prop) (g : Int32) : Array Value → State → Outcome → State → Prop := va_Qi (fun (r : Int32) (_ : Unit) => r = g) (fun u t => va_P (dC, dI) vwCl (wd_) t.heap ∧ va_K (dC, dI) vwCl [(cI, .int), (cJ, .long), (cZ, .boolean)] t ∧ va_D A (wd_)) A
set_option maxHeartbeats 4000000 in
set_option maxRecDepth 100000 in
theorem c_J6_signum_0f7a4 (l : Launch) (dC : Nat → ClassId) (dI : Nat → Nat → Nat) (cI cJ cZ : ClassId) (sz : Nat) (p1 : Int32) : Met l yJ6_signum_0f7a4 wsJ6_signum_0f7a4 rm_J6_signum_0f7a4 (va_Pc [.int p1] (fun U => U.heap.size = sz ∧ va_P (dC, dI) vwCl (wd_) U.heap ∧ va_K (dC, dI) vwCl [(cI, .int), (cJ, .long), (cZ, .boolean)] U ∧ va_D (fun _ => True) (wd_))) (Q_J6_signum_0f7a4 dC dI cI cJ cZ (va_A (wd_) sz) (F_J6_signum_0f7a4 p1)) 0 0 (va_A (wd_) sz) := by
  refine Met.ofW (cc := cJ6_signum_0f7a4) (maxL := 1) (ret := (some .int)) (by decide) rfl ?_
  intro p e s m args below meth c s₁ B hml hv
  obtain ⟨rfl, hsz, hP, hK, hD0⟩ := hv
  have hx := B.exec
  have hb := B.bytes
  have hr := B.returns
  have hts := atoms_spec (ws := wsJ6_signum_0f7a4) B.pre
  have hown : s.vm.findClass RJ6 = some m.cls := findClass_of_methodNamed B.named
  have hlocks := B.notSynchronized
  subst hsz
  have hD := hD0.self (sz := s.heap.size)
  generalize hAe : va_A (wd_) s.heap.size = A at hD ⊢
  have hA : ∀ q : Nat, s.heap.size ≤ q → A q := fun q h => by rw [← hAe]; exact Or.inr h
  have hS : va_S A s.heap s.heap [] := va_S.rf
  obtain ⟨H, hH⟩ : ∃ z, z = s.heap := ⟨_, rfl⟩
  have hP : va_P (dC, dI) vwCl (wd_) H := by rw [hH]; exact hP
  have hS : va_S A s.heap H [] := by rw [hH]; exact va_S.rf
  obtain ⟨g, hg⟩ : ∃ z, F_J6_signum_0f7a4 p1 = z := ⟨_, rfl⟩
  rw [hg]
  generalize hQe : MQ below (Q_J6_signum_0f7a4 dC dI cI cJ cZ A g) _ s 0 0 A = Q
  rw [← hH]
  clear hH
  have hl := lv_entry ([.int p1]) (n := 1) (Nat.le_of_ble_eq_true rfl)
  rw [lg_entry_eq]
  generalize (lg_sl ([.int p1]) ++ List.replicate (1 - (lg_sl ([.int p1])).length) Slot.unset).toArray = ls at hl ⊢
  have hl : lv_has ls 1 [(0, .int p1)] := hl
  unfold F_J6_signum_0f7a4 at hg
  refine lv_iload_n hx hb dJ6_signum_0f7a4_0 rfl (lv_at hl 0 rfl) ?_
  refine lv_bipush (v := 31) hx hb dJ6_signum_0f7a4_1 (by decide) ?_
  refine lv_ishr hx hb dJ6_signum_0f7a4_3 ?_
  refine lv_iload_n hx hb dJ6_signum_0f7a4_4 rfl (lv_at hl 0 rfl) ?_
  refine lv_ineg hx hb dJ6_signum_0f7a4_5 ?_
  refine lv_bipush (v := 31) hx hb dJ6_signum_0f7a4_6 (by decide) ?_
  refine lv_iushr hx hb dJ6_signum_0f7a4_8 rfl ?_
  refine lv_ior hx hb dJ6_signum_0f7a4_9 ?_
  subst hg
  rw [← hQe]
  exact W.iret (v := ((p1 >>> ((31 : Int32) &&& 31)) ||| (((-p1).toUInt32 >>> ((31 : Int32).toUInt32 &&& Int32.toUInt32 31)).toInt32))) hx hb hr (fun t ht hW => ⟨⟨((p1 >>> ((31 : Int32) &&& 31)) ||| (((-p1).toUInt32 >>> ((31 : Int32).toUInt32 &&& Int32.toUInt32 31)).toInt32)), (), rfl, rfl, by rw [ht]; exact hP, va_K.moved hW.alike hK, hD⟩, hS.F ht⟩) hS.2.2 dJ6_signum_0f7a4_10
abbrev rm_J6_numberOfLeadingZeros_0f7a4 : Room := { frames := 0, cells := 0, slots := 0, locals := 0 }
abbrev Q_J6_numberOfLeadingZeros_0f7a4 (dC : Nat → ClassId) (dI : Nat → Nat → Nat) (cI cJ cZ : ClassId) (A : Nat → Prop) (g : Int32) : Array Value → State → Outcome → State → Prop := va_Qi (fun (r : Int32) (_ : Unit) => r = g) (fun u t => va_P (dC, dI) vwCl (wd_) t.heap ∧ va_K (dC, dI) vwCl [(cI, .int), (cJ, .long), (cZ, .boolean)] t ∧ va_D A (wd_)) A
set_option maxHeartbeats 4000000 in
set_option maxRecDepth 100000 in
theorem c_J6_numberOfLeadingZeros_0f7a4 (l : Launch) (dC : Nat → ClassId) (dI : Nat → Nat → Nat) (cI cJ cZ : ClassId) (sz : Nat) (p1 : Int32) : Met l yJ6_numberOfLeadingZeros_0f7a4 wsJ6_numberOfLeadingZeros_0f7a4 rm_J6_numberOfLeadingZeros_0f7a4 (va_Pc [.int p1] (fun U => U.heap.size = sz ∧ va_P (dC, dI) vwCl (wd_) U.heap ∧ va_K (dC, dI) vwCl [(cI, .int), (cJ, .long), (cZ, .boolean)] U ∧ va_D (fun _ => True) (wd_))) (Q_J6_numberOfLeadingZeros_0f7a4 dC dI cI cJ cZ (va_A (wd_) sz) (F_J6_numberOfLeadingZeros_0f7a4 p1)) 0 0 (va_A (wd_) sz) := by
  refine Met.ofW (cc := cJ6_numberOfLeadingZeros_0f7a4) (maxL := 2) (ret := (some .int)) (by decide) rfl ?_
  intro p e s m args below meth c s₁ B hml hv
  obtain ⟨rfl, hsz, hP, hK, hD0⟩ := hv
  have hx := B.exec
  have hb := B.bytes
  have hr := B.returns
  have hts := atoms_spec (ws := wsJ6_numberOfLeadingZeros_0f7a4) B.pre
  have hown : s.vm.findClass RJ6 = some m.cls := findClass_of_methodNamed B.named
  have hlocks := B.notSynchronized
  subst hsz
  have hD := hD0.self (sz := s.heap.size)
  generalize hAe : va_A (wd_) s.heap.size = A at hD ⊢
  have hA : ∀ q : Nat, s.heap.size ≤ q → A q := fun q h => by rw [← hAe]; exact Or.inr h
  have hS : va_S A s.heap s.heap [] := va_S.rf
  obtain ⟨H, hH⟩ : ∃ z, z = s.heap := ⟨_, rfl⟩
  have hP : va_P (dC, dI) vwCl (wd_) H := by rw [hH]; exact hP
  have hS : va_S A s.heap H [] := by rw [hH]; exact va_S.rf
  obtain ⟨g, hg⟩ : ∃ z, F_J6_numberOfLeadingZeros_0f7a4 p1 = z := ⟨_, rfl⟩
  rw [hg]
  generalize hQe : MQ below (Q_J6_numberOfLeadingZeros_0f7a4 dC dI cI cJ cZ A g) _ s 0 0 A = Q
  rw [← hH]
  clear hH
  have hl := lv_entry ([.int p1]) (n := 2) (Nat.le_of_ble_eq_true rfl)
  rw [lg_entry_eq]
  generalize (lg_sl ([.int p1]) ++ List.replicate (2 - (lg_sl ([.int p1])).length) Slot.unset).toArray = ls at hl ⊢
  have hl : lv_has ls 2 [(0, .int p1)] := hl
  unfold F_J6_numberOfLeadingZeros_0f7a4 at hg
  refine lv_iload_n hx hb dJ6_numberOfLeadingZeros_0f7a4_0 rfl (lv_at hl 0 rfl) ?_
  refine lv_if_gt (tgt := 15) hx hb dJ6_numberOfLeadingZeros_0f7a4_1 (by decide) (fun c_1 => ?_) (fun c_1 => ?_)
  · rw [if_pos c_1] at hg
    refine lv_bipush (v := 31) hx hb dJ6_numberOfLeadingZeros_0f7a4_15 (by decide) ?_
    refine lv_istore_n (lv' := [(1, .int (31 : Int32)), (0, .int p1)]) hx hb dJ6_numberOfLeadingZeros_0f7a4_17 rfl hl (by decide) rfl (fun ls hl => ?_)
    refine lv_iload_n hx hb dJ6_numberOfLeadingZeros_0f7a4_18 rfl (lv_at hl 1 rfl) ?_
    refine lv_ldcw (v := 65536) hx hb hown (hts (.constant RJ6 264 (65536)) (by decide +kernel)) dJ6_numberOfLeadingZeros_0f7a4_19 ?_
    obtain ⟨j_3, hj_3⟩ : ∃ z, J_J6_numberOfLeadingZeros_0f7a4_j_3 p1 = z := ⟨_, rfl⟩
    have hg : (let j_5 := J_J6_numberOfLeadingZeros_0f7a4_j_5 j_3; let j_7 := J_J6_numberOfLeadingZeros_0f7a4_j_7 j_5; let j_9 := J_J6_numberOfLeadingZeros_0f7a4_j_9 j_7; j_9.2 - ((j_9.1.toUInt32 >>> ((1 : Int32).toUInt32 &&& Int32.toUInt32 31)).toInt32)) = g := by first | (rw [hj_3] at hg; exact hg) | (subst hj_3; exact hg)
    have hJ_j_3 : ∀ (H : Heap) (locs : List Loc) (ls : Array Slot), va_P (dC, dI) vwCl (wd_) H → va_D A (wd_) → va_S A s.heap H locs → lv_has ls 2 [(0, .int j_3.1), (1, .int j_3.2)] → W p l e (headSpec wsJ6_numberOfLeadingZeros_0f7a4 rm_J6_numberOfLeadingZeros_0f7a4).room s m ([.int p1] : List Value).toArray below meth c H locs 0 0 Q (F0 m 33 ls []) := by
      intro H locs ls hP hD hS hl
      refine lv_iload_n hx hb dJ6_numberOfLeadingZeros_0f7a4_33 rfl (lv_at hl 0 rfl) ?_
      refine lv_sipush (v := 256) hx hb dJ6_numberOfLeadingZeros_0f7a4_34 (by decide) ?_
      obtain ⟨j_5, hj_5⟩ : ∃ z, J_J6_numberOfLeadingZeros_0f7a4_j_5 j_3 = z := ⟨_, rfl⟩
      have hg : (let j_7 := J_J6_numberOfLeadingZeros_0f7a4_j_7 j_5; let j_9 := J_J6_numberOfLeadingZeros_0f7a4_j_9 j_7; j_9.2 - ((j_9.1.toUInt32 >>> ((1 : Int32).toUInt32 &&& Int32.toUInt32 31)).toInt32)) = g := by first | (rw [hj_5] at hg; exact hg) | (subst hj_5; exact hg)
      have hJ_j_5 : ∀ (H : Heap) (locs : List Loc) (ls : Array Slot), va_P (dC, dI) vwCl (wd_) H → va_D A (wd_) → va_S A s.heap H locs → lv_has ls 2 [(0, .int j_5.1), (1, .int j_5.2)] → W p l e (headSpec wsJ6_numberOfLeadingZeros_0f7a4 rm_J6_numberOfLeadingZeros_0f7a4).room s m ([.int p1] : List Value).toArray below meth c H locs 0 0 Q (F0 m 48 ls []) := by
        intro H locs ls hP hD hS hl
        refine lv_iload_n hx hb dJ6_numberOfLeadingZeros_0f7a4_48 rfl (lv_at hl 0 rfl) ?_
        refine lv_bipush (v := 16) hx hb dJ6_numberOfLeadingZeros_0f7a4_49 (by decide) ?_
        obtain ⟨j_7, hj_7⟩ : ∃ z, J_J6_numberOfLeadingZeros_0f7a4_j_7 j_5 = z := ⟨_, rfl⟩
        have hg : (let j_9 := J_J6_numberOfLeadingZeros_0f7a4_j_9 j_7; j_9.2 - ((j_9.1.toUInt32 >>> ((1 : Int32).toUInt32 &&& Int32.toUInt32 31)).toInt32)) = g := by first | (rw [hj_7] at hg; exact hg) | (subst hj_7; exact hg)
        have hJ_j_7 : ∀ (H : Heap) (locs : List Loc) (ls : Array Slot), va_P (dC, dI) vwCl (wd_) H → va_D A (wd_) → va_S A s.heap H locs → lv_has ls 2 [(0, .int j_7.1), (1, .int j_7.2)] → W p l e (headSpec wsJ6_numberOfLeadingZeros_0f7a4 rm_J6_numberOfLeadingZeros_0f7a4).room s m ([.int p1] : List Value).toArray below meth c H locs 0 0 Q (F0 m 61 ls []) := by
          intro H locs ls hP hD hS hl
          refine lv_iload_n hx hb dJ6_numberOfLeadingZeros_0f7a4_61 rfl (lv_at hl 0 rfl) ?_
          refine lv_iconst (v := 4) hx hb dJ6_numberOfLeadingZeros_0f7a4_62 (by decide) ?_
          obtain ⟨j_9, hj_9⟩ : ∃ z, J_J6_numberOfLeadingZeros_0f7a4_j_9 j_7 = z := ⟨_, rfl⟩
          have hg : (j_9.2 - ((j_9.1.toUInt32 >>> ((1 : Int32).toUInt32 &&& Int32.toUInt32 31)).toInt32)) = g := by first | (rw [hj_9] at hg; exact hg) | (subst hj_9; exact hg)
          have hJ_j_9 : ∀ (H : Heap) (locs : List Loc) (ls : Array Slot), va_P (dC, dI) vwCl (wd_) H → va_D A (wd_) → va_S A s.heap H locs → lv_has ls 2 [(0, .int j_9.1), (1, .int j_9.2)] → W p l e (headSpec wsJ6_numberOfLeadingZeros_0f7a4 rm_J6_numberOfLeadingZeros_0f7a4).room s m ([.int p1] : List Value).toArray below meth c H locs 0 0 Q (F0 m 73 ls []) := by
            intro H locs ls hP hD hS hl
            refine lv_iload_n hx hb dJ6_numberOfLeadingZeros_0f7a4_73 rfl (lv_at hl 1 rfl) ?_
            refine lv_iload_n hx hb dJ6_numberOfLeadingZeros_0f7a4_74 rfl (lv_at hl 0 rfl) ?_
            refine lv_iconst (v := 1) hx hb dJ6_numberOfLeadingZeros_0f7a4_75 (by decide) ?_
            refine lv_iushr hx hb dJ6_numberOfLeadingZeros_0f7a4_76 rfl ?_
            refine lv_isub hx hb dJ6_numberOfLeadingZeros_0f7a4_77 ?_
            subst hg
            rw [← hQe]
            exact W.iret (v := (j_9.2 - ((j_9.1.toUInt32 >>> ((1 : Int32).toUInt32 &&& Int32.toUInt32 31)).toInt32))) hx hb hr (fun t ht hW => ⟨⟨(j_9.2 - ((j_9.1.toUInt32 >>> ((1 : Int32).toUInt32 &&& Int32.toUInt32 31)).toInt32)), (), rfl, rfl, by rw [ht]; exact hP, va_K.moved hW.alike hK, hD⟩, hS.F ht⟩) hS.2.2 dJ6_numberOfLeadingZeros_0f7a4_78
          have hg : (if j_7.1 < (4 : Int32) then (j_7.1, j_7.2) else ((j_7.1.toUInt32 >>> ((2 : Int32).toUInt32 &&& Int32.toUInt32 31)).toInt32, j_7.2 + (-2 : Int32))) = j_9 := by rw [← hj_9]; rfl
          clear hj_9
          refine lv_icmp_lt (tgt := 73) hx hb dJ6_numberOfLeadingZeros_0f7a4_63 (by decide) (fun c_8 => ?_) (fun c_8 => ?_)
          · rw [if_pos c_8] at hg
            exact hJ_j_9 _ _ _ hP hD hS (by rw [← hg]; exact lv_sub hl [0, 1] rfl)
          · rw [if_neg c_8] at hg
            refine lv_iinc (v := (j_7.2 + (-2 : Int32))) (lv' := [(1, .int (j_7.2 + (-2 : Int32))), (0, .int j_7.1)]) hx hb dJ6_numberOfLeadingZeros_0f7a4_66 hl (k := 1) rfl rfl (by decide) rfl (fun ls hl => ?_)
            refine lv_iload_n hx hb dJ6_numberOfLeadingZeros_0f7a4_69 rfl (lv_at hl 1 rfl) ?_
            refine lv_iconst (v := 2) hx hb dJ6_numberOfLeadingZeros_0f7a4_70 (by decide) ?_
            refine lv_iushr hx hb dJ6_numberOfLeadingZeros_0f7a4_71 rfl ?_
            refine lv_istore_n (lv' := [(0, .int ((j_7.1.toUInt32 >>> ((2 : Int32).toUInt32 &&& Int32.toUInt32 31)).toInt32)), (1, .int (j_7.2 + (-2 : Int32)))]) hx hb dJ6_numberOfLeadingZeros_0f7a4_72 rfl hl (by decide) rfl (fun ls hl => ?_)
            exact hJ_j_9 _ _ _ hP hD hS (by rw [← hg]; exact lv_sub hl [0, 1] rfl)
        have hg : (if j_5.1 < (16 : Int32) then (j_5.1, j_5.2) else ((j_5.1.toUInt32 >>> ((4 : Int32).toUInt32 &&& Int32.toUInt32 31)).toInt32, j_5.2 + (-4 : Int32))) = j_7 := by rw [← hj_7]; rfl
        clear hj_7
        refine lv_icmp_lt (tgt := 61) hx hb dJ6_numberOfLeadingZeros_0f7a4_51 (by decide) (fun c_6 => ?_) (fun c_6 => ?_)
        · rw [if_pos c_6] at hg
          exact hJ_j_7 _ _ _ hP hD hS (by rw [← hg]; exact lv_sub hl [0, 1] rfl)
        · rw [if_neg c_6] at hg
          refine lv_iinc (v := (j_5.2 + (-4 : Int32))) (lv' := [(1, .int (j_5.2 + (-4 : Int32))), (0, .int j_5.1)]) hx hb dJ6_numberOfLeadingZeros_0f7a4_54 hl (k := 1) rfl rfl (by decide) rfl (fun ls hl => ?_)
          refine lv_iload_n hx hb dJ6_numberOfLeadingZeros_0f7a4_57 rfl (lv_at hl 1 rfl) ?_
          refine lv_iconst (v := 4) hx hb dJ6_numberOfLeadingZeros_0f7a4_58 (by decide) ?_
          refine lv_iushr hx hb dJ6_numberOfLeadingZeros_0f7a4_59 rfl ?_
          refine lv_istore_n (lv' := [(0, .int ((j_5.1.toUInt32 >>> ((4 : Int32).toUInt32 &&& Int32.toUInt32 31)).toInt32)), (1, .int (j_5.2 + (-4 : Int32)))]) hx hb dJ6_numberOfLeadingZeros_0f7a4_60 rfl hl (by decide) rfl (fun ls hl => ?_)
          exact hJ_j_7 _ _ _ hP hD hS (by rw [← hg]; exact lv_sub hl [0, 1] rfl)
      have hg : (if j_3.1 < (256 : Int32) then (j_3.1, j_3.2) else ((j_3.1.toUInt32 >>> ((8 : Int32).toUInt32 &&& Int32.toUInt32 31)).toInt32, j_3.2 + (-8 : Int32))) = j_5 := by rw [← hj_5]; rfl
      clear hj_5
      refine lv_icmp_lt (tgt := 48) hx hb dJ6_numberOfLeadingZeros_0f7a4_37 (by decide) (fun c_4 => ?_) (fun c_4 => ?_)
      · rw [if_pos c_4] at hg
        exact hJ_j_5 _ _ _ hP hD hS (by rw [← hg]; exact lv_sub hl [0, 1] rfl)
      · rw [if_neg c_4] at hg
        refine lv_iinc (v := (j_3.2 + (-8 : Int32))) (lv' := [(1, .int (j_3.2 + (-8 : Int32))), (0, .int j_3.1)]) hx hb dJ6_numberOfLeadingZeros_0f7a4_40 hl (k := 1) rfl rfl (by decide) rfl (fun ls hl => ?_)
        refine lv_iload_n hx hb dJ6_numberOfLeadingZeros_0f7a4_43 rfl (lv_at hl 1 rfl) ?_
        refine lv_bipush (v := 8) hx hb dJ6_numberOfLeadingZeros_0f7a4_44 (by decide) ?_
        refine lv_iushr hx hb dJ6_numberOfLeadingZeros_0f7a4_46 rfl ?_
        refine lv_istore_n (lv' := [(0, .int ((j_3.1.toUInt32 >>> ((8 : Int32).toUInt32 &&& Int32.toUInt32 31)).toInt32)), (1, .int (j_3.2 + (-8 : Int32)))]) hx hb dJ6_numberOfLeadingZeros_0f7a4_47 rfl hl (by decide) rfl (fun ls hl => ?_)
        exact hJ_j_5 _ _ _ hP hD hS (by rw [← hg]; exact lv_sub hl [0, 1] rfl)
    have hg : (if p1 < (65536 : Int32) then (p1, (31 : Int32)) else ((p1.toUInt32 >>> ((16 : Int32).toUInt32 &&& Int32.toUInt32 31)).toInt32, (31 : Int32) + (-16 : Int32))) = j_3 := by rw [← hj_3]; rfl
    clear hj_3
    refine lv_icmp_lt (tgt := 33) hx hb dJ6_numberOfLeadingZeros_0f7a4_22 (by decide) (fun c_2 => ?_) (fun c_2 => ?_)
    · rw [if_pos c_2] at hg
      exact hJ_j_3 _ _ _ hP hD hS (by rw [← hg]; exact lv_sub hl [1, 0] rfl)
    · rw [if_neg c_2] at hg
      refine lv_iinc (v := ((31 : Int32) + (-16 : Int32))) (lv' := [(1, .int ((31 : Int32) + (-16 : Int32))), (0, .int p1)]) hx hb dJ6_numberOfLeadingZeros_0f7a4_25 hl (k := 0) rfl rfl (by decide) rfl (fun ls hl => ?_)
      refine lv_iload_n hx hb dJ6_numberOfLeadingZeros_0f7a4_28 rfl (lv_at hl 1 rfl) ?_
      refine lv_bipush (v := 16) hx hb dJ6_numberOfLeadingZeros_0f7a4_29 (by decide) ?_
      refine lv_iushr hx hb dJ6_numberOfLeadingZeros_0f7a4_31 rfl ?_
      refine lv_istore_n (lv' := [(0, .int ((p1.toUInt32 >>> ((16 : Int32).toUInt32 &&& Int32.toUInt32 31)).toInt32)), (1, .int ((31 : Int32) + (-16 : Int32)))]) hx hb dJ6_numberOfLeadingZeros_0f7a4_32 rfl hl (by decide) rfl (fun ls hl => ?_)
      exact hJ_j_3 _ _ _ hP hD hS (by rw [← hg]; exact lv_sub hl [0, 1] rfl)
  · rw [if_neg c_1] at hg
    refine lv_iload_n hx hb dJ6_numberOfLeadingZeros_0f7a4_4 rfl (lv_at hl 0 rfl) ?_
    refine lv_if_ne (tgt := 13) hx hb dJ6_numberOfLeadingZeros_0f7a4_5 (by decide) (fun c_10 => ?_) (fun c_10 => ?_)
    · rw [if_neg c_10] at hg
      refine lv_iconst (v := 0) hx hb dJ6_numberOfLeadingZeros_0f7a4_13 (by decide) ?_
      subst hg
      rw [← hQe]
      exact W.iret (v := (0 : Int32)) hx hb hr (fun t ht hW => ⟨⟨(0 : Int32), (), rfl, rfl, by rw [ht]; exact hP, va_K.moved hW.alike hK, hD⟩, hS.F ht⟩) hS.2.2 dJ6_numberOfLeadingZeros_0f7a4_14
    · rw [if_pos c_10] at hg
      refine lv_bipush (v := 32) hx hb dJ6_numberOfLeadingZeros_0f7a4_8 (by decide) ?_
      refine lv_goto (tgt := 14) hx hb dJ6_numberOfLeadingZeros_0f7a4_10 (by decide) ?_
      subst hg
      rw [← hQe]
      exact W.iret (v := (32 : Int32)) hx hb hr (fun t ht hW => ⟨⟨(32 : Int32), (), rfl, rfl, by rw [ht]; exact hP, va_K.moved hW.alike hK, hD⟩, hS.F ht⟩) hS.2.2 dJ6_numberOfLeadingZeros_0f7a4_14
abbrev wd_arr_nw1 (cI : ClassId) (a_arr : Nat) (a_nw1 : Nat) (arr_n : Nat) (arr_f : Nat → Int32) (nw1_n : Nat) (nw1_f : Nat → Int32) : va_W := [(a_arr, .inl (cI, arr_n, .inl arr_f)), (a_nw1, .inl (cI, nw1_n, .inl nw1_f))]
abbrev rm_J7_copyOf_59c91 (Dt : Nat) : Room := { frames := 1, cells := Dt, slots := Dt, locals := 40 }
abbrev Q_J7_copyOf_59c91 (dC : Nat → ClassId) (dI : Nat → Nat → Nat) (cI cJ cZ : ClassId) (a_arr : Nat) (A : Nat → Prop) (arr_n : Nat) (arr_f : Nat → Int32) (g : (Nat × (Nat → Int32))) : Array Value → State → Outcome → State → Prop := va_Qr (fun _ : Unit => True) (fun u ra t => va_P (dC, dI) vwCl (wd_arr_nw1 cI a_arr ra arr_n arr_f g.1 g.2) t.heap ∧ va_K (dC, dI) vwCl [(cI, .int), (cJ, .long), (cZ, .boolean)] t ∧ va_D A (wd_arr_nw1 cI a_arr ra arr_n arr_f g.1 g.2)) A
set_option maxHeartbeats 4000000 in
set_option maxRecDepth 100000 in
theorem c_J7_copyOf_59c91 (l : Launch) (dC : Nat → ClassId) (dI : Nat → Nat → Nat) (cI cJ cZ : ClassId) (a_arr : Nat) (sz : Nat) (arr_n : Nat) (arr_f : Nat → Int32) (p2 : Int32) (hpre : P_J7_copyOf_59c91 p2 arr_n) : Met l yJ7_copyOf_59c91 wsJ7_copyOf_59c91 (rm_J7_copyOf_59c91 (D_J7_copyOf_59c91 p2 arr_n)) (va_Pc [.ref a_arr, .int p2] (fun U => U.heap.size = sz ∧ va_P (dC, dI) vwCl (wd_arr cI a_arr arr_n arr_f) U.heap ∧ va_K (dC, dI) vwCl [(cI, .int), (cJ, .long), (cZ, .boolean)] U ∧ va_D (fun _ => True) (wd_arr cI a_arr arr_n arr_f))) (Q_J7_copyOf_59c91 dC dI cI cJ cZ a_arr (va_A (wd_arr cI a_arr arr_n arr_f) sz) arr_n arr_f (F_J7_copyOf_59c91 p2 arr_n arr_f)) (D_J7_copyOf_59c91 p2 arr_n) (D_J7_copyOf_59c91 p2 arr_n) (va_A (wd_arr cI a_arr arr_n arr_f) sz) := by
  refine Met.ofW (cc := cJ7_copyOf_59c91) (maxL := 3) (ret := (some (.array .int))) (by decide) rfl ?_
  intro p e s m args below meth c s₁ B hml hv
  obtain ⟨rfl, hsz, hP, hK, hD0⟩ := hv
  have hx := B.exec
  have hb := B.bytes
  have hr := B.returns
  have hts := atoms_spec (ws := wsJ7_copyOf_59c91) B.pre
  have hown : s.vm.findClass RJ7 = some m.cls := findClass_of_methodNamed B.named
  have hlocks := B.notSynchronized
  subst hsz
  have hD := hD0.self (sz := s.heap.size)
  generalize hAe : va_A (wd_arr cI a_arr arr_n arr_f) s.heap.size = A at hD ⊢
  have hA : ∀ q : Nat, s.heap.size ≤ q → A q := fun q h => by rw [← hAe]; exact Or.inr h
  have hS : va_S A s.heap s.heap [] := va_S.rf
  obtain ⟨H, hH⟩ : ∃ z, z = s.heap := ⟨_, rfl⟩
  have hP : va_P (dC, dI) vwCl (wd_arr cI a_arr arr_n arr_f) H := by rw [hH]; exact hP
  have hS : va_S A s.heap H [] := by rw [hH]; exact va_S.rf
  obtain ⟨g, hg⟩ : ∃ z, F_J7_copyOf_59c91 p2 arr_n arr_f = z := ⟨_, rfl⟩
  rw [hg]
  obtain ⟨Dt, hDt⟩ : ∃ z, D_J7_copyOf_59c91 p2 arr_n = z := ⟨_, rfl⟩
  rw [hDt]
  generalize hQe : MQ below (Q_J7_copyOf_59c91 dC dI cI cJ cZ a_arr A arr_n arr_f g) _ s Dt Dt A = Q
  rw [← hH]
  clear hH
  have hl := lv_entry ([.ref a_arr, .int p2]) (n := 3) (Nat.le_of_ble_eq_true rfl)
  rw [lg_entry_eq]
  generalize (lg_sl ([.ref a_arr, .int p2]) ++ List.replicate (3 - (lg_sl ([.ref a_arr, .int p2])).length) Slot.unset).toArray = ls at hl ⊢
  have hl : lv_has ls 3 [(0, .ref a_arr), (1, .int p2)] := hl
  unfold F_J7_copyOf_59c91 at hg
  unfold P_J7_copyOf_59c91 at hpre
  unfold D_J7_copyOf_59c91 at hDt
  obtain ⟨k, hk⟩ : ∃ z : Nat, z = 0 := ⟨_, rfl⟩
  obtain ⟨E, hE⟩ : ∃ z : Nat, z = 0 := ⟨_, rfl⟩
  have hC : k + (if p2 = (nI arr_n) then 0 else ((p2.toNatClampNeg + 1) + (0))) + E ≤ Dt := by rw [hk, hE, Nat.zero_add]; exact Nat.le_of_eq hDt
  refine W.widen (k := k) (n := k) (Nat.zero_le _) (Nat.zero_le _) ?_
  clear hk hE hDt
  refine lv_iload_n hx hb dJ7_copyOf_59c91_0 rfl (lv_at hl 1 rfl) ?_
  refine lv_aload_n hx hb dJ7_copyOf_59c91_1 rfl (lv_at hl 0 rfl) ?_
  refine va_alen hx hb hK hP 0 0 (v := (nI arr_n)) rfl rfl rfl dJ7_copyOf_59c91_2 ?_
  refine lv_icmp_ne (tgt := 14) hx hb dJ7_copyOf_59c91_3 (by decide) (fun c_1 => ?_) (fun c_1 => ?_)
  · rw [if_neg c_1] at hg
    rw [if_neg c_1] at hC
    have hpre := hpre.2 c_1
    refine lv_iload_n hx hb dJ7_copyOf_59c91_14 rfl (lv_at hl 1 rfl) ?_
    have h_2 := hpre.1
    have hpre := hpre.2
    have h_3 := hpre.1
    have hpre := hpre.2
    refine va_newa (atype := .int) (ty := .int) (a0 := (p2.toNatClampNeg, .inl (fun _ => 0))) hx hb (hts (.arrayClass .int) (by decide +kernel)) rfl hK hP hD hS hA (fun _ => rfl) h_2 rfl h_3 (kn_le hC) (ks_le hC) dJ7_copyOf_59c91_15 (fun q_4 cA H hK1 hP hD hS => ?_)
    have e9 := k3_int hK1
    rw [e9] at hP hD
    clear hK1 e9
    have hP : va_P (dC, dI) vwCl (wd_arr_nw1 cI a_arr q_4 arr_n arr_f p2.toNatClampNeg (fun _ => (0 : Int32))) H := hP
    have hD : va_D A (wd_arr_nw1 cI a_arr q_4 arr_n arr_f p2.toNatClampNeg (fun _ => (0 : Int32))) := hD
    refine W.widen (k := k + (p2.toNatClampNeg + 1)) (n := k + (p2.toNatClampNeg + 1)) (by omega) (by omega) ?_
    obtain ⟨k1, hk1⟩ : ∃ z, z = k + ((p2.toNatClampNeg + 1)) := ⟨_, rfl⟩
    have hC : k1 + (0) + E ≤ Dt := by rw [hk1, Nat.add_assoc k]; exact hC
    refine W.widen (k := k1) (n := k1) (Nat.le_of_eq hk1.symm) (Nat.le_of_eq hk1.symm) ?_
    clear hk1
    generalize k1 = k at hC ⊢
    refine lv_astore_n (lv' := [(2, .ref q_4), (0, .ref a_arr), (1, .int p2)]) hx hb dJ7_copyOf_59c91_17 rfl hl (by decide) rfl (fun ls hl => ?_)
    refine lv_aload_n hx hb dJ7_copyOf_59c91_18 rfl (lv_at hl 1 rfl) ?_
    refine lv_iconst (v := 0) hx hb dJ7_copyOf_59c91_19 (by decide) ?_
    refine lv_aload_n hx hb dJ7_copyOf_59c91_20 rfl (lv_at hl 0 rfl) ?_
    refine lv_iconst (v := 0) hx hb dJ7_copyOf_59c91_21 (by decide) ?_
    refine lv_aload_n hx hb dJ7_copyOf_59c91_22 rfl (lv_at hl 1 rfl) ?_
    refine va_alen hx hb hK hP 0 0 (v := (nI arr_n)) rfl rfl rfl dJ7_copyOf_59c91_23 ?_
    refine lv_iload_n hx hb dJ7_copyOf_59c91_24 rfl (lv_at hl 2 rfl) ?_
    refine va_mmin hx hb (hml.trans hl.1.symm) hown (hts (.methodLink RJ7 304 Lib.Math.min.name) (by decide +kernel)) (hts (.static Lib.Math.min.name) (by decide +kernel)) (hts (.initialized "java/lang/Math") (by decide +kernel)) (hts (.code Lib.Math.min.name Lib.Math.min.code 2 (some .int)) (by decide +kernel)) (Nat.le_of_ble_eq_true rfl) (Nat.le_of_ble_eq_true rfl) (k0_le hC) (k0_le hC) dJ7_copyOf_59c91_25 ?_
    have h_5 := hpre.1
    have hpre := hpre.2
    have h_6 := hpre.1
    have hpre := hpre.2
    have h_7 := hpre
    refine va_copyi (ty := .int) hx hb (hml.trans hl.1.symm) hown (hts (.methodLink RJ7 150 arraycopyName) (by decide +kernel)) (hts (.native arraycopyName) (by decide +kernel)) (hts (.static arraycopyName) (by decide +kernel)) (hts (.initialized "java/lang/System") (by decide +kernel)) hK hP hD hS 0 1 0 0 rfl rfl rfl rfl rfl (by decide) (by decide) h_5 h_6 h_7 (fun _ _ => rfl) (Nat.le_of_ble_eq_true rfl) (by show _ ≤ 40; decide) dJ7_copyOf_59c91_28 (fun H locs hP hD hS => ?_)
    have hP : va_P (dC, dI) vwCl (wd_arr_nw1 cI a_arr q_4 arr_n arr_f p2.toNatClampNeg (va_cpy arr_f (fun _ => (0 : Int32)) (0 : Int32).toNatClampNeg (0 : Int32).toNatClampNeg (if p2 < (nI arr_n) then p2 else (nI arr_n)).toNatClampNeg)) H := hP
    have hD : va_D A (wd_arr_nw1 cI a_arr q_4 arr_n arr_f p2.toNatClampNeg (va_cpy arr_f (fun _ => (0 : Int32)) (0 : Int32).toNatClampNeg (0 : Int32).toNatClampNeg (if p2 < (nI arr_n) then p2 else (nI arr_n)).toNatClampNeg)) := hD
    refine lv_aload_n hx hb dJ7_copyOf_59c91_31 rfl (lv_at hl 0 rfl) ?_
    subst hg
    refine W.widen (k := Dt) (n := Dt) (k0_le hC) (k0_le hC) ?_
    rw [← hQe]
    exact W.aret (v := .ref q_4) hx hb hr (Or.inr ⟨_, rfl⟩) (Or.inr ⟨_, rfl⟩) (fun t ht hW => ⟨⟨(), q_4, rfl, trivial, by rw [ht]; exact hP.sub [0, 1] rfl, va_K.moved hW.alike hK, hD.sub [0, 1] (by decide) rfl⟩, hS.F ht⟩) hS.2.2 dJ7_copyOf_59c91_32
  · rw [if_pos c_1] at hg
    rw [if_pos c_1] at hC
    have hpre := hpre.1 c_1
    refine lv_aload_n hx hb dJ7_copyOf_59c91_6 rfl (lv_at hl 0 rfl) ?_
    exact absurd hpre id
