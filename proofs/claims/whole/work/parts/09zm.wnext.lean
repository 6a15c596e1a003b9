/-! ===== PURE: one pass of write ===== -/
theorem sta_next (sty : Int32) (T k : Nat) : staB sty T (k + 1) = endB sty T k := by
  unfold staB
  rw [decide_eq_false (by omega), Nat.add_sub_cancel, Bool.false_or]
theorem sgo_next (sty : Int32) (T k : Nat) : sgo sty T (k + 1) = sgo sty T k + bN (endB sty T k) := rfl
theorem ctx_same (c : CS) : c.ctx c.sf c.lf = c := rfl
theorem mctx_same (m : MS) : m.ctx m.sf m.lf = m := rfl
theorem nup_s {f : Nat → Nat} {k v : Nat} : nup f k v k = v := if_pos rfl
theorem nup_n {f : Nat → Nat} {k v j : Nat} (h : j ≠ k) : nup f k v j = f j := if_neg h
section
variable {b : EnvB} {P T k M f0 st : Nat} {G : GF} {g gc rc sb : Nat → Nat} {c : CS} {m : MS} {mags marks known below latest early again rch mrch mso mbg mln : Nat → Int32} {seg mseg fst : Int32} {gns mgns : Nat → Int64} {bef : Int64}
/-- what is written down, once pass k has gone and its segment goes on -/
theorem rch_on {mbg' : Nat → Int32} {rk : Nat} (hT : T ≤ 91) (hk : k < T) (he : endB b.sty T k = false) (hrk : rk ≤ 65541) (hst : st ≤ rk)
    (h : WRel b P T k M f0 st G g gc rc sb c m mags marks known below latest early again rch mrch mso mbg mln seg mseg fst gns mgns bef) (o6 : ∀ j, j < k → mbg' (sgo b.sty T j) = nI (sb j)) (o7 : mbg' (sgo b.sty T k) = nI st) :
    Rch b.sty T (k + 1) (nup rc k rk) (nup sb k st) (upd rch k (nI rk)) (upd mrch k (nI rk)) (upd mso k mseg) mbg' mln := by
  obtain ⟨h1, h2, h3, h4, h5, h6, h7, h8, h9, h10, ⟨r1, r2, r3, r4, r5, r6, r7, r8, r9⟩, h12, h13, h14, h15⟩ := h
  refine ⟨fun j hj => ?_, fun j hj => ?_, fun j hj => ?_, fun j hj => ?_, fun j hj => ?_, fun j hj => ?_, fun j hj hj2 => ?_, fun j hj => ?_, fun _ => ?_⟩
  · by_cases c : j = k
    · subst c; rw [pk_us, nup_s]
    · rw [pk_un c, nup_n c]; exact r1 j (by omega)
  · by_cases c : j = k
    · subst c; rw [pk_us, nup_s]
    · rw [pk_un c, nup_n c]; exact r2 j (by omega)
  · by_cases c : j = k
    · subst c; rw [nup_s]; exact hrk
    · rw [nup_n c]; exact r3 j (by omega)
  · by_cases c : j = k
    · subst c; rw [pk_us]; exact h13
    · rw [pk_un c]; exact r4 j (by omega)
  · by_cases c : j = k
    · subst c; rw [nup_s]; exact o7
    · rw [nup_n c]; exact o6 j (by omega)
  · by_cases c : j = k
    · subst c; rw [nup_s, nup_s]; exact hst
    · rw [nup_n c, nup_n c]; exact r6 j (by omega)
  · by_cases c : j = k
    · subst c; rw [he] at hj2; cases hj2
    · rw [nup_n c, nup_n c]; exact r7 j (by omega) hj2
  · by_cases c : j + 1 = k
    · subst c
      rw [nup_s, nup_n (by omega), nup_n (by omega)]
      rw [sta_next] at h2 h3
      cases hq : endB b.sty T j with
      | true => rw [if_pos rfl]; have := (h2 hq).2.2; rw [if_neg (by omega), Nat.add_sub_cancel] at this; exact this
      | false => rw [if_neg (by decide)]; have := (h3 hq).2.2.2; rw [Nat.add_sub_cancel] at this; exact this.symm
    · rw [nup_n c, nup_n (by omega), nup_n (by omega)]; exact r8 j (by omega)
  · by_cases c : k = 0
    · subst c
      rw [nup_s]
      have := (h2 rfl).2.2
      rw [if_pos rfl] at this; exact this
    · rw [nup_n (by omega)]; exact r9 (by omega)
/-- and once its segment has ended, n bytes in all -/
theorem rch_end {mbg' rch' mrch' : Nat → Int32} {rk n : Nat} (hT : T ≤ 91) (hk : k < T) (he : endB b.sty T k = true) (hn : n ≤ 65536) (hst : st ≤ n)
    (h : WRel b P T k M f0 st G g gc rc sb c m mags marks known below latest early again rch mrch mso mbg mln seg mseg fst gns mgns bef) (o6 : ∀ j, j < k → mbg' (sgo b.sty T j) = nI (sb j)) (o7 : mbg' (sgo b.sty T k) = nI st)
    (a1 : ∀ j, j < k + 1 → rch' j = nI (rcEnd (nup rc k rk) f0 k n j)) (a2 : ∀ j, j < k + 1 → mrch' j = nI (rcEnd (nup rc k rk) f0 k n j)) :
    Rch b.sty T (k + 1) (rcEnd (nup rc k rk) f0 k n) (nup sb k st) rch' mrch' (upd mso k mseg) mbg' (upd mln (sgo b.sty T k) (nI n - nI st)) ∧ ∀ j, j < k + 1 → rcEnd (nup rc k rk) f0 k n j ≤ n := by
  obtain ⟨h1, h2, h3, h4, h5, h6, h7, h8, h9, h10, ⟨r1, r2, r3, r4, r5, r6, r7, r8, r9⟩, h12, h13, h14, h15⟩ := h
  have ek : rcEnd (nup rc k rk) f0 k n k = n := if_pos rfl
  have ej : ∀ j, j < k → rcEnd (nup rc k rk) f0 k n j = if f0 ≤ j then min (rc j) n else rc j := by
    intro j hj
    unfold rcEnd
    rw [if_neg (by omega), nup_n (by omega)]
    by_cases c : f0 ≤ j
    · rw [if_pos ⟨c, hj⟩, if_pos c]
    · rw [if_neg (by omega), if_neg c]
  have hmid : ∀ j, j < k → endB b.sty T j = true → rcEnd (nup rc k rk) f0 k n j = rc j := by
    intro j hj hj2
    rw [ej j hj]
    by_cases c : f0 ≤ j
    · rw [if_pos c]
      by_cases c2 : j + 1 = k
      · have := (h2 (by rw [← c2, sta_next]; exact hj2)).2.1
        omega
      · have e8 := r8 j (by omega)
        rw [if_pos hj2, h10 (j + 1) (by omega) (by omega)] at e8
        omega
    · rw [if_neg c]
  refine ⟨⟨a1, a2, fun j hj => ?_, fun j hj => ?_, fun j hj => ?_, fun j hj => ?_, fun j hj hj2 => ?_, fun j hj => ?_, fun _ => ?_⟩, fun j hj => ?_⟩
  · by_cases c : j = k
    · subst c; rw [ek]; omega
    · have := r3 j (by omega)
      rw [ej j (by omega)]; split <;> omega
  · by_cases c : j = k
    · subst c; rw [pk_us]; exact h13
    · rw [pk_un c]; exact r4 j (by omega)
  · by_cases c : j = k
    · subst c; rw [nup_s]; exact o7
    · rw [nup_n c]; exact o6 j (by omega)
  · by_cases c : j = k
    · subst c; rw [nup_s, ek]; exact hst
    · rw [nup_n c, ej j (by omega)]
      have q := r6 j (by omega)
      by_cases c2 : f0 ≤ j
      · rw [if_pos c2]
        have := h10 j c2 (by omega)
        omega
      · rw [if_neg c2]; exact q
  · by_cases c : j = k
    · subst c; rw [nup_s, ek, pk_us]; exact pk_sub hst
    · have l1 := sgo_mono b.sty T k (j + 1) (by omega)
      have l2 : sgo b.sty T (j + 1) = sgo b.sty T j + 1 := by rw [sgo_next, hj2]; rfl
      rw [pk_un (by omega), nup_n c, hmid j (by omega) hj2]
      exact r7 j (by omega) hj2
  · by_cases c : j + 1 = k
    · have hj : j < k := by omega
      have hm := hmid j hj
      subst c
      rw [nup_s, nup_n (by omega)]
      rw [sta_next] at h2 h3
      cases hq : endB b.sty T j with
      | true => rw [if_pos rfl, hm hq]; have := (h2 hq).2.2; rw [if_neg (by omega), Nat.add_sub_cancel] at this; exact this
      | false => rw [if_neg (by decide)]; have := (h3 hq).2.2.2; rw [Nat.add_sub_cancel] at this; exact this.symm
    · rw [nup_n c, nup_n (show j ≠ k by omega)]
      have e8 := r8 j (by omega)
      cases hq : endB b.sty T j with
      | true => rw [if_pos rfl, hmid j (by omega) hq]; rw [hq, if_pos rfl] at e8; exact e8
      | false => rw [if_neg (by decide)]; rw [hq, if_neg (by decide)] at e8; exact e8
  · by_cases c : k = 0
    · subst c
      rw [nup_s]
      have := (h2 rfl).2.2
      rw [if_pos rfl] at this; exact this
    · rw [nup_n (by omega)]; exact r9 (by omega)
  · by_cases c : j = k
    · subst c; rw [ek]; exact Nat.le_refl _
    · rw [ej j (by omega)]
      by_cases c2 : f0 ≤ j
      · rw [if_pos c2]; omega
      · rw [if_neg c2]; have := h9 j (by omega); omega
theorem gns_on {x : Int64} (h : ∀ j, j < k → gns j = mgns j) : ∀ j, j < k + 1 → vp_updL gns k x j = vp_updL mgns k x j := by
  intro j hj
  by_cases c : j = k
  · subst c; rw [pk_uLs, pk_uLs]
  · rw [pk_uLn c, pk_uLn c]; exact h j (by omega)
end
