theorem limZ {f : Nat → Int32} {pl : Nat → Bool} (h : POK f pl) {c : Nat} (hc : c < 42) (e : f c = 0) : lim pl c = 4 := by
  have q := h c hc
  rw [e] at q
  unfold lim
  cases hp : pl c
  · rfl
  · rw [hp] at q; exact absurd q (by decide)
theorem limN {f : Nat → Int32} {pl : Nat → Bool} (h : POK f pl) {c : Nat} (hc : c < 42) (e : ¬ f c = 0) : lim pl c = 8 := by
  have q := h c hc
  unfold lim
  cases hp : pl c
  · rw [hp] at q; exact absurd q e
  · rfl
theorem lim_31 (pl : Nat → Bool) (c : Nat) : lim pl c < 2 ^ 31 := Nat.lt_of_le_of_lt (lim_ge pl c).2 (by decide)
/-- -1, 0, 1 .. : the number i less one -/
def dI (i : Nat) : Int32 := if i = 0 then -1 else nI (i - 1)
theorem dI_s (i : Nat) : dI (i + 1) = nI i := by unfold dI; rw [if_neg (by omega)]; rfl
theorem dI_0 : dI 0 = -1 := rfl
theorem dI_neg {i : Nat} (hi : i < 2 ^ 31) : dI i < 0 ↔ i = 0 := by
  constructor
  · intro h
    by_cases e : i = 0
    · exact e
    · obtain ⟨j, rfl⟩ : ∃ j, i = j + 1 := ⟨i - 1, by omega⟩
      rw [dI_s] at h
      exact absurd h (nI_pos (by omega))
  · rintro rfl; decide
theorem dI_dec (i : Nat) : nI i + Int32.ofInt (-1) = dI i := by
  unfold dI
  by_cases e : i = 0
  · subst e; decide
  · rw [if_neg e]
    obtain ⟨j, rfl⟩ : ∃ j, i = j + 1 := ⟨i - 1, by omega⟩
    show nI (j + 1) + Int32.ofInt (-1) = nI (j + 1 - 1)
    rw [show Int32.ofInt (-1) = (-1 : Int32) from rfl]
    exact pk_m1 j
/-- what was too high, or has become so beside c, waits -/
theorem wait_step {nb : Nat → Nat → Nat} (hN : NB nb) {pl : Nat → Bool} {h : Nat → Nat} {c k : Nat} {qt q2 : List Nat} (hc : c < 42) (hnd : (c :: qt).Nodup) (hsame : ∀ x, x < 42 → (lim pl x ≤ h x ↔ x ∈ c :: qt)) (hin : ∀ x ∈ c :: qt, x < 42) (hk : k * odn nb c 4 ≤ h c) (hlow : h c - k * odn nb c 4 < lim pl c)
    (hsub : ∀ x ∈ qt, x ∈ q2) (hfrom : ∀ x ∈ q2, x ∈ qt ∨ (x < 42 ∧ lim pl x ≤ tp nb h c k x)) (hall : ∀ s, s < 4 → nb c s < 42 → lim pl (nb c s) ≤ tp nb h c k (nb c s) → nb c s ∈ q2) : ∀ x, x < 42 → (lim pl x ≤ tp nb h c k x ↔ x ∈ q2) := by
  intro x hx
  obtain ⟨n1, n2⟩ := List.nodup_cons.mp hnd
  constructor
  · intro hh
    by_cases e : x = c
    · subst e
      rw [tp_self hN hc hk] at hh
      omega
    · by_cases ex : ∃ s, s < 4 ∧ nb c s = x
      · obtain ⟨s, hs, rfl⟩ := ex
        exact hall s hs hx hh
      · rw [tp_far e (fun s hs q => ex ⟨s, hs, q⟩)] at hh
        rcases List.mem_cons.mp ((hsame x hx).mp hh) with q | q
        · exact absurd q e
        · exact hsub x q
  · intro hm
    rcases hfrom x hm with q | q
    · have e : x ≠ c := fun z => n1 (z ▸ q)
      exact Nat.le_trans ((hsame x hx).mpr (List.mem_cons_of_mem _ q)) (tp_ge hN hc hk e)
    · exact q.2
theorem ok_X6_limitOf : okName yX6_limitOf 1 := by decide +kernel
theorem in_X6_limitOf_X6 : ∀ w ∈ u_ws RX6 TX6 5, w ∈ wsX6_limitOf := by decide +kernel
set_option maxRecDepth 100000 in
set_option maxHeartbeats 4000000 in
theorem c_X6_limitOf (l : Launch) (D : va_G) (ai az al : ClassId) (sl : Nat) (g : Nat) (pP : Nat) (sh : Nat) (st : Nat) (q0 : Nat) (pa : Nat) (Pf : Nat → Int32) (pl : Nat → Bool) (c : Nat) (hc : c < 42) (hP : POK Pf pl) : CI l D (tY ai az al) yX6_limitOf wsX6_limitOf { frames := 1, cells := 0, slots := 0, locals := 21 } [.ref sl, .int (nI c)] [(sl, .inr (6, [.ref g, .ref pP, .ref sh, .ref st, .ref q0])), (pP, .inr (3, [.ref pa])), (pa, .inl (ai, 42, .inl Pf))] (fun (r : Int32) (u : Unit) => r = nI (lim pl c)) (fun (u : Unit) => [(sl, .inr (6, [.ref g, .ref pP, .ref sh, .ref st, .ref q0])), (pP, .inr (3, [.ref pa])), (pa, .inl (ai, 42, .inl Pf))]) := by
  refine ofG_I (cc := cX6_limitOf) (nL := 2) (lv0 := [(0, .ref sl), (1, .int (nI c))]) (by decide) rfl (Nat.le_of_ble_eq_true rfl) rfl ?_
  intro Γ X E
  refine g_aload_n X dX6_limitOf_0 rfl 0 rfl ?_
  refine g_getf (T := TX6) (v := .ref pP) X dX6_limitOf_1 0 rfl rfl in_X6_limitOf_X6 1 (by decide) (by decide +kernel) rfl rfl ?_
  refine g_iload_n X dX6_limitOf_4 rfl 1 rfl ?_
  refine g_callVi (C := RX3) (As := [.int (nI c)]) (rest := []) (wr := [(sl, .inr (6, [.ref g, .ref pP, .ref sh, .ref st, .ref q0]))]) X dX6_limitOf_5 (c_X3_atN l D ai az al pP pa 42 Pf c (by decide) (by omega)) gX6_limitOf_X3_at rfl rfl ok_X3_at rfl rfl (by decide) ⟨by decide, by decide⟩ (Nat.le_of_ble_eq_true rfl) [1, 2] [0] ⟨rfl, by decide, rfl, by decide, by decide⟩ 0 rfl rfl rfl (fun r1 u hp => ?_)
  obtain rfl := hp
  refine g_sub (k := 0) (n := 0) (ws' := [(sl, .inr (6, [.ref g, .ref pP, .ref sh, .ref st, .ref q0])), (pP, .inr (3, [.ref pa])), (pa, .inl (ai, 42, .inl Pf))]) [0, 1, 2] (by decide) rfl ?_
  refine g_if_ne (tgt := 15) X dX6_limitOf_8 (by decide) (fun b8 => ?_) (fun b8 => ?_)
  · refine g_bipush (v := nI 8) X dX6_limitOf_15 (by decide) ?_
    exact g_iret X E dX6_limitOf_17 () rfl (by decide) (by decide) (by first | rw [limZ hP hc b8] | rw [limN hP hc b8])
  · refine g_iconst (v := nI 4) X dX6_limitOf_11 (by decide) ?_
    refine g_goto (tgt := 17) X dX6_limitOf_12 (by decide) ?_
    exact g_iret X E dX6_limitOf_17 () rfl (by decide) (by decide) (by first | rw [limZ hP hc b8] | rw [limN hP hc b8])

theorem ok_X6_isTooHigh : okName yX6_isTooHigh 1 := by decide +kernel
theorem in_X6_isTooHigh_X6 : ∀ w ∈ u_ws RX6 TX6 5, w ∈ wsX6_isTooHigh := by decide +kernel
set_option maxRecDepth 100000 in
set_option maxHeartbeats 4000000 in
theorem c_X6_isTooHigh (l : Launch) (D : va_G) (ai az al : ClassId) (sl : Nat) (g : Nat) (pP : Nat) (sh : Nat) (st : Nat) (q0 : Nat) (pa : Nat) (Pf : Nat → Int32) (pl : Nat → Bool) (sha : Nat) (SH : Nat → Int32) (h : Nat → Nat) (c : Nat) (hc : c < 42) (hP : POK Pf pl) (hH : HOK SH h) (hb : h c < 2 ^ 31) : CI l D (tY ai az al) yX6_isTooHigh wsX6_isTooHigh { frames := 2, cells := 0, slots := 0, locals := 42 } [.ref sl, .int (nI c)] [(sl, .inr (6, [.ref g, .ref pP, .ref sh, .ref st, .ref q0])), (pP, .inr (3, [.ref pa])), (pa, .inl (ai, 42, .inl Pf)), (sh, .inr (3, [.ref sha])), (sha, .inl (ai, 42, .inl SH))] (fun (r : Int32) (u : Unit) => r = nI (bn (decide (lim pl c ≤ h c)))) (fun (u : Unit) => [(sl, .inr (6, [.ref g, .ref pP, .ref sh, .ref st, .ref q0])), (pP, .inr (3, [.ref pa])), (pa, .inl (ai, 42, .inl Pf)), (sh, .inr (3, [.ref sha])), (sha, .inl (ai, 42, .inl SH))]) := by
  refine ofG_I (cc := cX6_isTooHigh) (nL := 2) (lv0 := [(0, .ref sl), (1, .int (nI c))]) (by decide) rfl (Nat.le_of_ble_eq_true rfl) rfl ?_
  intro Γ X E
  refine g_aload_n X dX6_isTooHigh_0 rfl 0 rfl ?_
  refine g_getf (T := TX6) (v := .ref sh) X dX6_isTooHigh_1 0 rfl rfl in_X6_isTooHigh_X6 2 (by decide) (by decide +kernel) rfl rfl ?_
  refine g_iload_n X dX6_isTooHigh_4 rfl 1 rfl ?_
  refine g_callVi (C := RX3) (As := [.int (nI c)]) (rest := []) (wr := [(sl, .inr (6, [.ref g, .ref pP, .ref sh, .ref st, .ref q0])), (pP, .inr (3, [.ref pa])), (pa, .inl (ai, 42, .inl Pf))]) X dX6_isTooHigh_5 (c_X3_atN l D ai az al sh sha 42 SH c (by decide) (by omega)) gX6_isTooHigh_X3_at rfl rfl ok_X3_at rfl rfl (by decide) ⟨by decide, by decide⟩ (Nat.le_of_ble_eq_true rfl) [3, 4] [0, 1, 2] ⟨rfl, by decide, rfl, by decide, by decide⟩ 0 rfl rfl rfl (fun r1 u hp => ?_)
  obtain rfl := hp
  refine g_sub (k := 0) (n := 0) (ws' := [(sl, .inr (6, [.ref g, .ref pP, .ref sh, .ref st, .ref q0])), (pP, .inr (3, [.ref pa])), (pa, .inl (ai, 42, .inl Pf)), (sh, .inr (3, [.ref sha])), (sha, .inl (ai, 42, .inl SH))]) [0, 1, 2, 3, 4] (by decide) rfl ?_
  rw [hH c hc]
  refine g_aload_n X dX6_isTooHigh_8 rfl 0 rfl ?_
  refine g_iload_n X dX6_isTooHigh_9 rfl 1 rfl ?_
  refine g_callVi (C := RX6) (As := [.int (nI c)]) (rest := [.int (nI (h c))]) (wr := [(sh, .inr (3, [.ref sha])), (sha, .inl (ai, 42, .inl SH))]) X dX6_isTooHigh_10 (c_X6_limitOf l D ai az al sl g pP sh st q0 pa Pf pl c (by first | omega | assumption) (by first | omega | assumption)) gX6_isTooHigh_X6_limitOf rfl rfl ok_X6_limitOf rfl rfl (by decide) ⟨by decide, by decide⟩ (Nat.le_of_ble_eq_true rfl) [0, 1, 2] [3, 4] ⟨rfl, by decide, rfl, by decide, by decide⟩ 0 rfl rfl rfl (fun r2 u hp => ?_)
  obtain rfl := hp
  refine g_sub (k := 0) (n := 0) (ws' := [(sl, .inr (6, [.ref g, .ref pP, .ref sh, .ref st, .ref q0])), (pP, .inr (3, [.ref pa])), (pa, .inl (ai, 42, .inl Pf)), (sh, .inr (3, [.ref sha])), (sha, .inl (ai, 42, .inl SH))]) [2, 3, 4, 0, 1] (by decide) rfl ?_
  refine g_icmp_ltN (tgt := 20) X dX6_isTooHigh_13 (by decide) hb (lim_31 pl c) (fun b13 => ?_) (fun b13 => ?_)
  · refine g_iconst (v := nI 0) X dX6_isTooHigh_20 (by decide) ?_
    exact g_zret X E dX6_isTooHigh_21 () rfl (by decide) (by decide) (rfl) (by first | (rw [decide_eq_false (Nat.not_le.mpr b13)]; rfl) | (rw [decide_eq_true b13]; rfl))
  · refine g_iconst (v := nI 1) X dX6_isTooHigh_16 (by decide) ?_
    refine g_goto (tgt := 21) X dX6_isTooHigh_17 (by decide) ?_
    exact g_zret X E dX6_isTooHigh_21 () rfl (by decide) (by decide) (rfl) (by first | (rw [decide_eq_false (Nat.not_le.mpr b13)]; rfl) | (rw [decide_eq_true b13]; rfl))

theorem ok_X6_topple : okName yX6_topple 1 := by decide +kernel
theorem in_X6_topple_X6 : ∀ w ∈ u_ws RX6 TX6 5, w ∈ wsX6_topple := by decide +kernel
set_option maxRecDepth 100000 in
set_option maxHeartbeats 4000000 in
theorem c_X6_topple (l : Launch) (D : va_G) (ai az al : ClassId) (sl : Nat) (g : Nat) (pP : Nat) (sh : Nat) (st : Nat) (q0 : Nat) (L : Nat) (la : Nat) (Lf : Nat → Int32) (wc : Int32) (nb : Nat → Nat → Nat) (pa : Nat) (Pf : Nat → Int32) (pl : Nat → Bool) (sha : Nat) (SH : Nat → Int32) (h : Nat → Nat) (sta : Nat) (ST : Nat → Int32) (t : Nat → Nat) (c : Nat) (hc : c < 42) (hL : LeadsOK Lf nb) (hP : POK Pf pl) (hH : HOK SH h) (hT : HOK ST t) (hod : 0 < odn nb c 4) (hhi : lim pl c ≤ h c) (hb : h c < 2 ^ 31) : CV l D (tY ai az al) yX6_topple wsX6_topple { frames := 3, cells := 0, slots := 0, locals := 66 } [.ref sl, .int (nI c)] [(sl, .inr (6, [.ref g, .ref pP, .ref sh, .ref st, .ref q0])), (g, .inr (2, [.ref L, .int wc])), (L, .inr (3, [.ref la])), (la, .inl (ai, 168, .inl Lf)), (pP, .inr (3, [.ref pa])), (pa, .inl (ai, 42, .inl Pf)), (sh, .inr (3, [.ref sha])), (sha, .inl (ai, 42, .inl SH)), (st, .inr (3, [.ref sta])), (sta, .inl (ai, 42, .inl ST))] (fun (u : (Nat → Int32) × (Nat → Int32)) => HOK u.1 (tp nb h c (oft nb pl h c)) ∧ HOK u.2 (addN t c (oft nb pl h c))) (fun (u : (Nat → Int32) × (Nat → Int32)) => [(sl, .inr (6, [.ref g, .ref pP, .ref sh, .ref st, .ref q0])), (g, .inr (2, [.ref L, .int wc])), (L, .inr (3, [.ref la])), (la, .inl (ai, 168, .inl Lf)), (pP, .inr (3, [.ref pa])), (pa, .inl (ai, 42, .inl Pf)), (sh, .inr (3, [.ref sha])), (sha, .inl (ai, 42, .inl u.1)), (st, .inr (3, [.ref sta])), (sta, .inl (ai, 42, .inl u.2))]) := by
  refine ofG_V (cc := cX6_topple) (nL := 5) (lv0 := [(0, .ref sl), (1, .int (nI c))]) (by decide) rfl (Nat.le_of_ble_eq_true rfl) rfl ?_
  intro Γ X E hinit
  have ho4 := odn_le nb c 4
  obtain ⟨hk1, hk2, hk3, hk4⟩ := oft_ok hod hhi
  refine g_aload_n X dX6_topple_0 rfl 0 rfl ?_
  refine g_getf (T := TX6) (v := .ref g) X dX6_topple_1 0 rfl rfl in_X6_topple_X6 0 (by decide) (by decide +kernel) rfl rfl ?_
  refine g_iload_n X dX6_topple_4 rfl 1 rfl ?_
  refine g_callVi (C := RX2) (As := [.int (nI c)]) (rest := []) (wr := [(sl, .inr (6, [.ref g, .ref pP, .ref sh, .ref st, .ref q0])), (pP, .inr (3, [.ref pa])), (pa, .inl (ai, 42, .inl Pf)), (sh, .inr (3, [.ref sha])), (sha, .inl (ai, 42, .inl SH)), (st, .inr (3, [.ref sta])), (sta, .inl (ai, 42, .inl ST))]) X dX6_topple_5 (c_X2_openSides l D ai az al g L la Lf wc nb c (by first | omega | assumption) (by first | omega | assumption)) gX6_topple_X2_openSides rfl rfl ok_X2_openSides rfl rfl (by decide) ⟨by decide, by decide⟩ (Nat.le_of_ble_eq_true rfl) [1, 2, 3] [0, 4, 5, 6, 7, 8, 9] ⟨rfl, by decide, rfl, by decide, by decide⟩ 0 rfl rfl rfl (fun r1 u hp => ?_)
  obtain rfl := hp
  refine g_sub (k := 0) (n := 0) (ws' := [(sl, .inr (6, [.ref g, .ref pP, .ref sh, .ref st, .ref q0])), (g, .inr (2, [.ref L, .int wc])), (L, .inr (3, [.ref la])), (la, .inl (ai, 168, .inl Lf)), (pP, .inr (3, [.ref pa])), (pa, .inl (ai, 42, .inl Pf)), (sh, .inr (3, [.ref sha])), (sha, .inl (ai, 42, .inl SH)), (st, .inr (3, [.ref sta])), (sta, .inl (ai, 42, .inl ST))]) [0, 7, 8, 9, 1, 2, 3, 4, 5, 6] (by decide) rfl ?_
  refine g_istore_n (lv' := [(2, .int (nI (odn nb c 4))), (0, .ref sl), (1, .int (nI c))]) X dX6_topple_8 rfl (by decide) rfl ?_
  refine g_iload_n X dX6_topple_9 rfl 0 rfl ?_
  refine g_if_gtN (tgt := 14) X dX6_topple_10 (by decide) (by omega) (fun b10 => ?_) (fun b10 => False.elim (by omega))
  refine g_aload_n X dX6_topple_14 rfl 1 rfl ?_
  refine g_getf (T := TX6) (v := .ref sh) X dX6_topple_15 0 rfl rfl in_X6_topple_X6 2 (by decide) (by decide +kernel) rfl rfl ?_
  refine g_iload_n X dX6_topple_18 rfl 2 rfl ?_
  refine g_callVi (C := RX3) (As := [.int (nI c)]) (rest := []) (wr := [(sl, .inr (6, [.ref g, .ref pP, .ref sh, .ref st, .ref q0])), (g, .inr (2, [.ref L, .int wc])), (L, .inr (3, [.ref la])), (la, .inl (ai, 168, .inl Lf)), (pP, .inr (3, [.ref pa])), (pa, .inl (ai, 42, .inl Pf)), (st, .inr (3, [.ref sta])), (sta, .inl (ai, 42, .inl ST))]) X dX6_topple_19 (c_X3_atN l D ai az al sh sha 42 SH c (by decide) (by omega)) gX6_topple_X3_at rfl rfl ok_X3_at rfl rfl (by decide) ⟨by decide, by decide⟩ (Nat.le_of_ble_eq_true rfl) [6, 7] [0, 1, 2, 3, 4, 5, 8, 9] ⟨rfl, by decide, rfl, by decide, by decide⟩ 0 rfl rfl rfl (fun r2 u hp => ?_)
  obtain rfl := hp
  refine g_sub (k := 0) (n := 0) (ws' := [(sl, .inr (6, [.ref g, .ref pP, .ref sh, .ref st, .ref q0])), (g, .inr (2, [.ref L, .int wc])), (L, .inr (3, [.ref la])), (la, .inl (ai, 168, .inl Lf)), (pP, .inr (3, [.ref pa])), (pa, .inl (ai, 42, .inl Pf)), (sh, .inr (3, [.ref sha])), (sha, .inl (ai, 42, .inl SH)), (st, .inr (3, [.ref sta])), (sta, .inl (ai, 42, .inl ST))]) [0, 1, 2, 3, 4, 5, 8, 9, 6, 7] (by decide) rfl ?_
  rw [hH c hc]
  refine g_aload_n X dX6_topple_22 rfl 1 rfl ?_
  refine g_iload_n X dX6_topple_23 rfl 2 rfl ?_
  refine g_callVi (C := RX6) (As := [.int (nI c)]) (rest := [.int (nI (h c))]) (wr := [(g, .inr (2, [.ref L, .int wc])), (L, .inr (3, [.ref la])), (la, .inl (ai, 168, .inl Lf)), (sh, .inr (3, [.ref sha])), (sha, .inl (ai, 42, .inl SH)), (st, .inr (3, [.ref sta])), (sta, .inl (ai, 42, .inl ST))]) X dX6_topple_24 (c_X6_limitOf l D ai az al sl g pP sh st q0 pa Pf pl c (by first | omega | assumption) (by first | omega | assumption)) gX6_topple_X6_limitOf rfl rfl ok_X6_limitOf rfl rfl (by decide) ⟨by decide, by decide⟩ (Nat.le_of_ble_eq_true rfl) [0, 4, 5] [1, 2, 3, 6, 7, 8, 9] ⟨rfl, by decide, rfl, by decide, by decide⟩ 0 rfl rfl rfl (fun r3 u hp => ?_)
  obtain rfl := hp
  refine g_sub (k := 0) (n := 0) (ws' := [(sl, .inr (6, [.ref g, .ref pP, .ref sh, .ref st, .ref q0])), (g, .inr (2, [.ref L, .int wc])), (L, .inr (3, [.ref la])), (la, .inl (ai, 168, .inl Lf)), (pP, .inr (3, [.ref pa])), (pa, .inl (ai, 42, .inl Pf)), (sh, .inr (3, [.ref sha])), (sha, .inl (ai, 42, .inl SH)), (st, .inr (3, [.ref sta])), (sta, .inl (ai, 42, .inl ST))]) [7, 0, 1, 2, 8, 9, 3, 4, 5, 6] (by decide) rfl ?_
  refine g_isub (v := nI (h c - lim pl c)) X dX6_topple_27 (pk_sub hhi) ?_
  refine g_iload_n X dX6_topple_28 rfl 0 rfl ?_
  refine g_idiv (v := nI ((h c - lim pl c) / odn nb c 4)) X dX6_topple_29 (nI_ne0 hod (by omega)) (pk_div (by omega) hod (by omega)) ?_
  refine g_iconst (v := nI 1) X dX6_topple_30 (by decide) ?_
  refine g_iadd (v := nI (oft nb pl h c)) X dX6_topple_31 (nI_add _ _) ?_
  refine g_istore_n (lv' := [(3, .int (nI (oft nb pl h c))), (2, .int (nI (odn nb c 4))), (0, .ref sl), (1, .int (nI c))]) X dX6_topple_32 rfl (by decide) rfl ?_
  refine g_aload_n X dX6_topple_33 rfl 2 rfl ?_
  refine g_getf (T := TX6) (v := .ref st) X dX6_topple_34 0 rfl rfl in_X6_topple_X6 3 (by decide) (by decide +kernel) rfl rfl ?_
  refine g_iload_n X dX6_topple_37 rfl 3 rfl ?_
  refine g_iload_n X dX6_topple_38 rfl 0 rfl ?_
  refine g_callVv (C := RX3) (As := [.int (nI c), .int (nI (oft nb pl h c))]) (rest := []) (wr := [(sl, .inr (6, [.ref g, .ref pP, .ref sh, .ref st, .ref q0])), (g, .inr (2, [.ref L, .int wc])), (L, .inr (3, [.ref la])), (la, .inl (ai, 168, .inl Lf)), (pP, .inr (3, [.ref pa])), (pa, .inl (ai, 42, .inl Pf)), (sh, .inr (3, [.ref sha])), (sha, .inl (ai, 42, .inl SH))]) X dX6_topple_39 (c_X3_addN l D ai az al st sta 42 ST c (nI (oft nb pl h c)) (by decide) (by omega)) gX6_topple_X3_add rfl rfl ok_X3_add rfl rfl (by decide) ⟨by decide, by decide⟩ (Nat.le_of_ble_eq_true rfl) [8, 9] [0, 1, 2, 3, 4, 5, 6, 7] ⟨rfl, by decide, rfl, by decide, by decide⟩ 0 rfl rfl rfl (fun u hp => ?_)
  refine g_sub (k := 0) (n := 0) (ws' := [(sl, .inr (6, [.ref g, .ref pP, .ref sh, .ref st, .ref q0])), (g, .inr (2, [.ref L, .int wc])), (L, .inr (3, [.ref la])), (la, .inl (ai, 168, .inl Lf)), (pP, .inr (3, [.ref pa])), (pa, .inl (ai, 42, .inl Pf)), (sh, .inr (3, [.ref sha])), (sha, .inl (ai, 42, .inl SH)), (st, .inr (3, [.ref sta])), (sta, .inl (ai, 42, .inl (upd ST c (ST c + (nI (oft nb pl h c))))))]) [0, 1, 2, 3, 4, 5, 6, 7, 8, 9] (by decide) rfl ?_
  refine g_aload_n X dX6_topple_42 rfl 2 rfl ?_
  refine g_getf (T := TX6) (v := .ref sh) X dX6_topple_43 0 rfl rfl in_X6_topple_X6 2 (by decide) (by decide +kernel) rfl rfl ?_
  refine g_iload_n X dX6_topple_46 rfl 3 rfl ?_
  refine g_iload_n X dX6_topple_47 rfl 0 rfl ?_
  refine g_ineg (v := (-(nI (oft nb pl h c)))) X dX6_topple_48 rfl ?_
  refine g_iload_n X dX6_topple_49 rfl 1 rfl ?_
  refine g_imul (v := ((-(nI (oft nb pl h c))) * nI (odn nb c 4))) X dX6_topple_50 (rfl) ?_
  refine g_callVv (C := RX3) (As := [.int (nI c), .int ((-(nI (oft nb pl h c))) * nI (odn nb c 4))]) (rest := []) (wr := [(sl, .inr (6, [.ref g, .ref pP, .ref sh, .ref st, .ref q0])), (g, .inr (2, [.ref L, .int wc])), (L, .inr (3, [.ref la])), (la, .inl (ai, 168, .inl Lf)), (pP, .inr (3, [.ref pa])), (pa, .inl (ai, 42, .inl Pf)), (st, .inr (3, [.ref sta])), (sta, .inl (ai, 42, .inl (upd ST c (ST c + (nI (oft nb pl h c))))))]) X dX6_topple_51 (c_X3_addN l D ai az al sh sha 42 SH c ((-(nI (oft nb pl h c))) * nI (odn nb c 4)) (by decide) (by omega)) gX6_topple_X3_add rfl rfl ok_X3_add rfl rfl (by decide) ⟨by decide, by decide⟩ (Nat.le_of_ble_eq_true rfl) [6, 7] [0, 1, 2, 3, 4, 5, 8, 9] ⟨rfl, by decide, rfl, by decide, by decide⟩ 0 rfl rfl rfl (fun u hp => ?_)
  refine g_sub (k := 0) (n := 0) (ws' := [(sl, .inr (6, [.ref g, .ref pP, .ref sh, .ref st, .ref q0])), (g, .inr (2, [.ref L, .int wc])), (L, .inr (3, [.ref la])), (la, .inl (ai, 168, .inl Lf)), (pP, .inr (3, [.ref pa])), (pa, .inl (ai, 42, .inl Pf)), (sh, .inr (3, [.ref sha])), (sha, .inl (ai, 42, .inl (upd SH c (SH c + ((-(nI (oft nb pl h c))) * nI (odn nb c 4)))))), (st, .inr (3, [.ref sta])), (sta, .inl (ai, 42, .inl (upd ST c (ST c + (nI (oft nb pl h c))))))]) [0, 1, 2, 3, 4, 5, 8, 9, 6, 7] (by decide) rfl ?_
  refine g_iconst (v := nI 0) X dX6_topple_54 (by decide) ?_
  refine g_istore (lv' := [(4, .int (nI 0)), (3, .int (nI (oft nb pl h c))), (2, .int (nI (odn nb c 4))), (0, .ref sl), (1, .int (nI c))]) X dX6_topple_55 (by decide) rfl ?_
  refine g_iload X dX6_topple_57 0 rfl ?_
  refine g_iconst (v := nI 4) X dX6_topple_59 (by decide) ?_
  refine g_icmp_geN (tgt := 87) X dX6_topple_60 (by decide) (by decide) (by decide) (fun b60x => False.elim (by revert b60x; decide)) (fun b60x => ?_)
  refine g_aload_n X dX6_topple_63 rfl 3 rfl ?_
  refine g_getf (T := TX6) (v := .ref sh) X dX6_topple_64 0 rfl rfl in_X6_topple_X6 2 (by decide) (by decide +kernel) rfl rfl ?_
  refine g_aload_n X dX6_topple_67 rfl 3 rfl ?_
  refine g_getf (T := TX6) (v := .ref g) X dX6_topple_68 0 rfl rfl in_X6_topple_X6 0 (by decide) (by decide +kernel) rfl rfl ?_
  refine g_iload_n X dX6_topple_71 rfl 4 rfl ?_
  refine g_iload X dX6_topple_72 0 rfl ?_
  refine g_callVi (C := RX2) (As := [.int (nI c), .int (nI 0)]) (rest := [.ref sh]) (wr := [(sl, .inr (6, [.ref g, .ref pP, .ref sh, .ref st, .ref q0])), (pP, .inr (3, [.ref pa])), (pa, .inl (ai, 42, .inl Pf)), (sh, .inr (3, [.ref sha])), (sha, .inl (ai, 42, .inl (upd SH c (SH c + ((-(nI (oft nb pl h c))) * nI (odn nb c 4)))))), (st, .inr (3, [.ref sta])), (sta, .inl (ai, 42, .inl (upd ST c (ST c + (nI (oft nb pl h c))))))]) X dX6_topple_74 (c_X2_leadsTo l D ai az al g L la Lf wc nb c 0 (hc) (by decide) (hL)) gX6_topple_X2_leadsTo rfl rfl ok_X2_leadsTo rfl rfl (by decide) ⟨by decide, by decide⟩ (Nat.le_of_ble_eq_true rfl) [1, 2, 3] [0, 4, 5, 6, 7, 8, 9] ⟨rfl, by decide, rfl, by decide, by decide⟩ 0 rfl rfl rfl (fun r4 u hp => ?_)
  obtain rfl := hp
  refine g_sub (k := 0) (n := 0) (ws' := [(sl, .inr (6, [.ref g, .ref pP, .ref sh, .ref st, .ref q0])), (g, .inr (2, [.ref L, .int wc])), (L, .inr (3, [.ref la])), (la, .inl (ai, 168, .inl Lf)), (pP, .inr (3, [.ref pa])), (pa, .inl (ai, 42, .inl Pf)), (sh, .inr (3, [.ref sha])), (sha, .inl (ai, 42, .inl (upd SH c (SH c + ((-(nI (oft nb pl h c))) * nI (odn nb c 4)))))), (st, .inr (3, [.ref sta])), (sta, .inl (ai, 42, .inl (upd ST c (ST c + (nI (oft nb pl h c))))))]) [0, 7, 8, 9, 1, 2, 3, 4, 5, 6] (by decide) rfl ?_
  refine g_iload_n X dX6_topple_77 rfl 1 rfl ?_
  refine g_callVv (C := RX3) (As := [.int (cd (nb c 0)), .int (nI (oft nb pl h c))]) (rest := []) (wr := [(sl, .inr (6, [.ref g, .ref pP, .ref sh, .ref st, .ref q0])), (g, .inr (2, [.ref L, .int wc])), (L, .inr (3, [.ref la])), (la, .inl (ai, 168, .inl Lf)), (pP, .inr (3, [.ref pa])), (pa, .inl (ai, 42, .inl Pf)), (st, .inr (3, [.ref sta])), (sta, .inl (ai, 42, .inl (upd ST c (ST c + (nI (oft nb pl h c))))))]) X dX6_topple_78 (c_X3_add l D ai az al sh sha 42 (upd SH c (SH c + ((-(nI (oft nb pl h c))) * nI (odn nb c 4)))) (cd (nb c 0)) (nI (oft nb pl h c)) (by decide)) gX6_topple_X3_add rfl rfl ok_X3_add rfl rfl (by decide) ⟨by decide, by decide⟩ (Nat.le_of_ble_eq_true rfl) [6, 7] [0, 1, 2, 3, 4, 5, 8, 9] ⟨rfl, by decide, rfl, by decide, by decide⟩ 0 rfl rfl rfl (fun g5 hp => ?_)
  try dsimp only at hp
  obtain rfl := hp
  refine g_sub (k := 0) (n := 0) (ws' := [(sl, .inr (6, [.ref g, .ref pP, .ref sh, .ref st, .ref q0])), (g, .inr (2, [.ref L, .int wc])), (L, .inr (3, [.ref la])), (la, .inl (ai, 168, .inl Lf)), (pP, .inr (3, [.ref pa])), (pa, .inl (ai, 42, .inl Pf)), (sh, .inr (3, [.ref sha])), (sha, .inl (ai, 42, .inl (addF (upd SH c (SH c + ((-(nI (oft nb pl h c))) * nI (odn nb c 4)))) 42 (cd (nb c 0)) (nI (oft nb pl h c))))), (st, .inr (3, [.ref sta])), (sta, .inl (ai, 42, .inl (upd ST c (ST c + (nI (oft nb pl h c))))))]) [0, 1, 2, 3, 4, 5, 8, 9, 6, 7] (by decide) rfl ?_
  refine g_iinc (v := nI 1) (lv' := [(4, .int (nI 1)), (3, .int (nI (oft nb pl h c))), (2, .int (nI (odn nb c 4))), (0, .ref sl), (1, .int (nI c))]) X dX6_topple_81 0 rfl (nI_inc _) (by decide) rfl ?_
  refine g_goto (tgt := 57) X dX6_topple_84 (by decide) ?_
  refine g_iload X dX6_topple_57 0 rfl ?_
  refine g_iconst (v := nI 4) X dX6_topple_59 (by decide) ?_
  refine g_icmp_geN (tgt := 87) X dX6_topple_60 (by decide) (by decide) (by decide) (fun b60x => False.elim (by revert b60x; decide)) (fun b60x => ?_)
  refine g_aload_n X dX6_topple_63 rfl 3 rfl ?_
  refine g_getf (T := TX6) (v := .ref sh) X dX6_topple_64 0 rfl rfl in_X6_topple_X6 2 (by decide) (by decide +kernel) rfl rfl ?_
  refine g_aload_n X dX6_topple_67 rfl 3 rfl ?_
  refine g_getf (T := TX6) (v := .ref g) X dX6_topple_68 0 rfl rfl in_X6_topple_X6 0 (by decide) (by decide +kernel) rfl rfl ?_
  refine g_iload_n X dX6_topple_71 rfl 4 rfl ?_
  refine g_iload X dX6_topple_72 0 rfl ?_
  refine g_callVi (C := RX2) (As := [.int (nI c), .int (nI 1)]) (rest := [.ref sh]) (wr := [(sl, .inr (6, [.ref g, .ref pP, .ref sh, .ref st, .ref q0])), (pP, .inr (3, [.ref pa])), (pa, .inl (ai, 42, .inl Pf)), (sh, .inr (3, [.ref sha])), (sha, .inl (ai, 42, .inl (addF (upd SH c (SH c + ((-(nI (oft nb pl h c))) * nI (odn nb c 4)))) 42 (cd (nb c 0)) (nI (oft nb pl h c))))), (st, .inr (3, [.ref sta])), (sta, .inl (ai, 42, .inl (upd ST c (ST c + (nI (oft nb pl h c))))))]) X dX6_topple_74 (c_X2_leadsTo l D ai az al g L la Lf wc nb c 1 (hc) (by decide) (hL)) gX6_topple_X2_leadsTo rfl rfl ok_X2_leadsTo rfl rfl (by decide) ⟨by decide, by decide⟩ (Nat.le_of_ble_eq_true rfl) [1, 2, 3] [0, 4, 5, 6, 7, 8, 9] ⟨rfl, by decide, rfl, by decide, by decide⟩ 0 rfl rfl rfl (fun r7 u hp => ?_)
  obtain rfl := hp
  refine g_sub (k := 0) (n := 0) (ws' := [(sl, .inr (6, [.ref g, .ref pP, .ref sh, .ref st, .ref q0])), (g, .inr (2, [.ref L, .int wc])), (L, .inr (3, [.ref la])), (la, .inl (ai, 168, .inl Lf)), (pP, .inr (3, [.ref pa])), (pa, .inl (ai, 42, .inl Pf)), (sh, .inr (3, [.ref sha])), (sha, .inl (ai, 42, .inl (addF (upd SH c (SH c + ((-(nI (oft nb pl h c))) * nI (odn nb c 4)))) 42 (cd (nb c 0)) (nI (oft nb pl h c))))), (st, .inr (3, [.ref sta])), (sta, .inl (ai, 42, .inl (upd ST c (ST c + (nI (oft nb pl h c))))))]) [0, 7, 8, 9, 1, 2, 3, 4, 5, 6] (by decide) rfl ?_
  refine g_iload_n X dX6_topple_77 rfl 1 rfl ?_
  refine g_callVv (C := RX3) (As := [.int (cd (nb c 1)), .int (nI (oft nb pl h c))]) (rest := []) (wr := [(sl, .inr (6, [.ref g, .ref pP, .ref sh, .ref st, .ref q0])), (g, .inr (2, [.ref L, .int wc])), (L, .inr (3, [.ref la])), (la, .inl (ai, 168, .inl Lf)), (pP, .inr (3, [.ref pa])), (pa, .inl (ai, 42, .inl Pf)), (st, .inr (3, [.ref sta])), (sta, .inl (ai, 42, .inl (upd ST c (ST c + (nI (oft nb pl h c))))))]) X dX6_topple_78 (c_X3_add l D ai az al sh sha 42 (addF (upd SH c (SH c + ((-(nI (oft nb pl h c))) * nI (odn nb c 4)))) 42 (cd (nb c 0)) (nI (oft nb pl h c))) (cd (nb c 1)) (nI (oft nb pl h c)) (by decide)) gX6_topple_X3_add rfl rfl ok_X3_add rfl rfl (by decide) ⟨by decide, by decide⟩ (Nat.le_of_ble_eq_true rfl) [6, 7] [0, 1, 2, 3, 4, 5, 8, 9] ⟨rfl, by decide, rfl, by decide, by decide⟩ 0 rfl rfl rfl (fun g8 hp => ?_)
  try dsimp only at hp
  obtain rfl := hp
  refine g_sub (k := 0) (n := 0) (ws' := [(sl, .inr (6, [.ref g, .ref pP, .ref sh, .ref st, .ref q0])), (g, .inr (2, [.ref L, .int wc])), (L, .inr (3, [.ref la])), (la, .inl (ai, 168, .inl Lf)), (pP, .inr (3, [.ref pa])), (pa, .inl (ai, 42, .inl Pf)), (sh, .inr (3, [.ref sha])), (sha, .inl (ai, 42, .inl (addF (addF (upd SH c (SH c + ((-(nI (oft nb pl h c))) * nI (odn nb c 4)))) 42 (cd (nb c 0)) (nI (oft nb pl h c))) 42 (cd (nb c 1)) (nI (oft nb pl h c))))), (st, .inr (3, [.ref sta])), (sta, .inl (ai, 42, .inl (upd ST c (ST c + (nI (oft nb pl h c))))))]) [0, 1, 2, 3, 4, 5, 8, 9, 6, 7] (by decide) rfl ?_
  refine g_iinc (v := nI 2) (lv' := [(4, .int (nI 2)), (3, .int (nI (oft nb pl h c))), (2, .int (nI (odn nb c 4))), (0, .ref sl), (1, .int (nI c))]) X dX6_topple_81 0 rfl (nI_inc _) (by decide) rfl ?_
  refine g_goto (tgt := 57) X dX6_topple_84 (by decide) ?_
  refine g_iload X dX6_topple_57 0 rfl ?_
  refine g_iconst (v := nI 4) X dX6_topple_59 (by decide) ?_
  refine g_icmp_geN (tgt := 87) X dX6_topple_60 (by decide) (by decide) (by decide) (fun b60x => False.elim (by revert b60x; decide)) (fun b60x => ?_)
  refine g_aload_n X dX6_topple_63 rfl 3 rfl ?_
  refine g_getf (T := TX6) (v := .ref sh) X dX6_topple_64 0 rfl rfl in_X6_topple_X6 2 (by decide) (by decide +kernel) rfl rfl ?_
  refine g_aload_n X dX6_topple_67 rfl 3 rfl ?_
  refine g_getf (T := TX6) (v := .ref g) X dX6_topple_68 0 rfl rfl in_X6_topple_X6 0 (by decide) (by decide +kernel) rfl rfl ?_
  refine g_iload_n X dX6_topple_71 rfl 4 rfl ?_
  refine g_iload X dX6_topple_72 0 rfl ?_
  refine g_callVi (C := RX2) (As := [.int (nI c), .int (nI 2)]) (rest := [.ref sh]) (wr := [(sl, .inr (6, [.ref g, .ref pP, .ref sh, .ref st, .ref q0])), (pP, .inr (3, [.ref pa])), (pa, .inl (ai, 42, .inl Pf)), (sh, .inr (3, [.ref sha])), (sha, .inl (ai, 42, .inl (addF (addF (upd SH c (SH c + ((-(nI (oft nb pl h c))) * nI (odn nb c 4)))) 42 (cd (nb c 0)) (nI (oft nb pl h c))) 42 (cd (nb c 1)) (nI (oft nb pl h c))))), (st, .inr (3, [.ref sta])), (sta, .inl (ai, 42, .inl (upd ST c (ST c + (nI (oft nb pl h c))))))]) X dX6_topple_74 (c_X2_leadsTo l D ai az al g L la Lf wc nb c 2 (hc) (by decide) (hL)) gX6_topple_X2_leadsTo rfl rfl ok_X2_leadsTo rfl rfl (by decide) ⟨by decide, by decide⟩ (Nat.le_of_ble_eq_true rfl) [1, 2, 3] [0, 4, 5, 6, 7, 8, 9] ⟨rfl, by decide, rfl, by decide, by decide⟩ 0 rfl rfl rfl (fun r10 u hp => ?_)
  obtain rfl := hp
  refine g_sub (k := 0) (n := 0) (ws' := [(sl, .inr (6, [.ref g, .ref pP, .ref sh, .ref st, .ref q0])), (g, .inr (2, [.ref L, .int wc])), (L, .inr (3, [.ref la])), (la, .inl (ai, 168, .inl Lf)), (pP, .inr (3, [.ref pa])), (pa, .inl (ai, 42, .inl Pf)), (sh, .inr (3, [.ref sha])), (sha, .inl (ai, 42, .inl (addF (addF (upd SH c (SH c + ((-(nI (oft nb pl h c))) * nI (odn nb c 4)))) 42 (cd (nb c 0)) (nI (oft nb pl h c))) 42 (cd (nb c 1)) (nI (oft nb pl h c))))), (st, .inr (3, [.ref sta])), (sta, .inl (ai, 42, .inl (upd ST c (ST c + (nI (oft nb pl h c))))))]) [0, 7, 8, 9, 1, 2, 3, 4, 5, 6] (by decide) rfl ?_
  refine g_iload_n X dX6_topple_77 rfl 1 rfl ?_
  refine g_callVv (C := RX3) (As := [.int (cd (nb c 2)), .int (nI (oft nb pl h c))]) (rest := []) (wr := [(sl, .inr (6, [.ref g, .ref pP, .ref sh, .ref st, .ref q0])), (g, .inr (2, [.ref L, .int wc])), (L, .inr (3, [.ref la])), (la, .inl (ai, 168, .inl Lf)), (pP, .inr (3, [.ref pa])), (pa, .inl (ai, 42, .inl Pf)), (st, .inr (3, [.ref sta])), (sta, .inl (ai, 42, .inl (upd ST c (ST c + (nI (oft nb pl h c))))))]) X dX6_topple_78 (c_X3_add l D ai az al sh sha 42 (addF (addF (upd SH c (SH c + ((-(nI (oft nb pl h c))) * nI (odn nb c 4)))) 42 (cd (nb c 0)) (nI (oft nb pl h c))) 42 (cd (nb c 1)) (nI (oft nb pl h c))) (cd (nb c 2)) (nI (oft nb pl h c)) (by decide)) gX6_topple_X3_add rfl rfl ok_X3_add rfl rfl (by decide) ⟨by decide, by decide⟩ (Nat.le_of_ble_eq_true rfl) [6, 7] [0, 1, 2, 3, 4, 5, 8, 9] ⟨rfl, by decide, rfl, by decide, by decide⟩ 0 rfl rfl rfl (fun g11 hp => ?_)
  try dsimp only at hp
  obtain rfl := hp
  refine g_sub (k := 0) (n := 0) (ws' := [(sl, .inr (6, [.ref g, .ref pP, .ref sh, .ref st, .ref q0])), (g, .inr (2, [.ref L, .int wc])), (L, .inr (3, [.ref la])), (la, .inl (ai, 168, .inl Lf)), (pP, .inr (3, [.ref pa])), (pa, .inl (ai, 42, .inl Pf)), (sh, .inr (3, [.ref sha])), (sha, .inl (ai, 42, .inl (addF (addF (addF (upd SH c (SH c + ((-(nI (oft nb pl h c))) * nI (odn nb c 4)))) 42 (cd (nb c 0)) (nI (oft nb pl h c))) 42 (cd (nb c 1)) (nI (oft nb pl h c))) 42 (cd (nb c 2)) (nI (oft nb pl h c))))), (st, .inr (3, [.ref sta])), (sta, .inl (ai, 42, .inl (upd ST c (ST c + (nI (oft nb pl h c))))))]) [0, 1, 2, 3, 4, 5, 8, 9, 6, 7] (by decide) rfl ?_
  refine g_iinc (v := nI 3) (lv' := [(4, .int (nI 3)), (3, .int (nI (oft nb pl h c))), (2, .int (nI (odn nb c 4))), (0, .ref sl), (1, .int (nI c))]) X dX6_topple_81 0 rfl (nI_inc _) (by decide) rfl ?_
  refine g_goto (tgt := 57) X dX6_topple_84 (by decide) ?_
  refine g_iload X dX6_topple_57 0 rfl ?_
  refine g_iconst (v := nI 4) X dX6_topple_59 (by decide) ?_
  refine g_icmp_geN (tgt := 87) X dX6_topple_60 (by decide) (by decide) (by decide) (fun b60x => False.elim (by revert b60x; decide)) (fun b60x => ?_)
  refine g_aload_n X dX6_topple_63 rfl 3 rfl ?_
  refine g_getf (T := TX6) (v := .ref sh) X dX6_topple_64 0 rfl rfl in_X6_topple_X6 2 (by decide) (by decide +kernel) rfl rfl ?_
  refine g_aload_n X dX6_topple_67 rfl 3 rfl ?_
  refine g_getf (T := TX6) (v := .ref g) X dX6_topple_68 0 rfl rfl in_X6_topple_X6 0 (by decide) (by decide +kernel) rfl rfl ?_
  refine g_iload_n X dX6_topple_71 rfl 4 rfl ?_
  refine g_iload X dX6_topple_72 0 rfl ?_
  refine g_callVi (C := RX2) (As := [.int (nI c), .int (nI 3)]) (rest := [.ref sh]) (wr := [(sl, .inr (6, [.ref g, .ref pP, .ref sh, .ref st, .ref q0])), (pP, .inr (3, [.ref pa])), (pa, .inl (ai, 42, .inl Pf)), (sh, .inr (3, [.ref sha])), (sha, .inl (ai, 42, .inl (addF (addF (addF (upd SH c (SH c + ((-(nI (oft nb pl h c))) * nI (odn nb c 4)))) 42 (cd (nb c 0)) (nI (oft nb pl h c))) 42 (cd (nb c 1)) (nI (oft nb pl h c))) 42 (cd (nb c 2)) (nI (oft nb pl h c))))), (st, .inr (3, [.ref sta])), (sta, .inl (ai, 42, .inl (upd ST c (ST c + (nI (oft nb pl h c))))))]) X dX6_topple_74 (c_X2_leadsTo l D ai az al g L la Lf wc nb c 3 (hc) (by decide) (hL)) gX6_topple_X2_leadsTo rfl rfl ok_X2_leadsTo rfl rfl (by decide) ⟨by decide, by decide⟩ (Nat.le_of_ble_eq_true rfl) [1, 2, 3] [0, 4, 5, 6, 7, 8, 9] ⟨rfl, by decide, rfl, by decide, by decide⟩ 0 rfl rfl rfl (fun r13 u hp => ?_)
  obtain rfl := hp
  refine g_sub (k := 0) (n := 0) (ws' := [(sl, .inr (6, [.ref g, .ref pP, .ref sh, .ref st, .ref q0])), (g, .inr (2, [.ref L, .int wc])), (L, .inr (3, [.ref la])), (la, .inl (ai, 168, .inl Lf)), (pP, .inr (3, [.ref pa])), (pa, .inl (ai, 42, .inl Pf)), (sh, .inr (3, [.ref sha])), (sha, .inl (ai, 42, .inl (addF (addF (addF (upd SH c (SH c + ((-(nI (oft nb pl h c))) * nI (odn nb c 4)))) 42 (cd (nb c 0)) (nI (oft nb pl h c))) 42 (cd (nb c 1)) (nI (oft nb pl h c))) 42 (cd (nb c 2)) (nI (oft nb pl h c))))), (st, .inr (3, [.ref sta])), (sta, .inl (ai, 42, .inl (upd ST c (ST c + (nI (oft nb pl h c))))))]) [0, 7, 8, 9, 1, 2, 3, 4, 5, 6] (by decide) rfl ?_
  refine g_iload_n X dX6_topple_77 rfl 1 rfl ?_
  refine g_callVv (C := RX3) (As := [.int (cd (nb c 3)), .int (nI (oft nb pl h c))]) (rest := []) (wr := [(sl, .inr (6, [.ref g, .ref pP, .ref sh, .ref st, .ref q0])), (g, .inr (2, [.ref L, .int wc])), (L, .inr (3, [.ref la])), (la, .inl (ai, 168, .inl Lf)), (pP, .inr (3, [.ref pa])), (pa, .inl (ai, 42, .inl Pf)), (st, .inr (3, [.ref sta])), (sta, .inl (ai, 42, .inl (upd ST c (ST c + (nI (oft nb pl h c))))))]) X dX6_topple_78 (c_X3_add l D ai az al sh sha 42 (addF (addF (addF (upd SH c (SH c + ((-(nI (oft nb pl h c))) * nI (odn nb c 4)))) 42 (cd (nb c 0)) (nI (oft nb pl h c))) 42 (cd (nb c 1)) (nI (oft nb pl h c))) 42 (cd (nb c 2)) (nI (oft nb pl h c))) (cd (nb c 3)) (nI (oft nb pl h c)) (by decide)) gX6_topple_X3_add rfl rfl ok_X3_add rfl rfl (by decide) ⟨by decide, by decide⟩ (Nat.le_of_ble_eq_true rfl) [6, 7] [0, 1, 2, 3, 4, 5, 8, 9] ⟨rfl, by decide, rfl, by decide, by decide⟩ 0 rfl rfl rfl (fun g14 hp => ?_)
  try dsimp only at hp
  obtain rfl := hp
  refine g_sub (k := 0) (n := 0) (ws' := [(sl, .inr (6, [.ref g, .ref pP, .ref sh, .ref st, .ref q0])), (g, .inr (2, [.ref L, .int wc])), (L, .inr (3, [.ref la])), (la, .inl (ai, 168, .inl Lf)), (pP, .inr (3, [.ref pa])), (pa, .inl (ai, 42, .inl Pf)), (sh, .inr (3, [.ref sha])), (sha, .inl (ai, 42, .inl (addF (addF (addF (addF (upd SH c (SH c + ((-(nI (oft nb pl h c))) * nI (odn nb c 4)))) 42 (cd (nb c 0)) (nI (oft nb pl h c))) 42 (cd (nb c 1)) (nI (oft nb pl h c))) 42 (cd (nb c 2)) (nI (oft nb pl h c))) 42 (cd (nb c 3)) (nI (oft nb pl h c))))), (st, .inr (3, [.ref sta])), (sta, .inl (ai, 42, .inl (upd ST c (ST c + (nI (oft nb pl h c))))))]) [0, 1, 2, 3, 4, 5, 8, 9, 6, 7] (by decide) rfl ?_
  refine g_iinc (v := nI 4) (lv' := [(4, .int (nI 4)), (3, .int (nI (oft nb pl h c))), (2, .int (nI (odn nb c 4))), (0, .ref sl), (1, .int (nI c))]) X dX6_topple_81 0 rfl (nI_inc _) (by decide) rfl ?_
  refine g_goto (tgt := 57) X dX6_topple_84 (by decide) ?_
  refine g_iload X dX6_topple_57 0 rfl ?_
  refine g_iconst (v := nI 4) X dX6_topple_59 (by decide) ?_
  refine g_icmp_geN (tgt := 87) X dX6_topple_60 (by decide) (by decide) (by decide) (fun b60x => ?_) (fun b60x => False.elim (by revert b60x; decide))
  exact g_vret X E dX6_topple_87 (⟨addF (addF (addF (addF (upd SH c (SH c + ((-(nI (oft nb pl h c))) * nI (odn nb c 4)))) 42 (cd (nb c 0)) (nI (oft nb pl h c))) 42 (cd (nb c 1)) (nI (oft nb pl h c))) 42 (cd (nb c 2)) (nI (oft nb pl h c))) 42 (cd (nb c 3)) (nI (oft nb pl h c)), upd ST c (ST c + (nI (oft nb pl h c)))⟩) rfl (by decide) (by decide) (⟨((((hH.set (by rw [hH c hc]; exact nI_negmul hk3)).add (hL c 0 hc (by decide)).2).add (hL c 1 hc (by decide)).2).add (hL c 2 hc (by decide)).2).add (hL c 3 hc (by decide)).2, hT.add1 hc⟩)

theorem ok_X6_queueBeside : okName yX6_queueBeside 1 := by decide +kernel
theorem in_X6_queueBeside_X6 : ∀ w ∈ u_ws RX6 TX6 5, w ∈ wsX6_queueBeside := by decide +kernel
set_option maxRecDepth 100000 in
set_option maxHeartbeats 4000000 in
theorem c_X6_queueBeside (l : Launch) (D : va_G) (ai az al : ClassId) (sl : Nat) (g : Nat) (pP : Nat) (sh : Nat) (st : Nat) (q0 : Nat) (L : Nat) (la : Nat) (Lf : Nat → Int32) (wc : Int32) (nb : Nat → Nat → Nat) (pa : Nat) (Pf : Nat → Int32) (pl : Nat → Bool) (sha : Nat) (SH : Nat → Int32) (h : Nat → Nat) (r : Nat) (ra : Nat) (w : Nat) (wa : Nat) (fs : Nat) (cnt : Nat) (Rr : Nat → Int32) (Wt : Nat → Int32) (ql : List Nat) (c : Nat) (hc : c < 42) (hL : LeadsOK Lf nb) (hP : POK Pf pl) (hH : HOK SH h) (hb : ∀ d, d < 42 → h d < 2 ^ 31) (hq : QOK fs cnt Rr Wt ql) : CV l D (tY ai az al) yX6_queueBeside wsX6_queueBeside { frames := 3, cells := 0, slots := 0, locals := 63 } [.ref sl, .int (nI c)] [(sl, .inr (6, [.ref g, .ref pP, .ref sh, .ref st, .ref q0])), (g, .inr (2, [.ref L, .int wc])), (L, .inr (3, [.ref la])), (la, .inl (ai, 168, .inl Lf)), (pP, .inr (3, [.ref pa])), (pa, .inl (ai, 42, .inl Pf)), (sh, .inr (3, [.ref sha])), (sha, .inl (ai, 42, .inl SH)), (q0, .inr (0, [.ref r, .ref w, .int (nI fs), .int (nI cnt)])), (r, .inr (3, [.ref ra])), (ra, .inl (ai, 42, .inl Rr)), (w, .inr (3, [.ref wa])), (wa, .inl (ai, 42, .inl Wt))] (fun (u : Nat × (Nat → Int32) × (Nat → Int32) × (List Nat)) => QOK fs u.1 u.2.1 u.2.2.1 u.2.2.2 ∧ (∀ x ∈ ql, x ∈ u.2.2.2) ∧ (∀ x ∈ u.2.2.2, x ∈ ql ∨ (x < 42 ∧ lim pl x ≤ h x)) ∧ (∀ s, s < 4 → nb c s < 42 → lim pl (nb c s) ≤ h (nb c s) → nb c s ∈ u.2.2.2)) (fun (u : Nat × (Nat → Int32) × (Nat → Int32) × (List Nat)) => [(sl, .inr (6, [.ref g, .ref pP, .ref sh, .ref st, .ref q0])), (g, .inr (2, [.ref L, .int wc])), (L, .inr (3, [.ref la])), (la, .inl (ai, 168, .inl Lf)), (pP, .inr (3, [.ref pa])), (pa, .inl (ai, 42, .inl Pf)), (sh, .inr (3, [.ref sha])), (sha, .inl (ai, 42, .inl SH)), (q0, .inr (0, [.ref r, .ref w, .int (nI fs), .int (nI u.1)])), (r, .inr (3, [.ref ra])), (ra, .inl (ai, 42, .inl u.2.1)), (w, .inr (3, [.ref wa])), (wa, .inl (ai, 42, .inl u.2.2.1))]) := by
  refine ofG_V (cc := cX6_queueBeside) (nL := 4) (lv0 := [(0, .ref sl), (1, .int (nI c))]) (by decide) rfl (Nat.le_of_ble_eq_true rfl) rfl ?_
  intro Γ X E hinit
  refine g_iconst (v := nI 0) X dX6_queueBeside_0 (by decide) ?_
  refine g_istore_n (lv' := [(2, .int (nI 0)), (0, .ref sl), (1, .int (nI c))]) X dX6_queueBeside_1 rfl (by decide) rfl ?_
  have L2 : ∀ (fl : Nat) (i : Nat) (cn : Nat) (Rn : Nat → Int32) (Wn : Nat → Int32) (qn : List Nat), (i ≤ 4) → (QOK fs cn Rn Wn qn) → (∀ x ∈ ql, x ∈ qn) → (∀ x ∈ qn, x ∈ ql ∨ (x < 42 ∧ lim pl x ≤ h x)) → (∀ s, s < i → nb c s < 42 → lim pl (nb c s) ≤ h (nb c s) → nb c s ∈ qn) → (5 ≤ i + fl) → G Γ 4 0 0 [(sl, .inr (6, [.ref g, .ref pP, .ref sh, .ref st, .ref q0])), (g, .inr (2, [.ref L, .int wc])), (L, .inr (3, [.ref la])), (la, .inl (ai, 168, .inl Lf)), (pP, .inr (3, [.ref pa])), (pa, .inl (ai, 42, .inl Pf)), (sh, .inr (3, [.ref sha])), (sha, .inl (ai, 42, .inl SH)), (q0, .inr (0, [.ref r, .ref w, .int (nI fs), .int (nI cn)])), (r, .inr (3, [.ref ra])), (ra, .inl (ai, 42, .inl Rn)), (w, .inr (3, [.ref wa])), (wa, .inl (ai, 42, .inl Wn))] [(0, .ref sl), (1, .int (nI c)), (2, .int (nI i))] 2 [] := by
    intro fl
    induction fl with
    | zero => intro i cn Rn Wn qn hi hq2 hs2 hf2 ha2 hm; exact absurd hm (by omega)
    | succ fl ih2 =>
      intro i cn Rn Wn qn hi hq2 hs2 hf2 ha2 hm
      refine g_iload_n X dX6_queueBeside_2 rfl 2 rfl ?_
      refine g_iconst (v := nI 4) X dX6_queueBeside_3 (by decide) ?_
      refine g_icmp_geN (tgt := 46) X dX6_queueBeside_4 (by decide) (by omega) (by omega) (fun b4 => ?_) (fun b4 => ?_)
      · exact g_vret X E dX6_queueBeside_46 (⟨cn, Rn, Wn, qn⟩) rfl (by decide) (by decide) (⟨hq2, hs2, hf2, fun s hs => ha2 s (by omega)⟩)
      · refine g_aload_n X dX6_queueBeside_7 rfl 0 rfl ?_
        refine g_getf (T := TX6) (v := .ref g) X dX6_queueBeside_8 0 rfl rfl in_X6_queueBeside_X6 0 (by decide) (by decide +kernel) rfl rfl ?_
        refine g_iload_n X dX6_queueBeside_11 rfl 1 rfl ?_
        refine g_iload_n X dX6_queueBeside_12 rfl 2 rfl ?_
        refine g_callVi (C := RX2) (As := [.int (nI c), .int (nI i)]) (rest := []) (wr := [(sl, .inr (6, [.ref g, .ref pP, .ref sh, .ref st, .ref q0])), (pP, .inr (3, [.ref pa])), (pa, .inl (ai, 42, .inl Pf)), (sh, .inr (3, [.ref sha])), (sha, .inl (ai, 42, .inl SH)), (q0, .inr (0, [.ref r, .ref w, .int (nI fs), .int (nI cn)])), (r, .inr (3, [.ref ra])), (ra, .inl (ai, 42, .inl Rn)), (w, .inr (3, [.ref wa])), (wa, .inl (ai, 42, .inl Wn))]) X dX6_queueBeside_13 (c_X2_leadsTo l D ai az al g L la Lf wc nb c i (by first | omega | assumption) (by first | omega | assumption) (by first | omega | assumption)) gX6_queueBeside_X2_leadsTo rfl rfl ok_X2_leadsTo rfl rfl (by decide) ⟨by decide, by decide⟩ (Nat.le_of_ble_eq_true rfl) [1, 2, 3] [0, 4, 5, 6, 7, 8, 9, 10, 11, 12] ⟨rfl, by decide, rfl, by decide, by decide⟩ 0 rfl rfl rfl (fun r1 u hp => ?_)
        obtain rfl := hp
        refine g_sub (k := 0) (n := 0) (ws' := [(sl, .inr (6, [.ref g, .ref pP, .ref sh, .ref st, .ref q0])), (g, .inr (2, [.ref L, .int wc])), (L, .inr (3, [.ref la])), (la, .inl (ai, 168, .inl Lf)), (pP, .inr (3, [.ref pa])), (pa, .inl (ai, 42, .inl Pf)), (sh, .inr (3, [.ref sha])), (sha, .inl (ai, 42, .inl SH)), (q0, .inr (0, [.ref r, .ref w, .int (nI fs), .int (nI cn)])), (r, .inr (3, [.ref ra])), (ra, .inl (ai, 42, .inl Rn)), (w, .inr (3, [.ref wa])), (wa, .inl (ai, 42, .inl Wn))]) [0, 10, 11, 12, 1, 2, 3, 4, 5, 6, 7, 8, 9] (by decide) rfl ?_
        refine g_istore_n (lv' := [(3, .int (cd (nb c i))), (0, .ref sl), (1, .int (nI c)), (2, .int (nI i))]) X dX6_queueBeside_16 rfl (by decide) rfl ?_
        refine g_iload_n X dX6_queueBeside_17 rfl 0 rfl ?_
        refine g_callNi (As := [.int (cd (nb c i))]) (rest := []) (wr := [(sl, .inr (6, [.ref g, .ref pP, .ref sh, .ref st, .ref q0])), (g, .inr (2, [.ref L, .int wc])), (L, .inr (3, [.ref la])), (la, .inl (ai, 168, .inl Lf)), (pP, .inr (3, [.ref pa])), (pa, .inl (ai, 42, .inl Pf)), (sh, .inr (3, [.ref sha])), (sha, .inl (ai, 42, .inl SH)), (q0, .inr (0, [.ref r, .ref w, .int (nI fs), .int (nI cn)])), (r, .inr (3, [.ref ra])), (ra, .inl (ai, 42, .inl Rn)), (w, .inr (3, [.ref wa])), (wa, .inl (ai, 42, .inl Wn))]) X dX6_queueBeside_18 (c_X8_isCellD l D ai az al (nb c i) ((hL c i hc (by omega)).2)) gX6_queueBeside_X8_isCell_n73 rfl 26 rfl (by decide +kernel) (by decide +kernel) ok_X8_isCell rfl rfl (by decide) ⟨by decide, by decide⟩ (Nat.le_of_ble_eq_true rfl) [] [0, 1, 2, 3, 4, 5, 6, 7, 8, 9, 10, 11, 12] ⟨rfl, by decide, rfl, by decide, by decide⟩ (fun r2 u hp => ?_)
        obtain rfl := hp
        refine g_sub (k := 0) (n := 0) (ws' := [(sl, .inr (6, [.ref g, .ref pP, .ref sh, .ref st, .ref q0])), (g, .inr (2, [.ref L, .int wc])), (L, .inr (3, [.ref la])), (la, .inl (ai, 168, .inl Lf)), (pP, .inr (3, [.ref pa])), (pa, .inl (ai, 42, .inl Pf)), (sh, .inr (3, [.ref sha])), (sha, .inl (ai, 42, .inl SH)), (q0, .inr (0, [.ref r, .ref w, .int (nI fs), .int (nI cn)])), (r, .inr (3, [.ref ra])), (ra, .inl (ai, 42, .inl Rn)), (w, .inr (3, [.ref wa])), (wa, .inl (ai, 42, .inl Wn))]) [0, 1, 2, 3, 4, 5, 6, 7, 8, 9, 10, 11, 12] (by decide) rfl ?_
        refine g_if_eqN (tgt := 40) X dX6_queueBeside_21 (by decide) isC_lt (fun b21 => ?_) (fun b21 => ?_)
        · refine g_iinc (v := nI (i + 1)) (lv' := [(2, .int (nI (i + 1))), (3, .int (cd (nb c i))), (0, .ref sl), (1, .int (nI c))]) X dX6_queueBeside_40 3 rfl (nI_inc _) (by decide) rfl ?_
          refine g_goto (tgt := 2) X dX6_queueBeside_43 (by decide) ?_
          refine g_lv (lv' := [(0, .ref sl), (1, .int (nI c)), (2, .int (nI (i + 1)))]) [2, 3, 0] rfl ?_
          exact ih2 (i + 1) _ Rn Wn qn (by omega) (hq2) (hs2) (hf2) (fun s hs h1 h2 => by by_cases e : s = i; (exfalso; subst e; first | exact isC_0.mp b21 h1 | exact absurd h2 (of_decide_eq_false (bn_0.mp b29))); exact ha2 s (by omega) h1 h2) (by omega)
        · have hd : nb c i < 42 := isC_n.mp b21
          refine g_lv (lv' := [(3, .int (nI (nb c i))), (0, .ref sl), (1, .int (nI c)), (2, .int (nI i))]) [0, 1, 2, 3] (by rw [cd_lt hd]; rfl) ?_
          refine g_aload_n X dX6_queueBeside_24 rfl 1 rfl ?_
          refine g_iload_n X dX6_queueBeside_25 rfl 0 rfl ?_
          refine g_callVi (C := RX6) (As := [.int (nI (nb c i))]) (rest := []) (wr := [(g, .inr (2, [.ref L, .int wc])), (L, .inr (3, [.ref la])), (la, .inl (ai, 168, .inl Lf)), (q0, .inr (0, [.ref r, .ref w, .int (nI fs), .int (nI cn)])), (r, .inr (3, [.ref ra])), (ra, .inl (ai, 42, .inl Rn)), (w, .inr (3, [.ref wa])), (wa, .inl (ai, 42, .inl Wn))]) X dX6_queueBeside_26 (c_X6_isTooHigh l D ai az al sl g pP sh st q0 pa Pf pl sha SH h (nb c i) (hd) (hP) (hH) (hb _ hd)) gX6_queueBeside_X6_isTooHigh rfl rfl ok_X6_isTooHigh rfl rfl (by decide) ⟨by decide, by decide⟩ (Nat.le_of_ble_eq_true rfl) [0, 4, 5, 6, 7] [1, 2, 3, 8, 9, 10, 11, 12] ⟨rfl, by decide, rfl, by decide, by decide⟩ 0 rfl rfl rfl (fun r3 u hp => ?_)
          obtain rfl := hp
          refine g_sub (k := 0) (n := 0) (ws' := [(sl, .inr (6, [.ref g, .ref pP, .ref sh, .ref st, .ref q0])), (g, .inr (2, [.ref L, .int wc])), (L, .inr (3, [.ref la])), (la, .inl (ai, 168, .inl Lf)), (pP, .inr (3, [.ref pa])), (pa, .inl (ai, 42, .inl Pf)), (sh, .inr (3, [.ref sha])), (sha, .inl (ai, 42, .inl SH)), (q0, .inr (0, [.ref r, .ref w, .int (nI fs), .int (nI cn)])), (r, .inr (3, [.ref ra])), (ra, .inl (ai, 42, .inl Rn)), (w, .inr (3, [.ref wa])), (wa, .inl (ai, 42, .inl Wn))]) [8, 0, 1, 2, 9, 10, 11, 12, 3, 4, 5, 6, 7] (by decide) rfl ?_
          refine g_if_eqN (tgt := 40) X dX6_queueBeside_29 (by decide) (bn_lt _) (fun b29 => ?_) (fun b29 => ?_)
          · refine g_iinc (v := nI (i + 1)) (lv' := [(2, .int (nI (i + 1))), (3, .int (nI (nb c i))), (0, .ref sl), (1, .int (nI c))]) X dX6_queueBeside_40 3 rfl (nI_inc _) (by decide) rfl ?_
            refine g_goto (tgt := 2) X dX6_queueBeside_43 (by decide) ?_
            refine g_lv (lv' := [(0, .ref sl), (1, .int (nI c)), (2, .int (nI (i + 1)))]) [2, 3, 0] rfl ?_
            exact ih2 (i + 1) _ Rn Wn qn (by omega) (hq2) (hs2) (hf2) (fun s hs h1 h2 => by by_cases e : s = i; (exfalso; subst e; first | exact isC_0.mp b21 h1 | exact absurd h2 (of_decide_eq_false (bn_0.mp b29))); exact ha2 s (by omega) h1 h2) (by omega)
          · have hhi : lim pl (nb c i) ≤ h (nb c i) := of_decide_eq_true (bn_n.mp b29)
            refine g_aload_n X dX6_queueBeside_32 rfl 1 rfl ?_
            refine g_getf (T := TX6) (v := .ref q0) X dX6_queueBeside_33 0 rfl rfl in_X6_queueBeside_X6 4 (by decide) (by decide +kernel) rfl rfl ?_
            refine g_iload_n X dX6_queueBeside_36 rfl 0 rfl ?_
            refine g_callVv (C := RX0) (As := [.int (nI (nb c i))]) (rest := []) (wr := [(sl, .inr (6, [.ref g, .ref pP, .ref sh, .ref st, .ref q0])), (g, .inr (2, [.ref L, .int wc])), (L, .inr (3, [.ref la])), (la, .inl (ai, 168, .inl Lf)), (pP, .inr (3, [.ref pa])), (pa, .inl (ai, 42, .inl Pf)), (sh, .inr (3, [.ref sha])), (sha, .inl (ai, 42, .inl SH))]) X dX6_queueBeside_37 (c_X0_enter l D ai az al q0 r ra w wa fs cn Rn Wn qn (nb c i) (hd) (hq2)) gX6_queueBeside_X0_enter rfl rfl ok_X0_enter rfl rfl (by decide) ⟨by decide, by decide⟩ (Nat.le_of_ble_eq_true rfl) [8, 9, 10, 11, 12] [0, 1, 2, 3, 4, 5, 6, 7] ⟨rfl, by decide, rfl, by decide, by decide⟩ 0 rfl rfl rfl (fun u hp => ?_)
            obtain ⟨cnt24, R25, W26⟩ := u
            try dsimp only at hp
            have hq3 := hp
            refine g_sub (k := 0) (n := 0) (ws' := [(sl, .inr (6, [.ref g, .ref pP, .ref sh, .ref st, .ref q0])), (g, .inr (2, [.ref L, .int wc])), (L, .inr (3, [.ref la])), (la, .inl (ai, 168, .inl Lf)), (pP, .inr (3, [.ref pa])), (pa, .inl (ai, 42, .inl Pf)), (sh, .inr (3, [.ref sha])), (sha, .inl (ai, 42, .inl SH)), (q0, .inr (0, [.ref r, .ref w, .int (nI fs), .int (nI cnt24)])), (r, .inr (3, [.ref ra])), (ra, .inl (ai, 42, .inl R25)), (w, .inr (3, [.ref wa])), (wa, .inl (ai, 42, .inl W26))]) [0, 1, 2, 3, 4, 5, 6, 7, 8, 9, 10, 11, 12] (by decide) rfl ?_
            refine g_iinc (v := nI (i + 1)) (lv' := [(2, .int (nI (i + 1))), (3, .int (nI (nb c i))), (0, .ref sl), (1, .int (nI c))]) X dX6_queueBeside_40 3 rfl (nI_inc _) (by decide) rfl ?_
            refine g_goto (tgt := 2) X dX6_queueBeside_43 (by decide) ?_
            refine g_lv (lv' := [(0, .ref sl), (1, .int (nI c)), (2, .int (nI (i + 1)))]) [2, 3, 0] rfl ?_
            exact ih2 (i + 1) cnt24 R25 W26 (if nb c i ∈ qn then qn else qn ++ [nb c i]) (by omega) (hq3) (fun x hx => by have q := hs2 x hx; split <;> simp [q]) (fun x hx => by by_cases e : nb c i ∈ qn <;> simp only [e, if_true, if_false] at hx; exact hf2 x hx; exact (List.mem_append.mp hx).elim (fun q => hf2 x q) (fun q => by simp at q; subst q; exact Or.inr ⟨hd, hhi⟩)) (fun s hs h1 h2 => by by_cases e : s = i; subst e; split <;> simp_all; have q := ha2 s (by omega) h1 h2; split <;> simp [q]) (by omega)
  refine g_lv (lv' := [(0, .ref sl), (1, .int (nI c)), (2, .int (nI 0))]) [1, 2, 0] rfl ?_
  exact L2 5 0 cnt Rr Wt ql (by decide) (hq) (fun x hx => hx) (fun x hx => Or.inl hx) (fun s hs => absurd hs (by omega)) (by decide)

theorem ok_X6_settleByQueue : okName yX6_settleByQueue 0 := by decide +kernel
theorem in_X6_settleByQueue_X6 : ∀ w ∈ u_ws RX6 TX6 5, w ∈ wsX6_settleByQueue := by decide +kernel
set_option maxRecDepth 100000 in
set_option maxHeartbeats 4000000 in
theorem c_X6_settleByQueue (l : Launch) (D : va_G) (ai az al : ClassId) (sl : Nat) (g : Nat) (pP : Nat) (sh : Nat) (st : Nat) (q0 : Nat) (L : Nat) (la : Nat) (Lf : Nat → Int32) (wc : Int32) (nb : Nat → Nat → Nat) (pa : Nat) (Pf : Nat → Int32) (pl : Nat → Bool) (sha : Nat) (SH : Nat → Int32) (h : Nat → Nat) (sta : Nat) (ST : Nat → Int32) (r : Nat) (ra : Nat) (w : Nat) (wa : Nat) (fsI : Int32) (cntI : Int32) (Rr : Nat → Int32) (Wt : Nat → Int32) (hL : LeadsOK Lf nb) (hW : NW nb) (hC : Cn nb) (hP : POK Pf pl) (hH : HOK SH h) (hT : HOK ST (fun _ => 0)) (hn : sN h 42 ≤ 500) : CV l D (tY ai az al) yX6_settleByQueue wsX6_settleByQueue { frames := 4, cells := 0, slots := 0, locals := 90 } [.ref sl] [(sl, .inr (6, [.ref g, .ref pP, .ref sh, .ref st, .ref q0])), (g, .inr (2, [.ref L, .int wc])), (L, .inr (3, [.ref la])), (la, .inl (ai, 168, .inl Lf)), (pP, .inr (3, [.ref pa])), (pa, .inl (ai, 42, .inl Pf)), (sh, .inr (3, [.ref sha])), (sha, .inl (ai, 42, .inl SH)), (st, .inr (3, [.ref sta])), (sta, .inl (ai, 42, .inl ST)), (q0, .inr (0, [.ref r, .ref w, .int fsI, .int cntI])), (r, .inr (3, [.ref ra])), (ra, .inl (ai, 42, .inl Rr)), (w, .inr (3, [.ref wa])), (wa, .inl (ai, 42, .inl Wt))] (fun (u : (Nat → Int32) × (Nat → Int32) × Nat × Nat × (Nat → Int32) × (Nat → Int32) × (Nat → Nat) × (Nat → Nat)) => Stl nb pl h u.2.2.2.2.2.2.1 u.2.2.2.2.2.2.2 ∧ HOK u.1 u.2.2.2.2.2.2.1 ∧ HOK u.2.1 u.2.2.2.2.2.2.2) (fun (u : (Nat → Int32) × (Nat → Int32) × Nat × Nat × (Nat → Int32) × (Nat → Int32) × (Nat → Nat) × (Nat → Nat)) => [(sl, .inr (6, [.ref g, .ref pP, .ref sh, .ref st, .ref q0])), (g, .inr (2, [.ref L, .int wc])), (L, .inr (3, [.ref la])), (la, .inl (ai, 168, .inl Lf)), (pP, .inr (3, [.ref pa])), (pa, .inl (ai, 42, .inl Pf)), (sh, .inr (3, [.ref sha])), (sha, .inl (ai, 42, .inl u.1)), (st, .inr (3, [.ref sta])), (sta, .inl (ai, 42, .inl u.2.1)), (q0, .inr (0, [.ref r, .ref w, .int (nI u.2.2.1), .int (nI u.2.2.2.1)])), (r, .inr (3, [.ref ra])), (ra, .inl (ai, 42, .inl u.2.2.2.2.1)), (w, .inr (3, [.ref wa])), (wa, .inl (ai, 42, .inl u.2.2.2.2.2.1))]) := by
  refine ofG_V (cc := cX6_settleByQueue) (nL := 3) (lv0 := [(0, .ref sl)]) (by decide) rfl (Nat.le_of_ble_eq_true rfl) rfl ?_
  intro Γ X E hinit
  refine g_aload_n X dX6_settleByQueue_0 rfl 0 rfl ?_
  refine g_getf (T := TX6) (v := .ref q0) X dX6_settleByQueue_1 0 rfl rfl in_X6_settleByQueue_X6 4 (by decide) (by decide +kernel) rfl rfl ?_
  refine g_callVv (C := RX0) (As := []) (rest := []) (wr := [(sl, .inr (6, [.ref g, .ref pP, .ref sh, .ref st, .ref q0])), (g, .inr (2, [.ref L, .int wc])), (L, .inr (3, [.ref la])), (la, .inl (ai, 168, .inl Lf)), (pP, .inr (3, [.ref pa])), (pa, .inl (ai, 42, .inl Pf)), (sh, .inr (3, [.ref sha])), (sha, .inl (ai, 42, .inl SH)), (st, .inr (3, [.ref sta])), (sta, .inl (ai, 42, .inl ST))]) X dX6_settleByQueue_4 (c_X0_clear l D ai az al q0 r ra w wa fsI cntI Rr Wt ) gX6_settleByQueue_X0_clear rfl rfl ok_X0_clear rfl rfl (by decide) ⟨by decide, by decide⟩ (Nat.le_of_ble_eq_true rfl) [10, 11, 12, 13, 14] [0, 1, 2, 3, 4, 5, 6, 7, 8, 9] ⟨rfl, by decide, rfl, by decide, by decide⟩ 0 rfl rfl rfl (fun u hp => ?_)
  refine g_sub (k := 0) (n := 0) (ws' := [(sl, .inr (6, [.ref g, .ref pP, .ref sh, .ref st, .ref q0])), (g, .inr (2, [.ref L, .int wc])), (L, .inr (3, [.ref la])), (la, .inl (ai, 168, .inl Lf)), (pP, .inr (3, [.ref pa])), (pa, .inl (ai, 42, .inl Pf)), (sh, .inr (3, [.ref sha])), (sha, .inl (ai, 42, .inl SH)), (st, .inr (3, [.ref sta])), (sta, .inl (ai, 42, .inl ST)), (q0, .inr (0, [.ref r, .ref w, .int (nI 0), .int (nI 0)])), (r, .inr (3, [.ref ra])), (ra, .inl (ai, 42, .inl Rr)), (w, .inr (3, [.ref wa])), (wa, .inl (ai, 42, .inl (fun _ => 0)))]) [0, 1, 2, 3, 4, 5, 6, 7, 8, 9, 10, 11, 12, 13, 14] (by decide) rfl ?_
  refine g_iconst (v := nI 0) X dX6_settleByQueue_7 (by decide) ?_
  refine g_istore_n (lv' := [(1, .int (nI 0)), (0, .ref sl)]) X dX6_settleByQueue_8 rfl (by decide) rfl ?_
  have L9 : ∀ (fl : Nat) (i : Nat) (ca : Nat) (Ra : Nat → Int32) (Wa : Nat → Int32) (qa : List Nat), (i ≤ 42) → (QOK 0 ca Ra Wa qa) → (∀ x, x ∈ qa ↔ (x < i ∧ lim pl x ≤ h x)) → (43 ≤ i + fl) → G Γ 3 0 0 [(sl, .inr (6, [.ref g, .ref pP, .ref sh, .ref st, .ref q0])), (g, .inr (2, [.ref L, .int wc])), (L, .inr (3, [.ref la])), (la, .inl (ai, 168, .inl Lf)), (pP, .inr (3, [.ref pa])), (pa, .inl (ai, 42, .inl Pf)), (sh, .inr (3, [.ref sha])), (sha, .inl (ai, 42, .inl SH)), (st, .inr (3, [.ref sta])), (sta, .inl (ai, 42, .inl ST)), (q0, .inr (0, [.ref r, .ref w, .int (nI 0), .int (nI ca)])), (r, .inr (3, [.ref ra])), (ra, .inl (ai, 42, .inl Ra)), (w, .inr (3, [.ref wa])), (wa, .inl (ai, 42, .inl Wa))] [(0, .ref sl), (1, .int (nI i))] 9 [] := by
    intro fl
    induction fl with
    | zero => intro i ca Ra Wa qa hi hq1 hx1 hm; exact absurd hm (by omega)
    | succ fl ih9 =>
      intro i ca Ra Wa qa hi hq1 hx1 hm
      refine g_iload_n X dX6_settleByQueue_9 rfl 1 rfl ?_
      refine g_bipush (v := nI 42) X dX6_settleByQueue_10 (by decide) ?_
      refine g_icmp_geN (tgt := 37) X dX6_settleByQueue_12 (by decide) (by omega) (by omega) (fun b12 => ?_) (fun b12 => ?_)
      · refine g_iconst (v := nI 0) X dX6_settleByQueue_37 (by decide) ?_
        refine g_istore_n (lv' := [(1, .int (nI 0)), (0, .ref sl)]) X dX6_settleByQueue_38 rfl (by decide) rfl ?_
        have L39 : ∀ (fm : Nat) (tn : Nat) (Sa : Nat → Int32) (Ta : Nat → Int32) (fb : Nat) (cb : Nat) (Rb : Nat → Int32) (Wb : Nat → Int32) (hh : Nat → Nat) (uu : Nat → Nat) (qq : List Nat), (HOK Sa hh) → (HOK Ta uu) → (SI nb pl h hh uu) → (QOK fb cb Rb Wb qq) → (∀ x, x < 42 → (lim pl x ≤ hh x ↔ x ∈ qq)) → (tn ≤ sN uu 42) → (1000001 ≤ tn + fm) → G Γ 3 0 0 [(sl, .inr (6, [.ref g, .ref pP, .ref sh, .ref st, .ref q0])), (g, .inr (2, [.ref L, .int wc])), (L, .inr (3, [.ref la])), (la, .inl (ai, 168, .inl Lf)), (pP, .inr (3, [.ref pa])), (pa, .inl (ai, 42, .inl Pf)), (sh, .inr (3, [.ref sha])), (sha, .inl (ai, 42, .inl Sa)), (st, .inr (3, [.ref sta])), (sta, .inl (ai, 42, .inl Ta)), (q0, .inr (0, [.ref r, .ref w, .int (nI fb), .int (nI cb)])), (r, .inr (3, [.ref ra])), (ra, .inl (ai, 42, .inl Rb)), (w, .inr (3, [.ref wa])), (wa, .inl (ai, 42, .inl Wb))] [(0, .ref sl), (1, .int (nI tn))] 39 [] := by
          intro fm
          induction fm with
          | zero => intro tn Sa Ta fb cb Rb Wb hh uu qq hHa hTa hS hq hsame ht hn2; have q1 := hS.usum hW.nb hC; exact absurd hn2 (by omega)
          | succ fm ih39 =>
            intro tn Sa Ta fb cb Rb Wb hh uu qq hHa hTa hS hq hsame ht hn2
            have hN := hW.nb
            have hus := hS.usum hN hC
            have hbb : ∀ d, d < 42 → hh d < 2 ^ 31 := fun d hd => Nat.lt_of_le_of_lt (hS.hb hN hC hd) (by omega)
            have hcb := hq.le
            refine g_iload_n X dX6_settleByQueue_39 rfl 1 rfl ?_
            refine g_ldc (v := nI 1000000) X dX6_settleByQueue_40 (by decide +kernel) ?_
            refine g_icmp_geN (tgt := 79) X dX6_settleByQueue_42 (by decide) (by omega) (by omega) (fun b42 => False.elim (by omega)) (fun b42 => ?_)
            refine g_aload_n X dX6_settleByQueue_45 rfl 0 rfl ?_
            refine g_getf (T := TX6) (v := .ref q0) X dX6_settleByQueue_46 0 rfl rfl in_X6_settleByQueue_X6 4 (by decide) (by decide +kernel) rfl rfl ?_
            refine g_callVi (C := RX0) (As := []) (rest := []) (wr := [(sl, .inr (6, [.ref g, .ref pP, .ref sh, .ref st, .ref q0])), (g, .inr (2, [.ref L, .int wc])), (L, .inr (3, [.ref la])), (la, .inl (ai, 168, .inl Lf)), (pP, .inr (3, [.ref pa])), (pa, .inl (ai, 42, .inl Pf)), (sh, .inr (3, [.ref sha])), (sha, .inl (ai, 42, .inl Sa)), (st, .inr (3, [.ref sta])), (sta, .inl (ai, 42, .inl Ta))]) X dX6_settleByQueue_49 (c_X0_isEmpty l D ai az al q0 r ra w wa fb cb Rb Wb (by omega)) gX6_settleByQueue_X0_isEmpty rfl rfl ok_X0_isEmpty rfl rfl (by decide) ⟨by decide, by decide⟩ (Nat.le_of_ble_eq_true rfl) [10, 11, 12, 13, 14] [0, 1, 2, 3, 4, 5, 6, 7, 8, 9] ⟨rfl, by decide, rfl, by decide, by decide⟩ 0 rfl rfl rfl (fun r1 u hp => ?_)
            obtain rfl := hp
            refine g_sub (k := 0) (n := 0) (ws' := [(sl, .inr (6, [.ref g, .ref pP, .ref sh, .ref st, .ref q0])), (g, .inr (2, [.ref L, .int wc])), (L, .inr (3, [.ref la])), (la, .inl (ai, 168, .inl Lf)), (pP, .inr (3, [.ref pa])), (pa, .inl (ai, 42, .inl Pf)), (sh, .inr (3, [.ref sha])), (sha, .inl (ai, 42, .inl Sa)), (st, .inr (3, [.ref sta])), (sta, .inl (ai, 42, .inl Ta)), (q0, .inr (0, [.ref r, .ref w, .int (nI fb), .int (nI cb)])), (r, .inr (3, [.ref ra])), (ra, .inl (ai, 42, .inl Rb)), (w, .inr (3, [.ref wa])), (wa, .inl (ai, 42, .inl Wb))]) [0, 1, 2, 3, 4, 5, 6, 7, 8, 9, 10, 11, 12, 13, 14] (by decide) rfl ?_
            refine g_if_neN (tgt := 79) X dX6_settleByQueue_52 (by decide) (bn_lt _) (fun b52 => ?_) (fun b52 => ?_)
            · exact g_vret X E dX6_settleByQueue_79 (⟨Sa, Ta, fb, cb, Rb, Wb, hh, uu⟩) rfl (by decide) (by decide) (⟨⟨hS, fun x hx => Nat.lt_of_not_le (fun z => by have e : cb = 0 := of_decide_eq_true (bn_n.mp b52); have e2 := hq.2.2.1; rw [e] at e2; have e3 : qq = [] := List.eq_nil_of_length_eq_zero e2.symm; have := (hsame x hx).mp z; rw [e3] at this; exact absurd this List.not_mem_nil)⟩, hHa, hTa⟩)
            · have hne : cb ≠ 0 := of_decide_eq_false (bn_0.mp b52)
              obtain ⟨c, qt, rfl⟩ : ∃ c qt, qq = c :: qt := by
                cases qq with
                | nil => exact absurd hq.2.2.1 hne
                | cons a b => exact ⟨a, b, rfl⟩
              have hc : c < 42 := hq.2.1 c List.mem_cons_self
              have hhi : lim pl c ≤ hh c := (hsame c hc).mpr List.mem_cons_self
              have hod := hC.od hc
              obtain ⟨hk1, hk2, hk3, hk4⟩ := oft_ok hod hhi
              refine g_aload_n X dX6_settleByQueue_55 rfl 0 rfl ?_
              refine g_getf (T := TX6) (v := .ref q0) X dX6_settleByQueue_56 0 rfl rfl in_X6_settleByQueue_X6 4 (by decide) (by decide +kernel) rfl rfl ?_
              refine g_callVi (C := RX0) (As := []) (rest := []) (wr := [(sl, .inr (6, [.ref g, .ref pP, .ref sh, .ref st, .ref q0])), (g, .inr (2, [.ref L, .int wc])), (L, .inr (3, [.ref la])), (la, .inl (ai, 168, .inl Lf)), (pP, .inr (3, [.ref pa])), (pa, .inl (ai, 42, .inl Pf)), (sh, .inr (3, [.ref sha])), (sha, .inl (ai, 42, .inl Sa)), (st, .inr (3, [.ref sta])), (sta, .inl (ai, 42, .inl Ta))]) X dX6_settleByQueue_59 (c_X0_leave l D ai az al q0 r ra w wa fb cb Rb Wb qt c (hq)) gX6_settleByQueue_X0_leave rfl rfl ok_X0_leave rfl rfl (by decide) ⟨by decide, by decide⟩ (Nat.le_of_ble_eq_true rfl) [10, 11, 12, 13, 14] [0, 1, 2, 3, 4, 5, 6, 7, 8, 9] ⟨rfl, by decide, rfl, by decide, by decide⟩ 0 rfl rfl rfl (fun r3 W22 hp => ?_)
              try dsimp only at hp
              obtain ⟨rfl, hq4⟩ := hp
              refine g_sub (k := 0) (n := 0) (ws' := [(sl, .inr (6, [.ref g, .ref pP, .ref sh, .ref st, .ref q0])), (g, .inr (2, [.ref L, .int wc])), (L, .inr (3, [.ref la])), (la, .inl (ai, 168, .inl Lf)), (pP, .inr (3, [.ref pa])), (pa, .inl (ai, 42, .inl Pf)), (sh, .inr (3, [.ref sha])), (sha, .inl (ai, 42, .inl Sa)), (st, .inr (3, [.ref sta])), (sta, .inl (ai, 42, .inl Ta)), (q0, .inr (0, [.ref r, .ref w, .int (nI ((fb + 1) % 42)), .int (nI (cb - 1))])), (r, .inr (3, [.ref ra])), (ra, .inl (ai, 42, .inl Rb)), (w, .inr (3, [.ref wa])), (wa, .inl (ai, 42, .inl W22))]) [0, 1, 2, 3, 4, 5, 6, 7, 8, 9, 10, 11, 12, 13, 14] (by decide) rfl ?_
              refine g_istore_n (lv' := [(2, .int (nI c)), (0, .ref sl), (1, .int (nI tn))]) X dX6_settleByQueue_62 rfl (by decide) rfl ?_
              refine g_aload_n X dX6_settleByQueue_63 rfl 1 rfl ?_
              refine g_iload_n X dX6_settleByQueue_64 rfl 0 rfl ?_
              refine g_callVv (C := RX6) (As := [.int (nI c)]) (rest := []) (wr := [(q0, .inr (0, [.ref r, .ref w, .int (nI ((fb + 1) % 42)), .int (nI (cb - 1))])), (r, .inr (3, [.ref ra])), (ra, .inl (ai, 42, .inl Rb)), (w, .inr (3, [.ref wa])), (wa, .inl (ai, 42, .inl W22))]) X dX6_settleByQueue_65 (c_X6_topple l D ai az al sl g pP sh st q0 L la Lf wc nb pa Pf pl sha Sa hh sta Ta uu c (hc) (hL) (hP) (hHa) (hTa) (hod) (hhi) (hbb c hc)) gX6_settleByQueue_X6_topple rfl rfl ok_X6_topple rfl rfl (by decide) ⟨by decide, by decide⟩ (Nat.le_of_ble_eq_true rfl) [0, 1, 2, 3, 4, 5, 6, 7, 8, 9] [10, 11, 12, 13, 14] ⟨rfl, by decide, rfl, by decide, by decide⟩ 0 rfl rfl rfl (fun u hp => ?_)
              obtain ⟨SH24, ST25⟩ := u
              try dsimp only at hp
              obtain ⟨hH5, hT5⟩ := hp
              refine g_sub (k := 0) (n := 0) (ws' := [(sl, .inr (6, [.ref g, .ref pP, .ref sh, .ref st, .ref q0])), (g, .inr (2, [.ref L, .int wc])), (L, .inr (3, [.ref la])), (la, .inl (ai, 168, .inl Lf)), (pP, .inr (3, [.ref pa])), (pa, .inl (ai, 42, .inl Pf)), (sh, .inr (3, [.ref sha])), (sha, .inl (ai, 42, .inl SH24)), (st, .inr (3, [.ref sta])), (sta, .inl (ai, 42, .inl ST25)), (q0, .inr (0, [.ref r, .ref w, .int (nI ((fb + 1) % 42)), .int (nI (cb - 1))])), (r, .inr (3, [.ref ra])), (ra, .inl (ai, 42, .inl Rb)), (w, .inr (3, [.ref wa])), (wa, .inl (ai, 42, .inl W22))]) [5, 6, 7, 8, 9, 10, 11, 12, 13, 14, 0, 1, 2, 3, 4] (by decide) rfl ?_
              have hS5 := hS.step hN hc hk1 hk2
              refine g_aload_n X dX6_settleByQueue_68 rfl 1 rfl ?_
              refine g_iload_n X dX6_settleByQueue_69 rfl 0 rfl ?_
              refine g_callVv (C := RX6) (As := [.int (nI c)]) (rest := []) (wr := [(st, .inr (3, [.ref sta])), (sta, .inl (ai, 42, .inl ST25))]) X dX6_settleByQueue_70 (c_X6_queueBeside l D ai az al sl g pP sh st q0 L la Lf wc nb pa Pf pl sha SH24 (tp nb hh c (oft nb pl hh c)) r ra w wa ((fb + 1) % 42) (cb - 1) Rb W22 qt c (hc) (hL) (hP) (hH5) (fun d hd => Nat.lt_of_le_of_lt (hS5.hb hN hC hd) (by omega)) (hq4)) gX6_settleByQueue_X6_queueBeside rfl rfl ok_X6_queueBeside rfl rfl (by decide) ⟨by decide, by decide⟩ (Nat.le_of_ble_eq_true rfl) [0, 1, 2, 3, 4, 5, 6, 7, 10, 11, 12, 13, 14] [8, 9] ⟨rfl, by decide, rfl, by decide, by decide⟩ 0 rfl rfl rfl (fun u hp => ?_)
              obtain ⟨c5, R5, W5, q5⟩ := u
              try dsimp only at hp
              obtain ⟨hq5, hs5, hf5, ha5⟩ := hp
              refine g_sub (k := 0) (n := 0) (ws' := [(sl, .inr (6, [.ref g, .ref pP, .ref sh, .ref st, .ref q0])), (g, .inr (2, [.ref L, .int wc])), (L, .inr (3, [.ref la])), (la, .inl (ai, 168, .inl Lf)), (pP, .inr (3, [.ref pa])), (pa, .inl (ai, 42, .inl Pf)), (sh, .inr (3, [.ref sha])), (sha, .inl (ai, 42, .inl SH24)), (st, .inr (3, [.ref sta])), (sta, .inl (ai, 42, .inl ST25)), (q0, .inr (0, [.ref r, .ref w, .int (nI ((fb + 1) % 42)), .int (nI c5)])), (r, .inr (3, [.ref ra])), (ra, .inl (ai, 42, .inl R5)), (w, .inr (3, [.ref wa])), (wa, .inl (ai, 42, .inl W5))]) [2, 3, 4, 5, 6, 7, 8, 9, 0, 1, 10, 11, 12, 13, 14] (by decide) rfl ?_
              refine g_iinc (v := nI (tn + 1)) (lv' := [(1, .int (nI (tn + 1))), (2, .int (nI c)), (0, .ref sl)]) X dX6_settleByQueue_73 2 rfl (nI_inc _) (by decide) rfl ?_
              refine g_goto (tgt := 39) X dX6_settleByQueue_76 (by decide) ?_
              refine g_lv (lv' := [(0, .ref sl), (1, .int (nI (tn + 1)))]) [2, 0] rfl ?_
              exact ih39 (tn + 1) SH24 ST25 ((fb + 1) % 42) c5 R5 W5 (tp nb hh c (oft nb pl hh c)) (addN uu c (oft nb pl hh c)) q5 (hH5) (hT5) (hS.step hN hc hk1 hk2) (hq5) (wait_step hN hc hq.1 hsame hq.2.1 hk3 hk4 hs5 hf5 ha5) (by rw [sN_add hc]; omega) (by omega)
        refine g_lv (lv' := [(0, .ref sl), (1, .int (nI 0))]) [1, 0] rfl ?_
        exact L39 1000001 0 SH ST 0 ca Ra Wa h (fun _ => 0) qa (hH) (hT) (SI.start) (hq1) (fun x hx => by rw [hx1 x]; exact ⟨fun z => ⟨by omega, z⟩, fun z => z.2⟩) (Nat.zero_le _) (by decide)
      · refine g_aload_n X dX6_settleByQueue_15 rfl 0 rfl ?_
        refine g_iload_n X dX6_settleByQueue_16 rfl 1 rfl ?_
        refine g_callVi (C := RX6) (As := [.int (nI i)]) (rest := []) (wr := [(g, .inr (2, [.ref L, .int wc])), (L, .inr (3, [.ref la])), (la, .inl (ai, 168, .inl Lf)), (st, .inr (3, [.ref sta])), (sta, .inl (ai, 42, .inl ST)), (q0, .inr (0, [.ref r, .ref w, .int (nI 0), .int (nI ca)])), (r, .inr (3, [.ref ra])), (ra, .inl (ai, 42, .inl Ra)), (w, .inr (3, [.ref wa])), (wa, .inl (ai, 42, .inl Wa))]) X dX6_settleByQueue_17 (c_X6_isTooHigh l D ai az al sl g pP sh st q0 pa Pf pl sha SH h i (by omega) (hP) (hH) (Nat.lt_of_le_of_lt (Nat.le_trans (sN_one (n := 42) (by omega)) hn) (by decide))) gX6_settleByQueue_X6_isTooHigh rfl rfl ok_X6_isTooHigh rfl rfl (by decide) ⟨by decide, by decide⟩ (Nat.le_of_ble_eq_true rfl) [0, 4, 5, 6, 7] [1, 2, 3, 8, 9, 10, 11, 12, 13, 14] ⟨rfl, by decide, rfl, by decide, by decide⟩ 0 rfl rfl rfl (fun r6 u hp => ?_)
        obtain rfl := hp
        refine g_sub (k := 0) (n := 0) (ws' := [(sl, .inr (6, [.ref g, .ref pP, .ref sh, .ref st, .ref q0])), (g, .inr (2, [.ref L, .int wc])), (L, .inr (3, [.ref la])), (la, .inl (ai, 168, .inl Lf)), (pP, .inr (3, [.ref pa])), (pa, .inl (ai, 42, .inl Pf)), (sh, .inr (3, [.ref sha])), (sha, .inl (ai, 42, .inl SH)), (st, .inr (3, [.ref sta])), (sta, .inl (ai, 42, .inl ST)), (q0, .inr (0, [.ref r, .ref w, .int (nI 0), .int (nI ca)])), (r, .inr (3, [.ref ra])), (ra, .inl (ai, 42, .inl Ra)), (w, .inr (3, [.ref wa])), (wa, .inl (ai, 42, .inl Wa))]) [10, 0, 1, 2, 11, 12, 13, 14, 3, 4, 5, 6, 7, 8, 9] (by decide) rfl ?_
        refine g_if_eqN (tgt := 31) X dX6_settleByQueue_20 (by decide) (bn_lt _) (fun b20 => ?_) (fun b20 => ?_)
        · refine g_iinc (v := nI (i + 1)) (lv' := [(1, .int (nI (i + 1))), (0, .ref sl)]) X dX6_settleByQueue_31 1 rfl (nI_inc _) (by decide) rfl ?_
          refine g_goto (tgt := 9) X dX6_settleByQueue_34 (by decide) ?_
          refine g_lv (lv' := [(0, .ref sl), (1, .int (nI (i + 1)))]) [1, 0] rfl ?_
          exact ih9 (i + 1) _ Ra Wa qa (by omega) (hq1) (fun x => by rw [hx1 x]; exact ⟨fun z => ⟨by omega, z.2⟩, fun z => ⟨by have : x ≠ i := (fun e => by subst e; exact absurd z.2 (of_decide_eq_false (bn_0.mp b20))); omega, z.2⟩⟩) (by omega)
        · have hhi : lim pl i ≤ h i := of_decide_eq_true (bn_n.mp b20)
          refine g_aload_n X dX6_settleByQueue_23 rfl 0 rfl ?_
          refine g_getf (T := TX6) (v := .ref q0) X dX6_settleByQueue_24 0 rfl rfl in_X6_settleByQueue_X6 4 (by decide) (by decide +kernel) rfl rfl ?_
          refine g_iload_n X dX6_settleByQueue_27 rfl 1 rfl ?_
          refine g_callVv (C := RX0) (As := [.int (nI i)]) (rest := []) (wr := [(sl, .inr (6, [.ref g, .ref pP, .ref sh, .ref st, .ref q0])), (g, .inr (2, [.ref L, .int wc])), (L, .inr (3, [.ref la])), (la, .inl (ai, 168, .inl Lf)), (pP, .inr (3, [.ref pa])), (pa, .inl (ai, 42, .inl Pf)), (sh, .inr (3, [.ref sha])), (sha, .inl (ai, 42, .inl SH)), (st, .inr (3, [.ref sta])), (sta, .inl (ai, 42, .inl ST))]) X dX6_settleByQueue_28 (c_X0_enter l D ai az al q0 r ra w wa 0 ca Ra Wa qa i (by omega) (hq1)) gX6_settleByQueue_X0_enter rfl rfl ok_X0_enter rfl rfl (by decide) ⟨by decide, by decide⟩ (Nat.le_of_ble_eq_true rfl) [10, 11, 12, 13, 14] [0, 1, 2, 3, 4, 5, 6, 7, 8, 9] ⟨rfl, by decide, rfl, by decide, by decide⟩ 0 rfl rfl rfl (fun u hp => ?_)
          obtain ⟨cnt27, R28, W29⟩ := u
          try dsimp only at hp
          have hq3 := hp
          refine g_sub (k := 0) (n := 0) (ws' := [(sl, .inr (6, [.ref g, .ref pP, .ref sh, .ref st, .ref q0])), (g, .inr (2, [.ref L, .int wc])), (L, .inr (3, [.ref la])), (la, .inl (ai, 168, .inl Lf)), (pP, .inr (3, [.ref pa])), (pa, .inl (ai, 42, .inl Pf)), (sh, .inr (3, [.ref sha])), (sha, .inl (ai, 42, .inl SH)), (st, .inr (3, [.ref sta])), (sta, .inl (ai, 42, .inl ST)), (q0, .inr (0, [.ref r, .ref w, .int (nI 0), .int (nI cnt27)])), (r, .inr (3, [.ref ra])), (ra, .inl (ai, 42, .inl R28)), (w, .inr (3, [.ref wa])), (wa, .inl (ai, 42, .inl W29))]) [0, 1, 2, 3, 4, 5, 6, 7, 8, 9, 10, 11, 12, 13, 14] (by decide) rfl ?_
          refine g_iinc (v := nI (i + 1)) (lv' := [(1, .int (nI (i + 1))), (0, .ref sl)]) X dX6_settleByQueue_31 1 rfl (nI_inc _) (by decide) rfl ?_
          refine g_goto (tgt := 9) X dX6_settleByQueue_34 (by decide) ?_
          refine g_lv (lv' := [(0, .ref sl), (1, .int (nI (i + 1)))]) [1, 0] rfl ?_
          exact ih9 (i + 1) cnt27 R28 W29 (if i ∈ qa then qa else qa ++ [i]) (by omega) (hq3) (fun x => by have q := hx1 x; have hni : i ∉ qa := fun z => absurd ((hx1 i).mp z).1 (by omega); rw [if_neg hni, List.mem_append, List.mem_singleton, q]; exact ⟨fun z => z.elim (fun y => ⟨by omega, y.2⟩) (fun y => by subst y; exact ⟨by omega, hhi⟩), fun z => by by_cases e : x = i; exact Or.inr e; exact Or.inl ⟨by omega, z.2⟩⟩) (by omega)
  refine g_lv (lv' := [(0, .ref sl), (1, .int (nI 0))]) [1, 0] rfl ?_
  exact L9 43 0 0 Rr (fun _ => 0) ([]) (by decide) (QOK.start) (fun x => by simp) (by decide)

theorem ok_X6_sweepOnce : okName yX6_sweepOnce 0 := by decide +kernel
set_option maxRecDepth 100000 in
set_option maxHeartbeats 4000000 in
theorem c_X6_sweepOnce (l : Launch) (D : va_G) (ai az al : ClassId) (sl : Nat) (g : Nat) (pP : Nat) (sh : Nat) (st : Nat) (q0 : Nat) (L : Nat) (la : Nat) (Lf : Nat → Int32) (wc : Int32) (nb : Nat → Nat → Nat) (pa : Nat) (Pf : Nat → Int32) (pl : Nat → Bool) (sha : Nat) (SH : Nat → Int32) (h : Nat → Nat) (sta : Nat) (ST : Nat → Int32) (t : Nat → Nat) (h0 : Nat → Nat) (hL : LeadsOK Lf nb) (hW : NW nb) (hC : Cn nb) (hP : POK Pf pl) (hn : sN h0 42 ≤ 500) (hS : SI nb pl h0 h t) (hH : HOK SH h) (hT : HOK ST t) : CI l D (tY ai az al) yX6_sweepOnce wsX6_sweepOnce { frames := 4, cells := 0, slots := 0, locals := 90 } [.ref sl] [(sl, .inr (6, [.ref g, .ref pP, .ref sh, .ref st, .ref q0])), (g, .inr (2, [.ref L, .int wc])), (L, .inr (3, [.ref la])), (la, .inl (ai, 168, .inl Lf)), (pP, .inr (3, [.ref pa])), (pa, .inl (ai, 42, .inl Pf)), (sh, .inr (3, [.ref sha])), (sha, .inl (ai, 42, .inl SH)), (st, .inr (3, [.ref sta])), (sta, .inl (ai, 42, .inl ST))] (fun (r : Int32) (u : (Nat → Int32) × (Nat → Int32) × Bool × (Nat → Nat) × (Nat → Nat)) => r = nI (bn u.2.2.1) ∧ SI nb pl h0 u.2.2.2.1 u.2.2.2.2 ∧ HOK u.1 u.2.2.2.1 ∧ HOK u.2.1 u.2.2.2.2 ∧ sN t 42 + bn u.2.2.1 ≤ sN u.2.2.2.2 42 ∧ (u.2.2.1 = false → ∀ c, c < 42 → u.2.2.2.1 c < lim pl c)) (fun (u : (Nat → Int32) × (Nat → Int32) × Bool × (Nat → Nat) × (Nat → Nat)) => [(sl, .inr (6, [.ref g, .ref pP, .ref sh, .ref st, .ref q0])), (g, .inr (2, [.ref L, .int wc])), (L, .inr (3, [.ref la])), (la, .inl (ai, 168, .inl Lf)), (pP, .inr (3, [.ref pa])), (pa, .inl (ai, 42, .inl Pf)), (sh, .inr (3, [.ref sha])), (sha, .inl (ai, 42, .inl u.1)), (st, .inr (3, [.ref sta])), (sta, .inl (ai, 42, .inl u.2.1))]) := by
  refine ofG_I (cc := cX6_sweepOnce) (nL := 3) (lv0 := [(0, .ref sl)]) (by decide) rfl (Nat.le_of_ble_eq_true rfl) rfl ?_
  intro Γ X E
  refine g_iconst (v := nI 0) X dX6_sweepOnce_0 (by decide) ?_
  refine g_istore_n (lv' := [(1, .int (nI 0)), (0, .ref sl)]) X dX6_sweepOnce_1 rfl (by decide) rfl ?_
  refine g_bipush (v := nI 41) X dX6_sweepOnce_2 (by decide) ?_
  refine g_istore_n (lv' := [(2, .int (nI 41)), (1, .int (nI 0)), (0, .ref sl)]) X dX6_sweepOnce_4 rfl (by decide) rfl ?_
  have L5 : ∀ (fl : Nat) (i : Nat) (b : Bool) (Sa : Nat → Int32) (Ta : Nat → Int32) (hh : Nat → Nat) (tt : Nat → Nat), (i ≤ 42) → (HOK Sa hh) → (HOK Ta tt) → (SI nb pl h0 hh tt) → (sN t 42 + bn b ≤ sN tt 42) → (b = false → ∀ x, i ≤ x → x < 42 → hh x < lim pl x) → (i + 1 ≤ fl) → G Γ 3 0 0 [(sl, .inr (6, [.ref g, .ref pP, .ref sh, .ref st, .ref q0])), (g, .inr (2, [.ref L, .int wc])), (L, .inr (3, [.ref la])), (la, .inl (ai, 168, .inl Lf)), (pP, .inr (3, [.ref pa])), (pa, .inl (ai, 42, .inl Pf)), (sh, .inr (3, [.ref sha])), (sha, .inl (ai, 42, .inl Sa)), (st, .inr (3, [.ref sta])), (sta, .inl (ai, 42, .inl Ta))] [(0, .ref sl), (1, .int (nI (bn b))), (2, .int (dI i))] 5 [] := by
    intro fl
    induction fl with
    | zero => intro i b Sa Ta hh tt hi hHa hTa hSa hsum hlow hm; exact absurd hm (by omega)
    | succ fl ih5 =>
      intro i b Sa Ta hh tt hi hHa hTa hSa hsum hlow hm
      have hN := hW.nb
      refine g_iload_n X dX6_sweepOnce_5 rfl 2 rfl ?_
      refine g_if_lt (tgt := 30) X dX6_sweepOnce_6 (by decide) (fun b6 => ?_) (fun b6 => ?_)
      · refine g_iload_n X dX6_sweepOnce_30 rfl 1 rfl ?_
        exact g_zret X E dX6_sweepOnce_31 (⟨Sa, Ta, b, hh, tt⟩) rfl (by decide) (by decide) (bn_z b) (⟨rfl, hSa, hHa, hTa, hsum, fun z x hx => hlow z x (by have := (dI_neg (by omega)).mp b6; omega) hx⟩)
      · have hi0 : i ≠ 0 := fun z => b6 ((dI_neg (by omega)).mpr z)
        obtain ⟨j, rfl⟩ : ∃ j, i = j + 1 := ⟨i - 1, by omega⟩
        have hj : j < 42 := by omega
        refine g_lv (lv' := [(0, .ref sl), (1, .int (nI (bn b))), (2, .int (nI j))]) [0, 1, 2] (by rw [dI_s]; rfl) ?_
        refine g_aload_n X dX6_sweepOnce_9 rfl 0 rfl ?_
        refine g_iload_n X dX6_sweepOnce_10 rfl 2 rfl ?_
        refine g_callVi (C := RX6) (As := [.int (nI j)]) (rest := []) (wr := [(g, .inr (2, [.ref L, .int wc])), (L, .inr (3, [.ref la])), (la, .inl (ai, 168, .inl Lf)), (st, .inr (3, [.ref sta])), (sta, .inl (ai, 42, .inl Ta))]) X dX6_sweepOnce_11 (c_X6_isTooHigh l D ai az al sl g pP sh st q0 pa Pf pl sha Sa hh j (hj) (hP) (hHa) (Nat.lt_of_le_of_lt (hSa.hb hN hC hj) (by omega))) gX6_sweepOnce_X6_isTooHigh rfl rfl ok_X6_isTooHigh rfl rfl (by decide) ⟨by decide, by decide⟩ (Nat.le_of_ble_eq_true rfl) [0, 4, 5, 6, 7] [1, 2, 3, 8, 9] ⟨rfl, by decide, rfl, by decide, by decide⟩ 0 rfl rfl rfl (fun r1 u hp => ?_)
        obtain rfl := hp
        refine g_sub (k := 0) (n := 0) (ws' := [(sl, .inr (6, [.ref g, .ref pP, .ref sh, .ref st, .ref q0])), (g, .inr (2, [.ref L, .int wc])), (L, .inr (3, [.ref la])), (la, .inl (ai, 168, .inl Lf)), (pP, .inr (3, [.ref pa])), (pa, .inl (ai, 42, .inl Pf)), (sh, .inr (3, [.ref sha])), (sha, .inl (ai, 42, .inl Sa)), (st, .inr (3, [.ref sta])), (sta, .inl (ai, 42, .inl Ta))]) [5, 0, 1, 2, 6, 7, 8, 9, 3, 4] (by decide) rfl ?_
        refine g_if_eqN (tgt := 24) X dX6_sweepOnce_14 (by decide) (bn_lt _) (fun b14 => ?_) (fun b14 => ?_)
        · refine g_iinc (v := dI j) (lv' := [(2, .int (dI j)), (0, .ref sl), (1, .int (nI (bn b)))]) X dX6_sweepOnce_24 2 rfl (dI_dec _) (by decide) rfl ?_
          refine g_goto (tgt := 5) X dX6_sweepOnce_27 (by decide) ?_
          refine g_lv (lv' := [(0, .ref sl), (1, .int (nI (bn b))), (2, .int (dI j))]) [1, 2, 0] rfl ?_
          exact ih5 j b Sa Ta _ _ (by omega) (hHa) (hTa) (hSa) (hsum) (fun z x h1 h2 => by by_cases e : x = j; (subst e; exact Nat.lt_of_not_le (of_decide_eq_false (bn_0.mp b14))); exact hlow z x (by omega) h2) (by omega)
        · have hhi : lim pl j ≤ hh j := of_decide_eq_true (bn_n.mp b14)
          have hod := hC.od hj
          obtain ⟨hk1, hk2, hk3, hk4⟩ := oft_ok hod hhi
          refine g_aload_n X dX6_sweepOnce_17 rfl 0 rfl ?_
          refine g_iload_n X dX6_sweepOnce_18 rfl 2 rfl ?_
          refine g_callVv (C := RX6) (As := [.int (nI j)]) (rest := []) (wr := []) X dX6_sweepOnce_19 (c_X6_topple l D ai az al sl g pP sh st q0 L la Lf wc nb pa Pf pl sha Sa hh sta Ta tt j (hj) (hL) (hP) (hHa) (hTa) (hod) (hhi) (Nat.lt_of_le_of_lt (hSa.hb hN hC hj) (by omega))) gX6_sweepOnce_X6_topple rfl rfl ok_X6_topple rfl rfl (by decide) ⟨by decide, by decide⟩ (Nat.le_of_ble_eq_true rfl) [0, 1, 2, 3, 4, 5, 6, 7, 8, 9] [] ⟨rfl, by decide, rfl, by decide, by decide⟩ 0 rfl rfl rfl (fun u hp => ?_)
          obtain ⟨SH22, ST23⟩ := u
          try dsimp only at hp
          obtain ⟨hH5, hT5⟩ := hp
          refine g_sub (k := 0) (n := 0) (ws' := [(sl, .inr (6, [.ref g, .ref pP, .ref sh, .ref st, .ref q0])), (g, .inr (2, [.ref L, .int wc])), (L, .inr (3, [.ref la])), (la, .inl (ai, 168, .inl Lf)), (pP, .inr (3, [.ref pa])), (pa, .inl (ai, 42, .inl Pf)), (sh, .inr (3, [.ref sha])), (sha, .inl (ai, 42, .inl SH22)), (st, .inr (3, [.ref sta])), (sta, .inl (ai, 42, .inl ST23))]) [0, 1, 2, 3, 4, 5, 6, 7, 8, 9] (by decide) rfl ?_
          refine g_iconst (v := nI 1) X dX6_sweepOnce_22 (by decide) ?_
          refine g_istore_n (lv' := [(1, .int (nI 1)), (0, .ref sl), (2, .int (nI j))]) X dX6_sweepOnce_23 rfl (by decide) rfl ?_
          refine g_iinc (v := dI j) (lv' := [(2, .int (dI j)), (1, .int (nI 1)), (0, .ref sl)]) X dX6_sweepOnce_24 2 rfl (dI_dec _) (by decide) rfl ?_
          refine g_goto (tgt := 5) X dX6_sweepOnce_27 (by decide) ?_
          refine g_lv (lv' := [(0, .ref sl), (1, .int (nI 1)), (2, .int (dI j))]) [2, 1, 0] rfl ?_
          exact ih5 j true SH22 ST23 (tp nb hh j (oft nb pl hh j)) (addN tt j (oft nb pl hh j)) (by omega) (hH5) (hT5) (hSa.step hN hj hk1 hk2) (by rw [sN_add hj]; show _ + 1 ≤ _; omega) (fun z => by cases z) (by omega)
  refine g_lv (lv' := [(0, .ref sl), (1, .int (nI 0)), (2, .int (nI 41))]) [2, 1, 0] rfl ?_
  exact L5 43 42 false SH ST h t (by decide) (hH) (hT) (hS) (Nat.le_refl _) (fun _ x h1 h2 => absurd h1 (by omega)) (by decide)

theorem ok_X6_settleBySweeps : okName yX6_settleBySweeps 0 := by decide +kernel
set_option maxRecDepth 100000 in
set_option maxHeartbeats 4000000 in
theorem c_X6_settleBySweeps (l : Launch) (D : va_G) (ai az al : ClassId) (sl : Nat) (g : Nat) (pP : Nat) (sh : Nat) (st : Nat) (q0 : Nat) (L : Nat) (la : Nat) (Lf : Nat → Int32) (wc : Int32) (nb : Nat → Nat → Nat) (pa : Nat) (Pf : Nat → Int32) (pl : Nat → Bool) (sha : Nat) (SH : Nat → Int32) (h : Nat → Nat) (sta : Nat) (ST : Nat → Int32) (hL : LeadsOK Lf nb) (hW : NW nb) (hC : Cn nb) (hP : POK Pf pl) (hH : HOK SH h) (hT : HOK ST (fun _ => 0)) (hn : sN h 42 ≤ 500) : CV l D (tY ai az al) yX6_settleBySweeps wsX6_settleBySweeps { frames := 5, cells := 0, slots := 0, locals := 112 } [.ref sl] [(sl, .inr (6, [.ref g, .ref pP, .ref sh, .ref st, .ref q0])), (g, .inr (2, [.ref L, .int wc])), (L, .inr (3, [.ref la])), (la, .inl (ai, 168, .inl Lf)), (pP, .inr (3, [.ref pa])), (pa, .inl (ai, 42, .inl Pf)), (sh, .inr (3, [.ref sha])), (sha, .inl (ai, 42, .inl SH)), (st, .inr (3, [.ref sta])), (sta, .inl (ai, 42, .inl ST))] (fun (u : (Nat → Int32) × (Nat → Int32) × (Nat → Nat) × (Nat → Nat)) => Stl nb pl h u.2.2.1 u.2.2.2 ∧ HOK u.1 u.2.2.1 ∧ HOK u.2.1 u.2.2.2) (fun (u : (Nat → Int32) × (Nat → Int32) × (Nat → Nat) × (Nat → Nat)) => [(sl, .inr (6, [.ref g, .ref pP, .ref sh, .ref st, .ref q0])), (g, .inr (2, [.ref L, .int wc])), (L, .inr (3, [.ref la])), (la, .inl (ai, 168, .inl Lf)), (pP, .inr (3, [.ref pa])), (pa, .inl (ai, 42, .inl Pf)), (sh, .inr (3, [.ref sha])), (sha, .inl (ai, 42, .inl u.1)), (st, .inr (3, [.ref sta])), (sta, .inl (ai, 42, .inl u.2.1))]) := by
  refine ofG_V (cc := cX6_settleBySweeps) (nL := 3) (lv0 := [(0, .ref sl)]) (by decide) rfl (Nat.le_of_ble_eq_true rfl) rfl ?_
  intro Γ X E hinit
  refine g_iconst (v := nI 1) X dX6_settleBySweeps_0 (by decide) ?_
  refine g_istore_n (lv' := [(1, .int (nI 1)), (0, .ref sl)]) X dX6_settleBySweeps_1 rfl (by decide) rfl ?_
  refine g_iconst (v := nI 0) X dX6_settleBySweeps_2 (by decide) ?_
  refine g_istore_n (lv' := [(2, .int (nI 0)), (1, .int (nI 1)), (0, .ref sl)]) X dX6_settleBySweeps_3 rfl (by decide) rfl ?_
  have L4 : ∀ (fl : Nat) (i : Nat) (b : Bool) (Sa : Nat → Int32) (Ta : Nat → Int32) (hh : Nat → Nat) (tt : Nat → Nat), (HOK Sa hh) → (HOK Ta tt) → (SI nb pl h hh tt) → (i ≤ sN tt 42 + 1) → (b = true → i ≤ sN tt 42) → (b = false → ∀ x, x < 42 → hh x < lim pl x) → (1000001 ≤ i + fl) → G Γ 3 0 0 [(sl, .inr (6, [.ref g, .ref pP, .ref sh, .ref st, .ref q0])), (g, .inr (2, [.ref L, .int wc])), (L, .inr (3, [.ref la])), (la, .inl (ai, 168, .inl Lf)), (pP, .inr (3, [.ref pa])), (pa, .inl (ai, 42, .inl Pf)), (sh, .inr (3, [.ref sha])), (sha, .inl (ai, 42, .inl Sa)), (st, .inr (3, [.ref sta])), (sta, .inl (ai, 42, .inl Ta))] [(0, .ref sl), (1, .int (nI (bn b))), (2, .int (nI i))] 4 [] := by
    intro fl
    induction fl with
    | zero => intro i b Sa Ta hh tt hHa hTa hSa hsum hsu2 hlow hm; have q1 := hSa.usum hW.nb hC; exact absurd hm (by omega)
    | succ fl ih4 =>
      intro i b Sa Ta hh tt hHa hTa hSa hsum hsu2 hlow hm
      have hN := hW.nb
      have hus := hSa.usum hN hC
      refine g_iload_n X dX6_settleBySweeps_4 rfl 2 rfl ?_
      refine g_ldc (v := nI 1000000) X dX6_settleBySweeps_5 (by decide +kernel) ?_
      refine g_icmp_geN (tgt := 25) X dX6_settleBySweeps_7 (by decide) (by omega) (by omega) (fun b7 => False.elim (by omega)) (fun b7 => ?_)
      refine g_iload_n X dX6_settleBySweeps_10 rfl 1 rfl ?_
      refine g_if_eqN (tgt := 25) X dX6_settleBySweeps_11 (by decide) (bn_lt _) (fun b11 => ?_) (fun b11 => ?_)
      · exact g_vret X E dX6_settleBySweeps_25 (⟨Sa, Ta, hh, tt⟩) rfl (by decide) (by decide) (⟨⟨hSa, hlow (bn_0.mp b11)⟩, hHa, hTa⟩)
      · have hbt : b = true := bn_n.mp b11
        refine g_aload_n X dX6_settleBySweeps_14 rfl 0 rfl ?_
        refine g_callVi (C := RX6) (As := []) (rest := []) (wr := []) X dX6_settleBySweeps_15 (c_X6_sweepOnce l D ai az al sl g pP sh st q0 L la Lf wc nb pa Pf pl sha Sa hh sta Ta tt h (hL) (hW) (hC) (hP) (hn) (hSa) (hHa) (hTa)) gX6_settleBySweeps_X6_sweepOnce rfl rfl ok_X6_sweepOnce rfl rfl (by decide) ⟨by decide, by decide⟩ (Nat.le_of_ble_eq_true rfl) [0, 1, 2, 3, 4, 5, 6, 7, 8, 9] [] ⟨rfl, by decide, rfl, by decide, by decide⟩ 0 rfl rfl rfl (fun r1 u hp => ?_)
        obtain ⟨S5, T5, b5, h5, t5⟩ := u
        try dsimp only at hp
        obtain ⟨rfl, hS5, hH5, hT5, hsum5, hlow5⟩ := hp
        refine g_sub (k := 0) (n := 0) (ws' := [(sl, .inr (6, [.ref g, .ref pP, .ref sh, .ref st, .ref q0])), (g, .inr (2, [.ref L, .int wc])), (L, .inr (3, [.ref la])), (la, .inl (ai, 168, .inl Lf)), (pP, .inr (3, [.ref pa])), (pa, .inl (ai, 42, .inl Pf)), (sh, .inr (3, [.ref sha])), (sha, .inl (ai, 42, .inl S5)), (st, .inr (3, [.ref sta])), (sta, .inl (ai, 42, .inl T5))]) [0, 1, 2, 3, 4, 5, 6, 7, 8, 9] (by decide) rfl ?_
        refine g_istore_n (lv' := [(1, .int (nI (bn b5))), (0, .ref sl), (2, .int (nI i))]) X dX6_settleBySweeps_18 rfl (by decide) rfl ?_
        refine g_iinc (v := nI (i + 1)) (lv' := [(2, .int (nI (i + 1))), (1, .int (nI (bn b5))), (0, .ref sl)]) X dX6_settleBySweeps_19 2 rfl (nI_inc _) (by decide) rfl ?_
        refine g_goto (tgt := 4) X dX6_settleBySweeps_22 (by decide) ?_
        refine g_lv (lv' := [(0, .ref sl), (1, .int (nI (bn b5))), (2, .int (nI (i + 1)))]) [2, 1, 0] rfl ?_
        exact ih4 (i + 1) b5 S5 T5 h5 t5 (hH5) (hT5) (hS5) (by have := hsu2 hbt; omega) (fun z => by subst z; have := hsu2 hbt; have e : bn true = 1 := rfl; omega) (hlow5) (by omega)
  refine g_lv (lv' := [(0, .ref sl), (1, .int (nI 1)), (2, .int (nI 0))]) [2, 1, 0] rfl ?_
  exact L4 1000001 0 true SH ST h (fun _ => 0) (hH) (hT) (SI.start) (Nat.zero_le _) (fun _ => Nat.zero_le _) (fun z => by cases z) (by decide)
