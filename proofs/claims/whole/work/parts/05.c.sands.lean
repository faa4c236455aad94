/-- the grains that went into the sea -/
def lostN (nb : Nat → Nat → Nat) (u : Nat → Nat) : Nat → Nat
  | 0 => 0
  | i + 1 => lostN nb u i + (if nb i 0 = 42 then u i else 0)
theorem lost_y {nb : Nat → Nat → Nat} {u : Nat → Nat} {i : Nat} (h : nb i 0 = 42) : lostN nb u (i + 1) = lostN nb u i + u i := by
  show lostN nb u i + _ = _
  rw [if_pos h]
theorem lost_n {nb : Nat → Nat → Nat} {u : Nat → Nat} {i : Nat} (h : ¬ nb i 0 = 42) : lostN nb u (i + 1) = lostN nb u i := by
  show lostN nb u i + _ = _
  rw [if_neg h]; rfl
/-- what flows over the side s of c, as the accounts hold it -/
def flI (nb : Nat → Nat → Nat) (u : Nat → Nat) (c s : Nat) : Int32 := if nb c s = 43 then 0 else nI (u c) - (if nb c s < 42 then nI (u (nb c s)) else 0)
theorem sumI_N {f : Nat → Int32} {u : Nat → Nat} : ∀ {n : Nat}, (∀ c, c < n → f c = nI (u c)) → sumI f n = nI (sN u n)
  | 0, _ => rfl
  | n + 1, h => by
    show sumI f n + f n = nI (sN u n + u n)
    rw [sumI_N (n := n) (fun c hc => h c (by omega)), h n (by omega), nI_add]
/-- the accounts of the flows behind a settling -/
def FlowTo (nb : Nat → Nat → Nat) (u : Nat → Nat) (F F2 : Nat → Int32) : Prop := ∀ c s, c < 42 → s < 4 → F2 (c * 4 + s) = F (c * 4 + s) + flI nb u c s
theorem flI_of {nb : Nat → Nat → Nat} {u : Nat → Nat} {ST : Nat → Int32} (hT : HOK ST u) {c s : Nat} (hc : c < 42) (hl : nb c s ≤ 43) (hn : ¬ nb c s = 43) : ST c - atF ST 42 (cd (nb c s)) = flI nb u c s := by
  unfold flI
  rw [if_neg hn, atF_cd hl, hT c hc]
  by_cases q : nb c s < 42
  · rw [if_pos q, if_pos q, hT _ q]
  · rw [if_neg q, if_neg q]
theorem flI_0 {nb : Nat → Nat → Nat} {u : Nat → Nat} {c s : Nat} (hn : nb c s = 43) : flI nb u c s = 0 := if_pos hn
theorem ok_X6_start : okName yX6_start 1 := by decide +kernel
theorem in_X6_start_X6 : ∀ w ∈ u_ws RX6 TX6 5, w ∈ wsX6_start := by decide +kernel
set_option maxRecDepth 100000 in
set_option maxHeartbeats 4000000 in
theorem c_X6_start (l : Launch) (D : va_G) (ai az al : ClassId) (sl : Nat) (g : Nat) (pP : Nat) (sh : Nat) (st : Nat) (q0 : Nat) (sha : Nat) (SH : Nat → Int32) (sta : Nat) (ST : Nat → Int32) (o : Nat) (oa : Nat) (of : Nat → Int32) : CV l D (tY ai az al) yX6_start wsX6_start { frames := 2, cells := 0, slots := 0, locals := 43 } [.ref sl, .ref o] [(sl, .inr (6, [.ref g, .ref pP, .ref sh, .ref st, .ref q0])), (sh, .inr (3, [.ref sha])), (sha, .inl (ai, 42, .inl SH)), (st, .inr (3, [.ref sta])), (sta, .inl (ai, 42, .inl ST)), (o, .inr (3, [.ref oa])), (oa, .inl (ai, 42, .inl of))] (fun (u : Unit) => True) (fun (u : Unit) => [(sl, .inr (6, [.ref g, .ref pP, .ref sh, .ref st, .ref q0])), (sh, .inr (3, [.ref sha])), (sha, .inl (ai, 42, .inl of)), (st, .inr (3, [.ref sta])), (sta, .inl (ai, 42, .inl (fun _ => 0))), (o, .inr (3, [.ref oa])), (oa, .inl (ai, 42, .inl of))]) := by
  refine ofG_V (cc := cX6_start) (nL := 2) (lv0 := [(0, .ref sl), (1, .ref o)]) (by decide) rfl (Nat.le_of_ble_eq_true rfl) rfl ?_
  intro Γ X E hinit
  refine g_aload_n X dX6_start_0 rfl 0 rfl ?_
  refine g_getf (T := TX6) (v := .ref sh) X dX6_start_1 0 rfl rfl in_X6_start_X6 2 (by decide) (by decide +kernel) rfl rfl ?_
  refine g_aload_n X dX6_start_4 rfl 1 rfl ?_
  refine g_callVv (C := RX3) (As := [.ref o]) (rest := []) (wr := [(sl, .inr (6, [.ref g, .ref pP, .ref sh, .ref st, .ref q0])), (st, .inr (3, [.ref sta])), (sta, .inl (ai, 42, .inl ST))]) X dX6_start_5 (c_X3_copyFrom l D ai az al sh sha 42 SH o oa of (by decide)) gX6_start_X3_copyFrom rfl rfl ok_X3_copyFrom rfl rfl (by decide) ⟨by decide, by decide⟩ (Nat.le_of_ble_eq_true rfl) [1, 2, 5, 6] [0, 3, 4] ⟨rfl, by decide, rfl, by decide, by decide⟩ 0 rfl rfl rfl (fun u hp => ?_)
  refine g_sub (k := 0) (n := 0) (ws' := [(sl, .inr (6, [.ref g, .ref pP, .ref sh, .ref st, .ref q0])), (sh, .inr (3, [.ref sha])), (sha, .inl (ai, 42, .inl of)), (st, .inr (3, [.ref sta])), (sta, .inl (ai, 42, .inl ST)), (o, .inr (3, [.ref oa])), (oa, .inl (ai, 42, .inl of))]) [0, 3, 4, 1, 2, 5, 6] (by decide) rfl ?_
  refine g_aload_n X dX6_start_8 rfl 0 rfl ?_
  refine g_getf (T := TX6) (v := .ref st) X dX6_start_9 0 rfl rfl in_X6_start_X6 3 (by decide) (by decide +kernel) rfl rfl ?_
  refine g_callVv (C := RX3) (As := []) (rest := []) (wr := [(sl, .inr (6, [.ref g, .ref pP, .ref sh, .ref st, .ref q0])), (sh, .inr (3, [.ref sha])), (sha, .inl (ai, 42, .inl of)), (o, .inr (3, [.ref oa])), (oa, .inl (ai, 42, .inl of))]) X dX6_start_12 (c_X3_clear l D ai az al st sta 42 ST (by decide)) gX6_start_X3_clear rfl rfl ok_X3_clear rfl rfl (by decide) ⟨by decide, by decide⟩ (Nat.le_of_ble_eq_true rfl) [3, 4] [0, 1, 2, 5, 6] ⟨rfl, by decide, rfl, by decide, by decide⟩ 0 rfl rfl rfl (fun u hp => ?_)
  refine g_sub (k := 0) (n := 0) (ws' := [(sl, .inr (6, [.ref g, .ref pP, .ref sh, .ref st, .ref q0])), (sh, .inr (3, [.ref sha])), (sha, .inl (ai, 42, .inl of)), (st, .inr (3, [.ref sta])), (sta, .inl (ai, 42, .inl (fun _ => 0))), (o, .inr (3, [.ref oa])), (oa, .inl (ai, 42, .inl of))]) [0, 1, 2, 5, 6, 3, 4] (by decide) rfl ?_
  exact g_vret X E dX6_start_15 () rfl (by decide) (by decide) (trivial)

theorem ok_X6_lostGrains : okName yX6_lostGrains 0 := by decide +kernel
theorem in_X6_lostGrains_X6 : ∀ w ∈ u_ws RX6 TX6 5, w ∈ wsX6_lostGrains := by decide +kernel
set_option maxRecDepth 100000 in
set_option maxHeartbeats 4000000 in
theorem c_X6_lostGrains (l : Launch) (D : va_G) (ai az al : ClassId) (sl : Nat) (g : Nat) (pP : Nat) (sh : Nat) (st : Nat) (q0 : Nat) (L : Nat) (la : Nat) (Lf : Nat → Int32) (wc : Int32) (nb : Nat → Nat → Nat) (sta : Nat) (ST : Nat → Int32) (t : Nat → Nat) (hL : LeadsOK Lf nb) (hT : HOK ST t) : CI l D (tY ai az al) yX6_lostGrains wsX6_lostGrains { frames := 2, cells := 0, slots := 0, locals := 43 } [.ref sl] [(sl, .inr (6, [.ref g, .ref pP, .ref sh, .ref st, .ref q0])), (g, .inr (2, [.ref L, .int wc])), (L, .inr (3, [.ref la])), (la, .inl (ai, 168, .inl Lf)), (st, .inr (3, [.ref sta])), (sta, .inl (ai, 42, .inl ST))] (fun (r : Int32) (u : Unit) => r = nI (lostN nb t 6)) (fun (u : Unit) => [(sl, .inr (6, [.ref g, .ref pP, .ref sh, .ref st, .ref q0])), (g, .inr (2, [.ref L, .int wc])), (L, .inr (3, [.ref la])), (la, .inl (ai, 168, .inl Lf)), (st, .inr (3, [.ref sta])), (sta, .inl (ai, 42, .inl ST))]) := by
  refine ofG_I (cc := cX6_lostGrains) (nL := 3) (lv0 := [(0, .ref sl)]) (by decide) rfl (Nat.le_of_ble_eq_true rfl) rfl ?_
  intro Γ X E
  refine g_iconst (v := nI 0) X dX6_lostGrains_0 (by decide) ?_
  refine g_istore_n (lv' := [(1, .int (nI 0)), (0, .ref sl)]) X dX6_lostGrains_1 rfl (by decide) rfl ?_
  refine g_iconst (v := nI 0) X dX6_lostGrains_2 (by decide) ?_
  refine g_istore_n (lv' := [(2, .int (nI 0)), (1, .int (nI 0)), (0, .ref sl)]) X dX6_lostGrains_3 rfl (by decide) rfl ?_
  have L4 : ∀ (fl : Nat) (i : Nat) (o : Nat), (i ≤ 6) → (o = lostN nb t i) → (7 ≤ i + fl) → G Γ 3 0 0 [(sl, .inr (6, [.ref g, .ref pP, .ref sh, .ref st, .ref q0])), (g, .inr (2, [.ref L, .int wc])), (L, .inr (3, [.ref la])), (la, .inl (ai, 168, .inl Lf)), (st, .inr (3, [.ref sta])), (sta, .inl (ai, 42, .inl ST))] [(0, .ref sl), (1, .int (nI o)), (2, .int (nI i))] 4 [] := by
    intro fl
    induction fl with
    | zero => intro i o hi ho hm; exact absurd hm (by omega)
    | succ fl ih4 =>
      intro i o hi ho hm
      refine g_iload_n X dX6_lostGrains_4 rfl 2 rfl ?_
      refine g_bipush (v := nI 6) X dX6_lostGrains_5 (by decide) ?_
      refine g_icmp_geN (tgt := 40) X dX6_lostGrains_7 (by decide) (by omega) (by omega) (fun b7 => ?_) (fun b7 => ?_)
      · refine g_iload_n X dX6_lostGrains_40 rfl 1 rfl ?_
        exact g_iret X E dX6_lostGrains_41 () rfl (by decide) (by decide) (by rw [ho, show i = 6 by omega])
      · refine g_aload_n X dX6_lostGrains_10 rfl 0 rfl ?_
        refine g_getf (T := TX6) (v := .ref g) X dX6_lostGrains_11 0 rfl rfl in_X6_lostGrains_X6 0 (by decide) (by decide +kernel) rfl rfl ?_
        refine g_iload_n X dX6_lostGrains_14 rfl 2 rfl ?_
        refine g_iconst (v := nI 0) X dX6_lostGrains_15 (by decide) ?_
        refine g_callVi (C := RX2) (As := [.int (nI i), .int (nI 0)]) (rest := []) (wr := [(sl, .inr (6, [.ref g, .ref pP, .ref sh, .ref st, .ref q0])), (st, .inr (3, [.ref sta])), (sta, .inl (ai, 42, .inl ST))]) X dX6_lostGrains_16 (c_X2_leadsTo l D ai az al g L la Lf wc nb i 0 (by omega) (by decide) (hL)) gX6_lostGrains_X2_leadsTo rfl rfl ok_X2_leadsTo rfl rfl (by decide) ⟨by decide, by decide⟩ (Nat.le_of_ble_eq_true rfl) [1, 2, 3] [0, 4, 5] ⟨rfl, by decide, rfl, by decide, by decide⟩ 0 rfl rfl rfl (fun r1 u hp => ?_)
        obtain rfl := hp
        refine g_sub (k := 0) (n := 0) (ws' := [(sl, .inr (6, [.ref g, .ref pP, .ref sh, .ref st, .ref q0])), (g, .inr (2, [.ref L, .int wc])), (L, .inr (3, [.ref la])), (la, .inl (ai, 168, .inl Lf)), (st, .inr (3, [.ref sta])), (sta, .inl (ai, 42, .inl ST))]) [0, 3, 4, 5, 1, 2] (by decide) rfl ?_
        refine g_iconst (v := (-1)) X dX6_lostGrains_19 (by decide) ?_
        refine g_icmp_ne (tgt := 34) X dX6_lostGrains_20 (by decide) (fun b20 => ?_) (fun b20 => ?_)
        · refine g_iinc (v := nI (i + 1)) (lv' := [(2, .int (nI (i + 1))), (0, .ref sl), (1, .int (nI o))]) X dX6_lostGrains_34 2 rfl (nI_inc _) (by decide) rfl ?_
          refine g_goto (tgt := 4) X dX6_lostGrains_37 (by decide) ?_
          refine g_lv (lv' := [(0, .ref sl), (1, .int (nI o)), (2, .int (nI (i + 1)))]) [1, 2, 0] rfl ?_
          exact ih4 (i + 1) _ (by omega) (by first | (rw [lost_n (fun q => b20 ((cd_m1 (hL i 0 (by omega) (by decide)).2).mpr q)), ho]) | (rw [lost_y ((cd_m1 (hL i 0 (by omega) (by decide)).2).mp b20), ho])) (by omega)
        · refine g_iload_n X dX6_lostGrains_23 rfl 1 rfl ?_
          refine g_aload_n X dX6_lostGrains_24 rfl 0 rfl ?_
          refine g_getf (T := TX6) (v := .ref st) X dX6_lostGrains_25 0 rfl rfl in_X6_lostGrains_X6 3 (by decide) (by decide +kernel) rfl rfl ?_
          refine g_iload_n X dX6_lostGrains_28 rfl 2 rfl ?_
          refine g_callVi (C := RX3) (As := [.int (nI i)]) (rest := [.int (nI o)]) (wr := [(sl, .inr (6, [.ref g, .ref pP, .ref sh, .ref st, .ref q0])), (g, .inr (2, [.ref L, .int wc])), (L, .inr (3, [.ref la])), (la, .inl (ai, 168, .inl Lf))]) X dX6_lostGrains_29 (c_X3_atN l D ai az al st sta 42 ST i (by decide) (by omega)) gX6_lostGrains_X3_at rfl rfl ok_X3_at rfl rfl (by decide) ⟨by decide, by decide⟩ (Nat.le_of_ble_eq_true rfl) [4, 5] [0, 1, 2, 3] ⟨rfl, by decide, rfl, by decide, by decide⟩ 0 rfl rfl rfl (fun r2 u hp => ?_)
          obtain rfl := hp
          refine g_sub (k := 0) (n := 0) (ws' := [(sl, .inr (6, [.ref g, .ref pP, .ref sh, .ref st, .ref q0])), (g, .inr (2, [.ref L, .int wc])), (L, .inr (3, [.ref la])), (la, .inl (ai, 168, .inl Lf)), (st, .inr (3, [.ref sta])), (sta, .inl (ai, 42, .inl ST))]) [0, 1, 2, 3, 4, 5] (by decide) rfl ?_
          rw [hT i (by omega)]
          refine g_iadd (v := nI (o + (t i))) X dX6_lostGrains_32 (nI_add _ _) ?_
          refine g_istore_n (lv' := [(1, .int (nI (o + (t i)))), (0, .ref sl), (2, .int (nI i))]) X dX6_lostGrains_33 rfl (by decide) rfl ?_
          refine g_iinc (v := nI (i + 1)) (lv' := [(2, .int (nI (i + 1))), (1, .int (nI (o + (t i)))), (0, .ref sl)]) X dX6_lostGrains_34 2 rfl (nI_inc _) (by decide) rfl ?_
          refine g_goto (tgt := 4) X dX6_lostGrains_37 (by decide) ?_
          refine g_lv (lv' := [(0, .ref sl), (1, .int (nI (o + (t i)))), (2, .int (nI (i + 1)))]) [2, 1, 0] rfl ?_
          exact ih4 (i + 1) (o + (t i)) (by omega) (by first | (rw [lost_n (fun q => b20 ((cd_m1 (hL i 0 (by omega) (by decide)).2).mpr q)), ho]) | (rw [lost_y ((cd_m1 (hL i 0 (by omega) (by decide)).2).mp b20), ho])) (by omega)
  refine g_lv (lv' := [(0, .ref sl), (1, .int (nI 0)), (2, .int (nI 0))]) [2, 1, 0] rfl ?_
  exact L4 7 0 0 (by decide) (rfl) (by decide)

theorem ok_X6_init : okName yX6_init 2 := by decide +kernel
theorem in_X6_init_X3 : ∀ w ∈ u_ws RX3 TX3 1, w ∈ wsX6_init := by decide +kernel
theorem in_X6_init_X6 : ∀ w ∈ u_ws RX6 TX6 5, w ∈ wsX6_init := by decide +kernel
theorem in_X6_init_X0 : ∀ w ∈ u_ws RX0 TX0 4, w ∈ wsX6_init := by decide +kernel
set_option maxRecDepth 100000 in
set_option maxHeartbeats 4000000 in
theorem c_X6_init (l : Launch) (D : va_G) (ai az al : ClassId) (sl : Nat) (g : Nat) (pP : Nat) : CV l D (tY ai az al) yX6_init wsX6_init { frames := 3, cells := 9, slots := 176, locals := 61 } [.ref sl, .ref g, .ref pP] [(sl, .inr (6, [.null, .null, .null, .null, .null]))] (fun (u : Nat × Nat × Nat × Nat × Nat × Nat × Nat × Nat × Nat) => True) (fun (u : Nat × Nat × Nat × Nat × Nat × Nat × Nat × Nat × Nat) => [(sl, .inr (6, [.ref g, .ref pP, .ref u.1, .ref u.2.1, .ref u.2.2.1])), (u.1, .inr (3, [.ref u.2.2.2.1])), (u.2.2.2.1, .inl (ai, 42, .inl (fun _ => 0))), (u.2.1, .inr (3, [.ref u.2.2.2.2.1])), (u.2.2.2.2.1, .inl (ai, 42, .inl (fun _ => 0))), (u.2.2.1, .inr (0, [.ref u.2.2.2.2.2.1, .ref u.2.2.2.2.2.2.1, .int (nI 0), .int (nI 0)])), (u.2.2.2.2.2.1, .inr (3, [.ref u.2.2.2.2.2.2.2.1])), (u.2.2.2.2.2.2.2.1, .inl (ai, 42, .inl (fun _ => 0))), (u.2.2.2.2.2.2.1, .inr (3, [.ref u.2.2.2.2.2.2.2.2])), (u.2.2.2.2.2.2.2.2, .inl (ai, 42, .inl (fun _ => 0)))]) := by
  refine ofG_V (cc := cX6_init) (nL := 3) (lv0 := [(0, .ref sl), (1, .ref g), (2, .ref pP)]) (by decide) rfl (Nat.le_of_ble_eq_true rfl) rfl ?_
  intro Γ X E hinit
  have hinit := hinit rfl
  refine g_aload_n X dX6_init_0 rfl 0 rfl ?_
  refine g_objInit X dX6_init_1 (by decide +kernel) (by decide +kernel) (by decide +kernel) (by decide) (by decide) ?_
  refine g_aload_n X dX6_init_4 rfl 0 rfl ?_
  refine g_new (T := TX3) (ci := 3) (fs := [.null]) X dX6_init_5 rfl in_X6_init_X3 tyX3 tyX3_ok (by decide +kernel) (by decide +kernel) (by decide +kernel) (by intro j hj; exact fs_X3 j hj) (by decide) (by decide) (fun q1 => ?_)
  refine g_sub (k := 1) (n := 1) (ws' := [(sl, .inr (6, [.null, .null, .null, .null, .null])), (q1, .inr (3, [.null]))]) [0, 1] (by decide) rfl ?_
  refine g_dup X dX6_init_8 rfl ?_
  refine g_bipush (v := nI 42) X dX6_init_9 (by decide) ?_
  refine g_callI (As := [.int (nI 42)]) (rest := [.ref q1, .ref sl]) (wr := [(sl, .inr (6, [.null, .null, .null, .null, .null]))]) X dX6_init_11 (c_X3_init42 l D ai az al q1 ) gX6_init_X3_init rfl (by decide +kernel) (by decide +kernel) (by decide +kernel) rfl ok_X3_init rfl rfl (by decide) ⟨by decide, by decide⟩ (Nat.le_of_ble_eq_true rfl) [1] [0] ⟨rfl, by decide, rfl, by decide, by decide⟩ (fun a2 hp => ?_)
  refine g_sub (k := 2) (n := 43) (ws' := [(sl, .inr (6, [.null, .null, .null, .null, .null])), (q1, .inr (3, [.ref a2])), (a2, .inl (ai, 42, .inl (fun _ => 0)))]) [0, 1, 2] (by decide) rfl ?_
  refine g_putfF (T := TX6) (v := .ref q1) (ty := tyX6 2) (ws' := [(sl, .inr (6, [.null, .null, .ref q1, .null, .null])), (q1, .inr (3, [.ref a2])), (a2, .inl (ai, 42, .inl (fun _ => 0)))]) X dX6_init_14 0 rfl rfl in_X6_init_X6 tyX6 tyX6_ok nmX6 2 (by decide) (by decide +kernel) rfl rfl hinit rfl (by decide +kernel) rfl rfl (Nat.le_of_ble_eq_true rfl) rfl ?_
  refine g_aload_n X dX6_init_17 rfl 0 rfl ?_
  refine g_new (T := TX3) (ci := 3) (fs := [.null]) X dX6_init_18 rfl in_X6_init_X3 tyX3 tyX3_ok (by decide +kernel) (by decide +kernel) (by decide +kernel) (by intro j hj; exact fs_X3 j hj) (by decide) (by decide) (fun q3 => ?_)
  refine g_sub (k := 3) (n := 44) (ws' := [(sl, .inr (6, [.null, .null, .ref q1, .null, .null])), (q1, .inr (3, [.ref a2])), (a2, .inl (ai, 42, .inl (fun _ => 0))), (q3, .inr (3, [.null]))]) [0, 1, 2, 3] (by decide) rfl ?_
  refine g_dup X dX6_init_21 rfl ?_
  refine g_bipush (v := nI 42) X dX6_init_22 (by decide) ?_
  refine g_callI (As := [.int (nI 42)]) (rest := [.ref q3, .ref sl]) (wr := [(sl, .inr (6, [.null, .null, .ref q1, .null, .null])), (q1, .inr (3, [.ref a2])), (a2, .inl (ai, 42, .inl (fun _ => 0)))]) X dX6_init_24 (c_X3_init42 l D ai az al q3 ) gX6_init_X3_init rfl (by decide +kernel) (by decide +kernel) (by decide +kernel) rfl ok_X3_init rfl rfl (by decide) ⟨by decide, by decide⟩ (Nat.le_of_ble_eq_true rfl) [3] [0, 1, 2] ⟨rfl, by decide, rfl, by decide, by decide⟩ (fun a4 hp => ?_)
  refine g_sub (k := 4) (n := 86) (ws' := [(sl, .inr (6, [.null, .null, .ref q1, .null, .null])), (q1, .inr (3, [.ref a2])), (a2, .inl (ai, 42, .inl (fun _ => 0))), (q3, .inr (3, [.ref a4])), (a4, .inl (ai, 42, .inl (fun _ => 0)))]) [0, 1, 2, 3, 4] (by decide) rfl ?_
  refine g_putfF (T := TX6) (v := .ref q3) (ty := tyX6 3) (ws' := [(sl, .inr (6, [.null, .null, .ref q1, .ref q3, .null])), (q1, .inr (3, [.ref a2])), (a2, .inl (ai, 42, .inl (fun _ => 0))), (q3, .inr (3, [.ref a4])), (a4, .inl (ai, 42, .inl (fun _ => 0)))]) X dX6_init_27 0 rfl rfl in_X6_init_X6 tyX6 tyX6_ok nmX6 3 (by decide) (by decide +kernel) rfl rfl hinit rfl (by decide +kernel) rfl rfl (Nat.le_of_ble_eq_true rfl) rfl ?_
  refine g_aload_n X dX6_init_30 rfl 0 rfl ?_
  refine g_new (T := TX0) (ci := 0) (fs := [.null, .null, .int (nI 0), .int (nI 0)]) X dX6_init_31 rfl in_X6_init_X0 tyX0 tyX0_ok (by decide +kernel) (by decide +kernel) (by decide +kernel) (by intro j hj; exact fs_X0 j hj) (by decide) (by decide) (fun q5 => ?_)
  refine g_sub (k := 5) (n := 90) (ws' := [(sl, .inr (6, [.null, .null, .ref q1, .ref q3, .null])), (q1, .inr (3, [.ref a2])), (a2, .inl (ai, 42, .inl (fun _ => 0))), (q3, .inr (3, [.ref a4])), (a4, .inl (ai, 42, .inl (fun _ => 0))), (q5, .inr (0, [.null, .null, .int (nI 0), .int (nI 0)]))]) [0, 1, 2, 3, 4, 5] (by decide) rfl ?_
  refine g_dup X dX6_init_34 rfl ?_
  refine g_callIN (As := []) (rest := [.ref q5, .ref sl]) (wr := [(sl, .inr (6, [.null, .null, .ref q1, .ref q3, .null])), (q1, .inr (3, [.ref a2])), (a2, .inl (ai, 42, .inl (fun _ => 0))), (q3, .inr (3, [.ref a4])), (a4, .inl (ai, 42, .inl (fun _ => 0)))]) X dX6_init_35 (c_X0_init l D ai az al q5 ) gX6_init_X0_init_n25 rfl 25 rfl (by decide +kernel) (by decide +kernel) rfl ok_X0_init rfl rfl (by decide) ⟨by decide, by decide⟩ (Nat.le_of_ble_eq_true rfl) [5] [0, 1, 2, 3, 4] ⟨rfl, by decide, rfl, by decide, by decide⟩ (fun u hp => ?_)
  obtain ⟨r6, w7, ra8, wa9⟩ := u
  refine g_sub (k := 9) (n := 176) (ws' := [(sl, .inr (6, [.null, .null, .ref q1, .ref q3, .null])), (q1, .inr (3, [.ref a2])), (a2, .inl (ai, 42, .inl (fun _ => 0))), (q3, .inr (3, [.ref a4])), (a4, .inl (ai, 42, .inl (fun _ => 0))), (q5, .inr (0, [.ref r6, .ref w7, .int (nI 0), .int (nI 0)])), (r6, .inr (3, [.ref ra8])), (ra8, .inl (ai, 42, .inl (fun _ => 0))), (w7, .inr (3, [.ref wa9])), (wa9, .inl (ai, 42, .inl (fun _ => 0)))]) [0, 1, 2, 3, 4, 5, 6, 7, 8, 9] (by decide) rfl ?_
  refine g_putfF (T := TX6) (v := .ref q5) (ty := tyX6 4) (ws' := [(sl, .inr (6, [.null, .null, .ref q1, .ref q3, .ref q5])), (q1, .inr (3, [.ref a2])), (a2, .inl (ai, 42, .inl (fun _ => 0))), (q3, .inr (3, [.ref a4])), (a4, .inl (ai, 42, .inl (fun _ => 0))), (q5, .inr (0, [.ref r6, .ref w7, .int (nI 0), .int (nI 0)])), (r6, .inr (3, [.ref ra8])), (ra8, .inl (ai, 42, .inl (fun _ => 0))), (w7, .inr (3, [.ref wa9])), (wa9, .inl (ai, 42, .inl (fun _ => 0)))]) X dX6_init_38 0 rfl rfl in_X6_init_X6 tyX6 tyX6_ok nmX6 4 (by decide) (by decide +kernel) rfl rfl hinit rfl (by decide +kernel) rfl rfl (Nat.le_of_ble_eq_true rfl) rfl ?_
  refine g_aload_n X dX6_init_41 rfl 0 rfl ?_
  refine g_aload_n X dX6_init_42 rfl 1 rfl ?_
  refine g_putfF (T := TX6) (v := .ref g) (ty := tyX6 0) (ws' := [(sl, .inr (6, [.ref g, .null, .ref q1, .ref q3, .ref q5])), (q1, .inr (3, [.ref a2])), (a2, .inl (ai, 42, .inl (fun _ => 0))), (q3, .inr (3, [.ref a4])), (a4, .inl (ai, 42, .inl (fun _ => 0))), (q5, .inr (0, [.ref r6, .ref w7, .int (nI 0), .int (nI 0)])), (r6, .inr (3, [.ref ra8])), (ra8, .inl (ai, 42, .inl (fun _ => 0))), (w7, .inr (3, [.ref wa9])), (wa9, .inl (ai, 42, .inl (fun _ => 0)))]) X dX6_init_43 0 rfl rfl in_X6_init_X6 tyX6 tyX6_ok nmX6 0 (by decide) (by decide +kernel) rfl rfl hinit rfl (by decide +kernel) rfl rfl (Nat.le_of_ble_eq_true rfl) rfl ?_
  refine g_aload_n X dX6_init_46 rfl 0 rfl ?_
  refine g_aload_n X dX6_init_47 rfl 2 rfl ?_
  refine g_putfF (T := TX6) (v := .ref pP) (ty := tyX6 1) (ws' := [(sl, .inr (6, [.ref g, .ref pP, .ref q1, .ref q3, .ref q5])), (q1, .inr (3, [.ref a2])), (a2, .inl (ai, 42, .inl (fun _ => 0))), (q3, .inr (3, [.ref a4])), (a4, .inl (ai, 42, .inl (fun _ => 0))), (q5, .inr (0, [.ref r6, .ref w7, .int (nI 0), .int (nI 0)])), (r6, .inr (3, [.ref ra8])), (ra8, .inl (ai, 42, .inl (fun _ => 0))), (w7, .inr (3, [.ref wa9])), (wa9, .inl (ai, 42, .inl (fun _ => 0)))]) X dX6_init_48 0 rfl rfl in_X6_init_X6 tyX6 tyX6_ok nmX6 1 (by decide) (by decide +kernel) rfl rfl hinit rfl (by decide +kernel) rfl rfl (Nat.le_of_ble_eq_true rfl) rfl ?_
  exact g_vret X E dX6_init_51 (⟨q1, q3, q5, a2, a4, r6, w7, ra8, wa9⟩) rfl (by decide) (by decide) (trivial)

theorem ok_X4_carry : okName yX4_carry 2 := by decide +kernel
theorem in_X4_carry_X4 : ∀ w ∈ u_ws RX4 TX4 8, w ∈ wsX4_carry := by decide +kernel
set_option maxRecDepth 100000 in
set_option maxHeartbeats 4000000 in
theorem c_X4_carry (l : Launch) (D : va_G) (ai az al : ClassId) (sa : Nat) (g : Nat) (sl : Nat) (hN : Nat) (cN : Nat) (tN : Nat) (fN : Nat) (sea : Int32) (inall : Int32) (hA : Nat) (Hf : Nat → Int32) (cA : Nat) (Cf : Nat → Int32) (c : Nat) (v : Int32) (hc : c < 42) : CV l D (tY ai az al) yX4_carry wsX4_carry { frames := 1, cells := 0, slots := 0, locals := 22 } [.ref sa, .int (nI c), .int v] [(sa, .inr (4, [.ref g, .ref sl, .ref hN, .ref cN, .ref tN, .ref fN, .int sea, .int inall])), (hN, .inr (3, [.ref hA])), (hA, .inl (ai, 42, .inl Hf)), (cN, .inr (3, [.ref cA])), (cA, .inl (ai, 42, .inl Cf))] (fun (u : Unit) => True) (fun (u : Unit) => [(sa, .inr (4, [.ref g, .ref sl, .ref hN, .ref cN, .ref tN, .ref fN, .int sea, .int inall])), (hN, .inr (3, [.ref hA])), (hA, .inl (ai, 42, .inl (upd Hf c (Hf c + v)))), (cN, .inr (3, [.ref cA])), (cA, .inl (ai, 42, .inl (upd Cf c (Cf c + v))))]) := by
  refine ofG_V (cc := cX4_carry) (nL := 3) (lv0 := [(0, .ref sa), (1, .int (nI c)), (2, .int v)]) (by decide) rfl (Nat.le_of_ble_eq_true rfl) rfl ?_
  intro Γ X E hinit
  refine g_aload_n X dX4_carry_0 rfl 0 rfl ?_
  refine g_getf (T := TX4) (v := .ref hN) X dX4_carry_1 0 rfl rfl in_X4_carry_X4 2 (by decide) (by decide +kernel) rfl rfl ?_
  refine g_iload_n X dX4_carry_4 rfl 1 rfl ?_
  refine g_iload_n X dX4_carry_5 rfl 2 rfl ?_
  refine g_callVv (C := RX3) (As := [.int (nI c), .int v]) (rest := []) (wr := [(sa, .inr (4, [.ref g, .ref sl, .ref hN, .ref cN, .ref tN, .ref fN, .int sea, .int inall])), (cN, .inr (3, [.ref cA])), (cA, .inl (ai, 42, .inl Cf))]) X dX4_carry_6 (c_X3_addN l D ai az al hN hA 42 Hf c v (by decide) (hc)) gX4_carry_X3_add rfl rfl ok_X3_add rfl rfl (by decide) ⟨by decide, by decide⟩ (Nat.le_of_ble_eq_true rfl) [1, 2] [0, 3, 4] ⟨rfl, by decide, rfl, by decide, by decide⟩ 0 rfl rfl rfl (fun u hp => ?_)
  refine g_sub (k := 0) (n := 0) (ws' := [(sa, .inr (4, [.ref g, .ref sl, .ref hN, .ref cN, .ref tN, .ref fN, .int sea, .int inall])), (hN, .inr (3, [.ref hA])), (hA, .inl (ai, 42, .inl (upd Hf c (Hf c + v)))), (cN, .inr (3, [.ref cA])), (cA, .inl (ai, 42, .inl Cf))]) [0, 3, 4, 1, 2] (by decide) rfl ?_
  refine g_aload_n X dX4_carry_9 rfl 0 rfl ?_
  refine g_getf (T := TX4) (v := .ref cN) X dX4_carry_10 0 rfl rfl in_X4_carry_X4 3 (by decide) (by decide +kernel) rfl rfl ?_
  refine g_iload_n X dX4_carry_13 rfl 1 rfl ?_
  refine g_iload_n X dX4_carry_14 rfl 2 rfl ?_
  refine g_callVv (C := RX3) (As := [.int (nI c), .int v]) (rest := []) (wr := [(sa, .inr (4, [.ref g, .ref sl, .ref hN, .ref cN, .ref tN, .ref fN, .int sea, .int inall])), (hN, .inr (3, [.ref hA])), (hA, .inl (ai, 42, .inl (upd Hf c (Hf c + v))))]) X dX4_carry_15 (c_X3_addN l D ai az al cN cA 42 Cf c v (by decide) (hc)) gX4_carry_X3_add rfl rfl ok_X3_add rfl rfl (by decide) ⟨by decide, by decide⟩ (Nat.le_of_ble_eq_true rfl) [3, 4] [0, 1, 2] ⟨rfl, by decide, rfl, by decide, by decide⟩ 0 rfl rfl rfl (fun u hp => ?_)
  refine g_sub (k := 0) (n := 0) (ws' := [(sa, .inr (4, [.ref g, .ref sl, .ref hN, .ref cN, .ref tN, .ref fN, .int sea, .int inall])), (hN, .inr (3, [.ref hA])), (hA, .inl (ai, 42, .inl (upd Hf c (Hf c + v)))), (cN, .inr (3, [.ref cA])), (cA, .inl (ai, 42, .inl (upd Cf c (Cf c + v))))]) [0, 1, 2, 3, 4] (by decide) rfl ?_
  exact g_vret X E dX4_carry_18 () rfl (by decide) (by decide) (trivial)

theorem ok_X4_bring : okName yX4_bring 2 := by decide +kernel
theorem in_X4_bring_X4 : ∀ w ∈ u_ws RX4 TX4 8, w ∈ wsX4_bring := by decide +kernel
set_option maxRecDepth 100000 in
set_option maxHeartbeats 4000000 in
theorem c_X4_bring (l : Launch) (D : va_G) (ai az al : ClassId) (sa : Nat) (g : Nat) (sl : Nat) (hN : Nat) (cN : Nat) (tN : Nat) (fN : Nat) (sea : Int32) (inall : Int32) (hA : Nat) (Hf : Nat → Int32) (cA : Nat) (Cf : Nat → Int32) (c : Nat) (v : Int32) (hc : c < 42) : CV l D (tY ai az al) yX4_bring wsX4_bring { frames := 2, cells := 0, slots := 0, locals := 44 } [.ref sa, .int (nI c), .int v] [(sa, .inr (4, [.ref g, .ref sl, .ref hN, .ref cN, .ref tN, .ref fN, .int sea, .int inall])), (hN, .inr (3, [.ref hA])), (hA, .inl (ai, 42, .inl Hf)), (cN, .inr (3, [.ref cA])), (cA, .inl (ai, 42, .inl Cf))] (fun (u : Unit) => True) (fun (u : Unit) => [(sa, .inr (4, [.ref g, .ref sl, .ref hN, .ref cN, .ref tN, .ref fN, .int sea, .int (inall + v)])), (hN, .inr (3, [.ref hA])), (hA, .inl (ai, 42, .inl (upd Hf c (Hf c + v)))), (cN, .inr (3, [.ref cA])), (cA, .inl (ai, 42, .inl (upd Cf c (Cf c + v))))]) := by
  refine ofG_V (cc := cX4_bring) (nL := 3) (lv0 := [(0, .ref sa), (1, .int (nI c)), (2, .int v)]) (by decide) rfl (Nat.le_of_ble_eq_true rfl) rfl ?_
  intro Γ X E hinit
  refine g_aload_n X dX4_bring_0 rfl 0 rfl ?_
  refine g_iload_n X dX4_bring_1 rfl 1 rfl ?_
  refine g_iload_n X dX4_bring_2 rfl 2 rfl ?_
  refine g_callVv (C := RX4) (As := [.int (nI c), .int v]) (rest := []) (wr := []) X dX4_bring_3 (c_X4_carry l D ai az al sa g sl hN cN tN fN sea inall hA Hf cA Cf c v (by first | omega | assumption)) gX4_bring_X4_carry rfl rfl ok_X4_carry rfl rfl (by decide) ⟨by decide, by decide⟩ (Nat.le_of_ble_eq_true rfl) [0, 1, 2, 3, 4] [] ⟨rfl, by decide, rfl, by decide, by decide⟩ 0 rfl rfl rfl (fun u hp => ?_)
  refine g_sub (k := 0) (n := 0) (ws' := [(sa, .inr (4, [.ref g, .ref sl, .ref hN, .ref cN, .ref tN, .ref fN, .int sea, .int inall])), (hN, .inr (3, [.ref hA])), (hA, .inl (ai, 42, .inl (upd Hf c (Hf c + v)))), (cN, .inr (3, [.ref cA])), (cA, .inl (ai, 42, .inl (upd Cf c (Cf c + v))))]) [0, 1, 2, 3, 4] (by decide) rfl ?_
  refine g_aload_n X dX4_bring_6 rfl 0 rfl ?_
  refine g_dup X dX4_bring_7 rfl ?_
  refine g_getf (T := TX4) (v := .int inall) X dX4_bring_8 0 rfl rfl in_X4_bring_X4 7 (by decide) (by decide +kernel) rfl rfl ?_
  refine g_iload_n X dX4_bring_11 rfl 2 rfl ?_
  refine g_iadd (v := (inall + v)) X dX4_bring_12 (rfl) ?_
  refine g_putf (T := TX4) (v := .int (inall + v)) (ty := tyX4 7) (ws' := [(sa, .inr (4, [.ref g, .ref sl, .ref hN, .ref cN, .ref tN, .ref fN, .int sea, .int (inall + v)])), (hN, .inr (3, [.ref hA])), (hA, .inl (ai, 42, .inl (upd Hf c (Hf c + v)))), (cN, .inr (3, [.ref cA])), (cA, .inl (ai, 42, .inl (upd Cf c (Cf c + v))))]) X dX4_bring_13 0 rfl rfl in_X4_bring_X4 tyX4 tyX4_ok nmX4 7 (by decide) (by decide +kernel) rfl rfl (by decide +kernel) rfl rfl (Nat.le_of_ble_eq_true rfl) rfl ?_
  exact g_vret X E dX4_bring_16 () rfl (by decide) (by decide) (trivial)

theorem ok_X4_countFlows : okName yX4_countFlows 1 := by decide +kernel
theorem in_X4_countFlows_X4 : ∀ w ∈ u_ws RX4 TX4 8, w ∈ wsX4_countFlows := by decide +kernel
theorem in_X4_countFlows_X6 : ∀ w ∈ u_ws RX6 TX6 5, w ∈ wsX4_countFlows := by decide +kernel
set_option maxRecDepth 100000 in
set_option maxHeartbeats 4000000 in
theorem c_X4_countFlows (l : Launch) (D : va_G) (ai az al : ClassId) (sa : Nat) (g : Nat) (sl : Nat) (hN : Nat) (cN : Nat) (tN : Nat) (fN : Nat) (sea : Int32) (inall : Int32) (pP : Nat) (sh : Nat) (st : Nat) (q0 : Nat) (L : Nat) (la : Nat) (Lf : Nat → Int32) (wc : Int32) (nb : Nat → Nat → Nat) (sta : Nat) (ST : Nat → Int32) (fA : Nat) (Ff : Nat → Int32) (vv : Nat → Nat) (c : Nat) (hc : c < 42) (hL : LeadsOK Lf nb) (hT : HOK ST vv) : CV l D (tY ai az al) yX4_countFlows wsX4_countFlows { frames := 2, cells := 0, slots := 0, locals := 43 } [.ref sa, .int (nI c)] [(sa, .inr (4, [.ref g, .ref sl, .ref hN, .ref cN, .ref tN, .ref fN, .int sea, .int inall])), (g, .inr (2, [.ref L, .int wc])), (L, .inr (3, [.ref la])), (la, .inl (ai, 168, .inl Lf)), (sl, .inr (6, [.ref g, .ref pP, .ref sh, .ref st, .ref q0])), (st, .inr (3, [.ref sta])), (sta, .inl (ai, 42, .inl ST)), (fN, .inr (3, [.ref fA])), (fA, .inl (ai, 168, .inl Ff))] (fun (u : (Nat → Int32)) => (∀ s, s < 4 → u (c * 4 + s) = Ff (c * 4 + s) + flI nb vv c s) ∧ (∀ k, (k < c * 4 ∨ c * 4 + 4 ≤ k) → u k = Ff k)) (fun (u : (Nat → Int32)) => [(sa, .inr (4, [.ref g, .ref sl, .ref hN, .ref cN, .ref tN, .ref fN, .int sea, .int inall])), (g, .inr (2, [.ref L, .int wc])), (L, .inr (3, [.ref la])), (la, .inl (ai, 168, .inl Lf)), (sl, .inr (6, [.ref g, .ref pP, .ref sh, .ref st, .ref q0])), (st, .inr (3, [.ref sta])), (sta, .inl (ai, 42, .inl ST)), (fN, .inr (3, [.ref fA])), (fA, .inl (ai, 168, .inl u))]) := by
  refine ofG_V (cc := cX4_countFlows) (nL := 4) (lv0 := [(0, .ref sa), (1, .int (nI c))]) (by decide) rfl (Nat.le_of_ble_eq_true rfl) rfl ?_
  intro Γ X E hinit
  refine g_iconst (v := nI 0) X dX4_countFlows_0 (by decide) ?_
  refine g_istore_n (lv' := [(2, .int (nI 0)), (0, .ref sa), (1, .int (nI c))]) X dX4_countFlows_1 rfl (by decide) rfl ?_
  have L2 : ∀ (fl : Nat) (i : Nat) (Fi : Nat → Int32), (i ≤ 4) → (∀ s, s < i → Fi (c * 4 + s) = Ff (c * 4 + s) + flI nb vv c s) → (∀ k, (k < c * 4 ∨ c * 4 + i ≤ k) → Fi k = Ff k) → (5 ≤ i + fl) → G Γ 4 0 0 [(sa, .inr (4, [.ref g, .ref sl, .ref hN, .ref cN, .ref tN, .ref fN, .int sea, .int inall])), (g, .inr (2, [.ref L, .int wc])), (L, .inr (3, [.ref la])), (la, .inl (ai, 168, .inl Lf)), (sl, .inr (6, [.ref g, .ref pP, .ref sh, .ref st, .ref q0])), (st, .inr (3, [.ref sta])), (sta, .inl (ai, 42, .inl ST)), (fN, .inr (3, [.ref fA])), (fA, .inl (ai, 168, .inl Fi))] [(0, .ref sa), (1, .int (nI c)), (2, .int (nI i))] 2 [] := by
    intro fl
    induction fl with
    | zero => intro i Fi hi h1 h2 hm; exact absurd hm (by omega)
    | succ fl ih2 =>
      intro i Fi hi h1 h2 hm
      refine g_iload_n X dX4_countFlows_2 rfl 2 rfl ?_
      refine g_iconst (v := nI 4) X dX4_countFlows_3 (by decide) ?_
      refine g_icmp_geN (tgt := 64) X dX4_countFlows_4 (by decide) (by omega) (by omega) (fun b4 => ?_) (fun b4 => ?_)
      · exact g_vret X E dX4_countFlows_64 Fi rfl (by decide) (by decide) (⟨fun s hs => h1 s (by omega), fun k hk => h2 k (by omega)⟩)
      · refine g_aload_n X dX4_countFlows_7 rfl 0 rfl ?_
        refine g_getf (T := TX4) (v := .ref g) X dX4_countFlows_8 0 rfl rfl in_X4_countFlows_X4 0 (by decide) (by decide +kernel) rfl rfl ?_
        refine g_iload_n X dX4_countFlows_11 rfl 1 rfl ?_
        refine g_iload_n X dX4_countFlows_12 rfl 2 rfl ?_
        refine g_callVi (C := RX2) (As := [.int (nI c), .int (nI i)]) (rest := []) (wr := [(sa, .inr (4, [.ref g, .ref sl, .ref hN, .ref cN, .ref tN, .ref fN, .int sea, .int inall])), (sl, .inr (6, [.ref g, .ref pP, .ref sh, .ref st, .ref q0])), (st, .inr (3, [.ref sta])), (sta, .inl (ai, 42, .inl ST)), (fN, .inr (3, [.ref fA])), (fA, .inl (ai, 168, .inl Fi))]) X dX4_countFlows_13 (c_X2_leadsTo l D ai az al g L la Lf wc nb c i (hc) (by omega) (hL)) gX4_countFlows_X2_leadsTo rfl rfl ok_X2_leadsTo rfl rfl (by decide) ⟨by decide, by decide⟩ (Nat.le_of_ble_eq_true rfl) [1, 2, 3] [0, 4, 5, 6, 7, 8] ⟨rfl, by decide, rfl, by decide, by decide⟩ 0 rfl rfl rfl (fun r1 u hp => ?_)
        obtain rfl := hp
        refine g_sub (k := 0) (n := 0) (ws' := [(sa, .inr (4, [.ref g, .ref sl, .ref hN, .ref cN, .ref tN, .ref fN, .int sea, .int inall])), (g, .inr (2, [.ref L, .int wc])), (L, .inr (3, [.ref la])), (la, .inl (ai, 168, .inl Lf)), (sl, .inr (6, [.ref g, .ref pP, .ref sh, .ref st, .ref q0])), (st, .inr (3, [.ref sta])), (sta, .inl (ai, 42, .inl ST)), (fN, .inr (3, [.ref fA])), (fA, .inl (ai, 168, .inl Fi))]) [0, 6, 7, 8, 1, 2, 3, 4, 5] (by decide) rfl ?_
        refine g_istore_n (lv' := [(3, .int (cd (nb c i))), (0, .ref sa), (1, .int (nI c)), (2, .int (nI i))]) X dX4_countFlows_16 rfl (by decide) rfl ?_
        refine g_iload_n X dX4_countFlows_17 rfl 0 rfl ?_
        refine g_bipush (v := (-2)) X dX4_countFlows_18 (by decide) ?_
        refine g_icmp_eq (tgt := 58) X dX4_countFlows_20 (by decide) (fun b20 => ?_) (fun b20 => ?_)
        · refine g_iinc (v := nI (i + 1)) (lv' := [(2, .int (nI (i + 1))), (3, .int (cd (nb c i))), (0, .ref sa), (1, .int (nI c))]) X dX4_countFlows_58 3 rfl (nI_inc _) (by decide) rfl ?_
          refine g_goto (tgt := 2) X dX4_countFlows_61 (by decide) ?_
          refine g_lv (lv' := [(0, .ref sa), (1, .int (nI c)), (2, .int (nI (i + 1)))]) [2, 3, 0] rfl ?_
          exact ih2 (i + 1) Fi (by omega) (fun s hs => by by_cases e : s = i; (subst e; rw [h2 _ (by omega), flI_0 ((cd_m2 (hL c s hc (by omega)).2).mp b20), Int32.add_zero]); exact h1 s (by omega)) (fun k hk => h2 k (by omega)) (by omega)
        · refine g_aload_n X dX4_countFlows_23 rfl 1 rfl ?_
          refine g_getf (T := TX4) (v := .ref fN) X dX4_countFlows_24 0 rfl rfl in_X4_countFlows_X4 5 (by decide) (by decide +kernel) rfl rfl ?_
          refine g_iload_n X dX4_countFlows_27 rfl 2 rfl ?_
          refine g_iload_n X dX4_countFlows_28 rfl 3 rfl ?_
          refine g_callNi (As := [.int (nI c), .int (nI i)]) (rest := [.ref fN]) (wr := [(sa, .inr (4, [.ref g, .ref sl, .ref hN, .ref cN, .ref tN, .ref fN, .int sea, .int inall])), (g, .inr (2, [.ref L, .int wc])), (L, .inr (3, [.ref la])), (la, .inl (ai, 168, .inl Lf)), (sl, .inr (6, [.ref g, .ref pP, .ref sh, .ref st, .ref q0])), (st, .inr (3, [.ref sta])), (sta, .inl (ai, 42, .inl ST)), (fN, .inr (3, [.ref fA])), (fA, .inl (ai, 168, .inl Fi))]) X dX4_countFlows_29 (c_X8_placeOf l D ai az al c i ) gX4_countFlows_X8_placeOf_n86 rfl 24 rfl (by decide +kernel) (by decide +kernel) ok_X8_placeOf rfl rfl (by decide) ⟨by decide, by decide⟩ (Nat.le_of_ble_eq_true rfl) [] [0, 1, 2, 3, 4, 5, 6, 7, 8] ⟨rfl, by decide, rfl, by decide, by decide⟩ (fun r2 u hp => ?_)
          obtain rfl := hp
          refine g_sub (k := 0) (n := 0) (ws' := [(sa, .inr (4, [.ref g, .ref sl, .ref hN, .ref cN, .ref tN, .ref fN, .int sea, .int inall])), (g, .inr (2, [.ref L, .int wc])), (L, .inr (3, [.ref la])), (la, .inl (ai, 168, .inl Lf)), (sl, .inr (6, [.ref g, .ref pP, .ref sh, .ref st, .ref q0])), (st, .inr (3, [.ref sta])), (sta, .inl (ai, 42, .inl ST)), (fN, .inr (3, [.ref fA])), (fA, .inl (ai, 168, .inl Fi))]) [0, 1, 2, 3, 4, 5, 6, 7, 8] (by decide) rfl ?_
          refine g_aload_n X dX4_countFlows_32 rfl 1 rfl ?_
          refine g_getf (T := TX4) (v := .ref sl) X dX4_countFlows_33 0 rfl rfl in_X4_countFlows_X4 1 (by decide) (by decide +kernel) rfl rfl ?_
          refine g_getfN (T := TX6) (v := .ref st) X dX4_countFlows_36 4 rfl rfl in_X4_countFlows_X6 3 (by decide) 14 rfl rfl rfl ?_
          refine g_iload_n X dX4_countFlows_39 rfl 2 rfl ?_
          refine g_callVi (C := RX3) (As := [.int (nI c)]) (rest := [.int (nI (c * 4 + i)), .ref fN]) (wr := [(sa, .inr (4, [.ref g, .ref sl, .ref hN, .ref cN, .ref tN, .ref fN, .int sea, .int inall])), (g, .inr (2, [.ref L, .int wc])), (L, .inr (3, [.ref la])), (la, .inl (ai, 168, .inl Lf)), (sl, .inr (6, [.ref g, .ref pP, .ref sh, .ref st, .ref q0])), (fN, .inr (3, [.ref fA])), (fA, .inl (ai, 168, .inl Fi))]) X dX4_countFlows_40 (c_X3_atN l D ai az al st sta 42 ST c (by decide) (by omega)) gX4_countFlows_X3_at rfl rfl ok_X3_at rfl rfl (by decide) ⟨by decide, by decide⟩ (Nat.le_of_ble_eq_true rfl) [5, 6] [0, 1, 2, 3, 4, 7, 8] ⟨rfl, by decide, rfl, by decide, by decide⟩ 0 rfl rfl rfl (fun r3 u hp => ?_)
          obtain rfl := hp
          refine g_sub (k := 0) (n := 0) (ws' := [(sa, .inr (4, [.ref g, .ref sl, .ref hN, .ref cN, .ref tN, .ref fN, .int sea, .int inall])), (g, .inr (2, [.ref L, .int wc])), (L, .inr (3, [.ref la])), (la, .inl (ai, 168, .inl Lf)), (sl, .inr (6, [.ref g, .ref pP, .ref sh, .ref st, .ref q0])), (st, .inr (3, [.ref sta])), (sta, .inl (ai, 42, .inl ST)), (fN, .inr (3, [.ref fA])), (fA, .inl (ai, 168, .inl Fi))]) [0, 1, 2, 3, 4, 7, 8, 5, 6] (by decide) rfl ?_
          refine g_aload_n X dX4_countFlows_43 rfl 1 rfl ?_
          refine g_getf (T := TX4) (v := .ref sl) X dX4_countFlows_44 0 rfl rfl in_X4_countFlows_X4 1 (by decide) (by decide +kernel) rfl rfl ?_
          refine g_getfN (T := TX6) (v := .ref st) X dX4_countFlows_47 4 rfl rfl in_X4_countFlows_X6 3 (by decide) 14 rfl rfl rfl ?_
          refine g_iload_n X dX4_countFlows_50 rfl 0 rfl ?_
          refine g_callVi (C := RX3) (As := [.int (cd (nb c i))]) (rest := [.int (ST c), .int (nI (c * 4 + i)), .ref fN]) (wr := [(sa, .inr (4, [.ref g, .ref sl, .ref hN, .ref cN, .ref tN, .ref fN, .int sea, .int inall])), (g, .inr (2, [.ref L, .int wc])), (L, .inr (3, [.ref la])), (la, .inl (ai, 168, .inl Lf)), (sl, .inr (6, [.ref g, .ref pP, .ref sh, .ref st, .ref q0])), (fN, .inr (3, [.ref fA])), (fA, .inl (ai, 168, .inl Fi))]) X dX4_countFlows_51 (c_X3_at l D ai az al st sta 42 ST (cd (nb c i)) (by decide)) gX4_countFlows_X3_at rfl rfl ok_X3_at rfl rfl (by decide) ⟨by decide, by decide⟩ (Nat.le_of_ble_eq_true rfl) [5, 6] [0, 1, 2, 3, 4, 7, 8] ⟨rfl, by decide, rfl, by decide, by decide⟩ 0 rfl rfl rfl (fun r4 u hp => ?_)
          obtain rfl := hp
          refine g_sub (k := 0) (n := 0) (ws' := [(sa, .inr (4, [.ref g, .ref sl, .ref hN, .ref cN, .ref tN, .ref fN, .int sea, .int inall])), (g, .inr (2, [.ref L, .int wc])), (L, .inr (3, [.ref la])), (la, .inl (ai, 168, .inl Lf)), (sl, .inr (6, [.ref g, .ref pP, .ref sh, .ref st, .ref q0])), (st, .inr (3, [.ref sta])), (sta, .inl (ai, 42, .inl ST)), (fN, .inr (3, [.ref fA])), (fA, .inl (ai, 168, .inl Fi))]) [0, 1, 2, 3, 4, 7, 8, 5, 6] (by decide) rfl ?_
          refine g_isub (v := (ST c - atF ST 42 (cd (nb c i)))) X dX4_countFlows_54 (rfl) ?_
          refine g_callVv (C := RX3) (As := [.int (nI (c * 4 + i)), .int (ST c - atF ST 42 (cd (nb c i)))]) (rest := []) (wr := [(sa, .inr (4, [.ref g, .ref sl, .ref hN, .ref cN, .ref tN, .ref fN, .int sea, .int inall])), (g, .inr (2, [.ref L, .int wc])), (L, .inr (3, [.ref la])), (la, .inl (ai, 168, .inl Lf)), (sl, .inr (6, [.ref g, .ref pP, .ref sh, .ref st, .ref q0])), (st, .inr (3, [.ref sta])), (sta, .inl (ai, 42, .inl ST))]) X dX4_countFlows_55 (c_X3_addN l D ai az al fN fA 168 Fi (c * 4 + i) (ST c - atF ST 42 (cd (nb c i))) (by decide) (by omega)) gX4_countFlows_X3_add rfl rfl ok_X3_add rfl rfl (by decide) ⟨by decide, by decide⟩ (Nat.le_of_ble_eq_true rfl) [7, 8] [0, 1, 2, 3, 4, 5, 6] ⟨rfl, by decide, rfl, by decide, by decide⟩ 0 rfl rfl rfl (fun u hp => ?_)
          refine g_sub (k := 0) (n := 0) (ws' := [(sa, .inr (4, [.ref g, .ref sl, .ref hN, .ref cN, .ref tN, .ref fN, .int sea, .int inall])), (g, .inr (2, [.ref L, .int wc])), (L, .inr (3, [.ref la])), (la, .inl (ai, 168, .inl Lf)), (sl, .inr (6, [.ref g, .ref pP, .ref sh, .ref st, .ref q0])), (st, .inr (3, [.ref sta])), (sta, .inl (ai, 42, .inl ST)), (fN, .inr (3, [.ref fA])), (fA, .inl (ai, 168, .inl (upd Fi (c * 4 + i) (Fi (c * 4 + i) + (ST c - atF ST 42 (cd (nb c i)))))))]) [0, 1, 2, 3, 4, 5, 6, 7, 8] (by decide) rfl ?_
          refine g_iinc (v := nI (i + 1)) (lv' := [(2, .int (nI (i + 1))), (3, .int (cd (nb c i))), (0, .ref sa), (1, .int (nI c))]) X dX4_countFlows_58 3 rfl (nI_inc _) (by decide) rfl ?_
          refine g_goto (tgt := 2) X dX4_countFlows_61 (by decide) ?_
          refine g_lv (lv' := [(0, .ref sa), (1, .int (nI c)), (2, .int (nI (i + 1)))]) [2, 3, 0] rfl ?_
          exact ih2 (i + 1) (upd Fi (c * 4 + i) (Fi (c * 4 + i) + (ST c - atF ST 42 (cd (nb c i))))) (by omega) (fun s hs => by by_cases e : s = i; (subst e; rw [upd_at, h2 _ (by omega), flI_of hT hc (hL c s hc (by omega)).2 (fun q => b20 ((cd_m2 (hL c s hc (by omega)).2).mpr q))]); (rw [upd_ne (by omega)]; exact h1 s (by omega))) (fun k hk => (upd_ne (by omega)).trans (h2 k (by omega))) (by omega)
  refine g_lv (lv' := [(0, .ref sa), (1, .int (nI c)), (2, .int (nI 0))]) [1, 2, 0] rfl ?_
  exact L2 5 0 Ff (by decide) (fun s hs => absurd hs (by omega)) (fun k _ => rfl) (by decide)

theorem ok_X4_settle : okName yX4_settle 0 := by decide +kernel
theorem in_X4_settle_X4 : ∀ w ∈ u_ws RX4 TX4 8, w ∈ wsX4_settle := by decide +kernel
theorem in_X4_settle_X6 : ∀ w ∈ u_ws RX6 TX6 5, w ∈ wsX4_settle := by decide +kernel
set_option maxRecDepth 100000 in
set_option maxHeartbeats 4000000 in
theorem c_X4_settle (l : Launch) (D : va_G) (ai az al : ClassId) (sa : Nat) (g : Nat) (sl : Nat) (hN : Nat) (cN : Nat) (tN : Nat) (fN : Nat) (sea : Int32) (inall : Int32) (pP : Nat) (sh : Nat) (st : Nat) (q0 : Nat) (L : Nat) (la : Nat) (Lf : Nat → Int32) (wc : Int32) (nb : Nat → Nat → Nat) (pa : Nat) (Pf : Nat → Int32) (pl : Nat → Bool) (sha : Nat) (SH : Nat → Int32) (sta : Nat) (ST : Nat → Int32) (r : Nat) (ra : Nat) (w : Nat) (wa : Nat) (fsI : Int32) (cntI : Int32) (Rr : Nat → Int32) (Wt : Nat → Int32) (hA : Nat) (Hf : Nat → Int32) (tA : Nat) (Tf : Nat → Int32) (fA : Nat) (Ff : Nat → Int32) (h : Nat → Nat) (hL : LeadsOK Lf nb) (hW : NW nb) (hC : Cn nb) (hP : POK Pf pl) (hH : HOK Hf h) (hn : sN h 42 ≤ 500) : CI l D (tY ai az al) yX4_settle wsX4_settle { frames := 5, cells := 0, slots := 0, locals := 112 } [.ref sa] [(sa, .inr (4, [.ref g, .ref sl, .ref hN, .ref cN, .ref tN, .ref fN, .int sea, .int inall])), (g, .inr (2, [.ref L, .int wc])), (L, .inr (3, [.ref la])), (la, .inl (ai, 168, .inl Lf)), (sl, .inr (6, [.ref g, .ref pP, .ref sh, .ref st, .ref q0])), (pP, .inr (3, [.ref pa])), (pa, .inl (ai, 42, .inl Pf)), (sh, .inr (3, [.ref sha])), (sha, .inl (ai, 42, .inl SH)), (st, .inr (3, [.ref sta])), (sta, .inl (ai, 42, .inl ST)), (q0, .inr (0, [.ref r, .ref w, .int fsI, .int cntI])), (r, .inr (3, [.ref ra])), (ra, .inl (ai, 42, .inl Rr)), (w, .inr (3, [.ref wa])), (wa, .inl (ai, 42, .inl Wt)), (hN, .inr (3, [.ref hA])), (hA, .inl (ai, 42, .inl Hf)), (tN, .inr (3, [.ref tA])), (tA, .inl (ai, 42, .inl Tf)), (fN, .inr (3, [.ref fA])), (fA, .inl (ai, 168, .inl Ff))] (fun (r : Int32) (u : (Nat → Int32) × (Nat → Int32) × (Nat → Int32) × Nat × Nat × (Nat → Int32) × (Nat → Int32) × (Nat → Nat) × (Nat → Nat)) => r = nI (sN u.2.2.2.2.2.2.2.2 42) ∧ Stl nb pl h u.2.2.2.2.2.2.2.1 u.2.2.2.2.2.2.2.2 ∧ HOK u.1 u.2.2.2.2.2.2.2.1 ∧ HOK u.2.2.1 u.2.2.2.2.2.2.2.2 ∧ FlowTo nb u.2.2.2.2.2.2.2.2 Ff u.2.1) (fun (u : (Nat → Int32) × (Nat → Int32) × (Nat → Int32) × Nat × Nat × (Nat → Int32) × (Nat → Int32) × (Nat → Nat) × (Nat → Nat)) => [(sa, .inr (4, [.ref g, .ref sl, .ref hN, .ref cN, .ref tN, .ref fN, .int (sea + nI (lostN nb u.2.2.2.2.2.2.2.2 6)), .int inall])), (g, .inr (2, [.ref L, .int wc])), (L, .inr (3, [.ref la])), (la, .inl (ai, 168, .inl Lf)), (sl, .inr (6, [.ref g, .ref pP, .ref sh, .ref st, .ref q0])), (pP, .inr (3, [.ref pa])), (pa, .inl (ai, 42, .inl Pf)), (sh, .inr (3, [.ref sha])), (sha, .inl (ai, 42, .inl u.1)), (st, .inr (3, [.ref sta])), (sta, .inl (ai, 42, .inl u.2.2.1)), (q0, .inr (0, [.ref r, .ref w, .int (nI u.2.2.2.1), .int (nI u.2.2.2.2.1)])), (r, .inr (3, [.ref ra])), (ra, .inl (ai, 42, .inl u.2.2.2.2.2.1)), (w, .inr (3, [.ref wa])), (wa, .inl (ai, 42, .inl u.2.2.2.2.2.2.1)), (hN, .inr (3, [.ref hA])), (hA, .inl (ai, 42, .inl u.1)), (tN, .inr (3, [.ref tA])), (tA, .inl (ai, 42, .inl (fun j => Tf j + u.2.2.1 j))), (fN, .inr (3, [.ref fA])), (fA, .inl (ai, 168, .inl u.2.1))]) := by
  refine ofG_I (cc := cX4_settle) (nL := 2) (lv0 := [(0, .ref sa)]) (by decide) rfl (Nat.le_of_ble_eq_true rfl) rfl ?_
  intro Γ X E
  refine g_aload_n X dX4_settle_0 rfl 0 rfl ?_
  refine g_getf (T := TX4) (v := .ref sl) X dX4_settle_1 0 rfl rfl in_X4_settle_X4 1 (by decide) (by decide +kernel) rfl rfl ?_
  refine g_aload_n X dX4_settle_4 rfl 0 rfl ?_
  refine g_getf (T := TX4) (v := .ref hN) X dX4_settle_5 0 rfl rfl in_X4_settle_X4 2 (by decide) (by decide +kernel) rfl rfl ?_
  refine g_callVv (C := RX6) (As := [.ref hN]) (rest := []) (wr := [(sa, .inr (4, [.ref g, .ref sl, .ref hN, .ref cN, .ref tN, .ref fN, .int sea, .int inall])), (g, .inr (2, [.ref L, .int wc])), (L, .inr (3, [.ref la])), (la, .inl (ai, 168, .inl Lf)), (pP, .inr (3, [.ref pa])), (pa, .inl (ai, 42, .inl Pf)), (q0, .inr (0, [.ref r, .ref w, .int fsI, .int cntI])), (r, .inr (3, [.ref ra])), (ra, .inl (ai, 42, .inl Rr)), (w, .inr (3, [.ref wa])), (wa, .inl (ai, 42, .inl Wt)), (tN, .inr (3, [.ref tA])), (tA, .inl (ai, 42, .inl Tf)), (fN, .inr (3, [.ref fA])), (fA, .inl (ai, 168, .inl Ff))]) X dX4_settle_8 (c_X6_start l D ai az al sl g pP sh st q0 sha SH sta ST hN hA Hf ) gX4_settle_X6_start rfl rfl ok_X6_start rfl rfl (by decide) ⟨by decide, by decide⟩ (Nat.le_of_ble_eq_true rfl) [4, 7, 8, 9, 10, 16, 17] [0, 1, 2, 3, 5, 6, 11, 12, 13, 14, 15, 18, 19, 20, 21] ⟨rfl, by decide, rfl, by decide, by decide⟩ 0 rfl rfl rfl (fun u hp => ?_)
  refine g_sub (k := 0) (n := 0) (ws' := [(sa, .inr (4, [.ref g, .ref sl, .ref hN, .ref cN, .ref tN, .ref fN, .int sea, .int inall])), (g, .inr (2, [.ref L, .int wc])), (L, .inr (3, [.ref la])), (la, .inl (ai, 168, .inl Lf)), (sl, .inr (6, [.ref g, .ref pP, .ref sh, .ref st, .ref q0])), (pP, .inr (3, [.ref pa])), (pa, .inl (ai, 42, .inl Pf)), (sh, .inr (3, [.ref sha])), (sha, .inl (ai, 42, .inl Hf)), (st, .inr (3, [.ref sta])), (sta, .inl (ai, 42, .inl (fun _ => 0))), (q0, .inr (0, [.ref r, .ref w, .int fsI, .int cntI])), (r, .inr (3, [.ref ra])), (ra, .inl (ai, 42, .inl Rr)), (w, .inr (3, [.ref wa])), (wa, .inl (ai, 42, .inl Wt)), (hN, .inr (3, [.ref hA])), (hA, .inl (ai, 42, .inl Hf)), (tN, .inr (3, [.ref tA])), (tA, .inl (ai, 42, .inl Tf)), (fN, .inr (3, [.ref fA])), (fA, .inl (ai, 168, .inl Ff))]) [0, 1, 2, 3, 15, 4, 5, 16, 17, 18, 19, 6, 7, 8, 9, 10, 20, 21, 11, 12, 13, 14] (by decide) rfl ?_
  refine g_aload_n X dX4_settle_11 rfl 0 rfl ?_
  refine g_getf (T := TX4) (v := .ref sl) X dX4_settle_12 0 rfl rfl in_X4_settle_X4 1 (by decide) (by decide +kernel) rfl rfl ?_
  refine g_callVv (C := RX6) (As := []) (rest := []) (wr := [(sa, .inr (4, [.ref g, .ref sl, .ref hN, .ref cN, .ref tN, .ref fN, .int sea, .int inall])), (hN, .inr (3, [.ref hA])), (hA, .inl (ai, 42, .inl Hf)), (tN, .inr (3, [.ref tA])), (tA, .inl (ai, 42, .inl Tf)), (fN, .inr (3, [.ref fA])), (fA, .inl (ai, 168, .inl Ff))]) X dX4_settle_15 (c_X6_settleByQueue l D ai az al sl g pP sh st q0 L la Lf wc nb pa Pf pl sha Hf h sta (fun _ => 0) r ra w wa fsI cntI Rr Wt (hL) (hW) (hC) (hP) (hH) (fun c _ => rfl) (hn)) gX4_settle_X6_settleByQueue rfl rfl ok_X6_settleByQueue rfl rfl (by decide) ⟨by decide, by decide⟩ (Nat.le_of_ble_eq_true rfl) [4, 1, 2, 3, 5, 6, 7, 8, 9, 10, 11, 12, 13, 14, 15] [0, 16, 17, 18, 19, 20, 21] ⟨rfl, by decide, rfl, by decide, by decide⟩ 0 rfl rfl rfl (fun u hp => ?_)
  obtain ⟨H5, T5, f5, c5, R5, W5, h5, u5⟩ := u
  try dsimp only at hp
  obtain ⟨hS5, hH5, hT5⟩ := hp
  refine g_sub (k := 0) (n := 0) (ws' := [(sa, .inr (4, [.ref g, .ref sl, .ref hN, .ref cN, .ref tN, .ref fN, .int sea, .int inall])), (g, .inr (2, [.ref L, .int wc])), (L, .inr (3, [.ref la])), (la, .inl (ai, 168, .inl Lf)), (sl, .inr (6, [.ref g, .ref pP, .ref sh, .ref st, .ref q0])), (pP, .inr (3, [.ref pa])), (pa, .inl (ai, 42, .inl Pf)), (sh, .inr (3, [.ref sha])), (sha, .inl (ai, 42, .inl H5)), (st, .inr (3, [.ref sta])), (sta, .inl (ai, 42, .inl T5)), (q0, .inr (0, [.ref r, .ref w, .int (nI f5), .int (nI c5)])), (r, .inr (3, [.ref ra])), (ra, .inl (ai, 42, .inl R5)), (w, .inr (3, [.ref wa])), (wa, .inl (ai, 42, .inl W5)), (hN, .inr (3, [.ref hA])), (hA, .inl (ai, 42, .inl Hf)), (tN, .inr (3, [.ref tA])), (tA, .inl (ai, 42, .inl Tf)), (fN, .inr (3, [.ref fA])), (fA, .inl (ai, 168, .inl Ff))]) [0, 8, 9, 10, 7, 11, 12, 13, 14, 15, 16, 17, 18, 19, 20, 21, 1, 2, 3, 4, 5, 6] (by decide) rfl ?_
  refine g_aload_n X dX4_settle_18 rfl 0 rfl ?_
  refine g_getf (T := TX4) (v := .ref hN) X dX4_settle_19 0 rfl rfl in_X4_settle_X4 2 (by decide) (by decide +kernel) rfl rfl ?_
  refine g_aload_n X dX4_settle_22 rfl 0 rfl ?_
  refine g_getf (T := TX4) (v := .ref sl) X dX4_settle_23 0 rfl rfl in_X4_settle_X4 1 (by decide) (by decide +kernel) rfl rfl ?_
  refine g_getfN (T := TX6) (v := .ref sh) X dX4_settle_26 4 rfl rfl in_X4_settle_X6 2 (by decide) 13 rfl rfl rfl ?_
  refine g_callVv (C := RX3) (As := [.ref sh]) (rest := []) (wr := [(sa, .inr (4, [.ref g, .ref sl, .ref hN, .ref cN, .ref tN, .ref fN, .int sea, .int inall])), (g, .inr (2, [.ref L, .int wc])), (L, .inr (3, [.ref la])), (la, .inl (ai, 168, .inl Lf)), (sl, .inr (6, [.ref g, .ref pP, .ref sh, .ref st, .ref q0])), (pP, .inr (3, [.ref pa])), (pa, .inl (ai, 42, .inl Pf)), (st, .inr (3, [.ref sta])), (sta, .inl (ai, 42, .inl T5)), (q0, .inr (0, [.ref r, .ref w, .int (nI f5), .int (nI c5)])), (r, .inr (3, [.ref ra])), (ra, .inl (ai, 42, .inl R5)), (w, .inr (3, [.ref wa])), (wa, .inl (ai, 42, .inl W5)), (tN, .inr (3, [.ref tA])), (tA, .inl (ai, 42, .inl Tf)), (fN, .inr (3, [.ref fA])), (fA, .inl (ai, 168, .inl Ff))]) X dX4_settle_29 (c_X3_copyFrom l D ai az al hN hA 42 Hf sh sha H5 (by decide)) gX4_settle_X3_copyFrom rfl rfl ok_X3_copyFrom rfl rfl (by decide) ⟨by decide, by decide⟩ (Nat.le_of_ble_eq_true rfl) [16, 17, 7, 8] [0, 1, 2, 3, 4, 5, 6, 9, 10, 11, 12, 13, 14, 15, 18, 19, 20, 21] ⟨rfl, by decide, rfl, by decide, by decide⟩ 0 rfl rfl rfl (fun u hp => ?_)
  refine g_sub (k := 0) (n := 0) (ws' := [(sa, .inr (4, [.ref g, .ref sl, .ref hN, .ref cN, .ref tN, .ref fN, .int sea, .int inall])), (g, .inr (2, [.ref L, .int wc])), (L, .inr (3, [.ref la])), (la, .inl (ai, 168, .inl Lf)), (sl, .inr (6, [.ref g, .ref pP, .ref sh, .ref st, .ref q0])), (pP, .inr (3, [.ref pa])), (pa, .inl (ai, 42, .inl Pf)), (sh, .inr (3, [.ref sha])), (sha, .inl (ai, 42, .inl H5)), (st, .inr (3, [.ref sta])), (sta, .inl (ai, 42, .inl T5)), (q0, .inr (0, [.ref r, .ref w, .int (nI f5), .int (nI c5)])), (r, .inr (3, [.ref ra])), (ra, .inl (ai, 42, .inl R5)), (w, .inr (3, [.ref wa])), (wa, .inl (ai, 42, .inl W5)), (hN, .inr (3, [.ref hA])), (hA, .inl (ai, 42, .inl H5)), (tN, .inr (3, [.ref tA])), (tA, .inl (ai, 42, .inl Tf)), (fN, .inr (3, [.ref fA])), (fA, .inl (ai, 168, .inl Ff))]) [0, 1, 2, 3, 4, 5, 6, 20, 21, 7, 8, 9, 10, 11, 12, 13, 18, 19, 14, 15, 16, 17] (by decide) rfl ?_
  refine g_aload_n X dX4_settle_32 rfl 0 rfl ?_
  refine g_getf (T := TX4) (v := .ref tN) X dX4_settle_33 0 rfl rfl in_X4_settle_X4 4 (by decide) (by decide +kernel) rfl rfl ?_
  refine g_aload_n X dX4_settle_36 rfl 0 rfl ?_
  refine g_getf (T := TX4) (v := .ref sl) X dX4_settle_37 0 rfl rfl in_X4_settle_X4 1 (by decide) (by decide +kernel) rfl rfl ?_
  refine g_getfN (T := TX6) (v := .ref st) X dX4_settle_40 4 rfl rfl in_X4_settle_X6 3 (by decide) 14 rfl rfl rfl ?_
  refine g_callVv (C := RX3) (As := [.ref st]) (rest := []) (wr := [(sa, .inr (4, [.ref g, .ref sl, .ref hN, .ref cN, .ref tN, .ref fN, .int sea, .int inall])), (g, .inr (2, [.ref L, .int wc])), (L, .inr (3, [.ref la])), (la, .inl (ai, 168, .inl Lf)), (sl, .inr (6, [.ref g, .ref pP, .ref sh, .ref st, .ref q0])), (pP, .inr (3, [.ref pa])), (pa, .inl (ai, 42, .inl Pf)), (sh, .inr (3, [.ref sha])), (sha, .inl (ai, 42, .inl H5)), (q0, .inr (0, [.ref r, .ref w, .int (nI f5), .int (nI c5)])), (r, .inr (3, [.ref ra])), (ra, .inl (ai, 42, .inl R5)), (w, .inr (3, [.ref wa])), (wa, .inl (ai, 42, .inl W5)), (hN, .inr (3, [.ref hA])), (hA, .inl (ai, 42, .inl H5)), (fN, .inr (3, [.ref fA])), (fA, .inl (ai, 168, .inl Ff))]) X dX4_settle_43 (c_X3_addAll l D ai az al tN tA 42 Tf st sta T5 (by decide)) gX4_settle_X3_addAll rfl rfl ok_X3_addAll rfl rfl (by decide) ⟨by decide, by decide⟩ (Nat.le_of_ble_eq_true rfl) [18, 19, 9, 10] [0, 1, 2, 3, 4, 5, 6, 7, 8, 11, 12, 13, 14, 15, 16, 17, 20, 21] ⟨rfl, by decide, rfl, by decide, by decide⟩ 0 rfl rfl rfl (fun u hp => ?_)
  refine g_sub (k := 0) (n := 0) (ws' := [(sa, .inr (4, [.ref g, .ref sl, .ref hN, .ref cN, .ref tN, .ref fN, .int sea, .int inall])), (g, .inr (2, [.ref L, .int wc])), (L, .inr (3, [.ref la])), (la, .inl (ai, 168, .inl Lf)), (sl, .inr (6, [.ref g, .ref pP, .ref sh, .ref st, .ref q0])), (pP, .inr (3, [.ref pa])), (pa, .inl (ai, 42, .inl Pf)), (sh, .inr (3, [.ref sha])), (sha, .inl (ai, 42, .inl H5)), (st, .inr (3, [.ref sta])), (sta, .inl (ai, 42, .inl T5)), (q0, .inr (0, [.ref r, .ref w, .int (nI f5), .int (nI c5)])), (r, .inr (3, [.ref ra])), (ra, .inl (ai, 42, .inl R5)), (w, .inr (3, [.ref wa])), (wa, .inl (ai, 42, .inl W5)), (hN, .inr (3, [.ref hA])), (hA, .inl (ai, 42, .inl H5)), (tN, .inr (3, [.ref tA])), (tA, .inl (ai, 42, .inl (fun j => Tf j + T5 j))), (fN, .inr (3, [.ref fA])), (fA, .inl (ai, 168, .inl Ff))]) [0, 1, 2, 3, 4, 5, 6, 7, 8, 20, 21, 9, 10, 11, 12, 13, 14, 15, 18, 19, 16, 17] (by decide) rfl ?_
  refine g_aload_n X dX4_settle_46 rfl 0 rfl ?_
  refine g_dup X dX4_settle_47 rfl ?_
  refine g_getf (T := TX4) (v := .int sea) X dX4_settle_48 0 rfl rfl in_X4_settle_X4 6 (by decide) (by decide +kernel) rfl rfl ?_
  refine g_aload_n X dX4_settle_51 rfl 0 rfl ?_
  refine g_getf (T := TX4) (v := .ref sl) X dX4_settle_52 0 rfl rfl in_X4_settle_X4 1 (by decide) (by decide +kernel) rfl rfl ?_
  refine g_callVi (C := RX6) (As := []) (rest := [.int sea, .ref sa]) (wr := [(sa, .inr (4, [.ref g, .ref sl, .ref hN, .ref cN, .ref tN, .ref fN, .int sea, .int inall])), (pP, .inr (3, [.ref pa])), (pa, .inl (ai, 42, .inl Pf)), (sh, .inr (3, [.ref sha])), (sha, .inl (ai, 42, .inl H5)), (q0, .inr (0, [.ref r, .ref w, .int (nI f5), .int (nI c5)])), (r, .inr (3, [.ref ra])), (ra, .inl (ai, 42, .inl R5)), (w, .inr (3, [.ref wa])), (wa, .inl (ai, 42, .inl W5)), (hN, .inr (3, [.ref hA])), (hA, .inl (ai, 42, .inl H5)), (tN, .inr (3, [.ref tA])), (tA, .inl (ai, 42, .inl (fun j => Tf j + T5 j))), (fN, .inr (3, [.ref fA])), (fA, .inl (ai, 168, .inl Ff))]) X dX4_settle_55 (c_X6_lostGrains l D ai az al sl g pP sh st q0 L la Lf wc nb sta T5 u5 (hL) (hT5)) gX4_settle_X6_lostGrains rfl rfl ok_X6_lostGrains rfl rfl (by decide) ⟨by decide, by decide⟩ (Nat.le_of_ble_eq_true rfl) [4, 1, 2, 3, 9, 10] [0, 5, 6, 7, 8, 11, 12, 13, 14, 15, 16, 17, 18, 19, 20, 21] ⟨rfl, by decide, rfl, by decide, by decide⟩ 0 rfl rfl rfl (fun r1 u hp => ?_)
  obtain rfl := hp
  refine g_sub (k := 0) (n := 0) (ws' := [(sa, .inr (4, [.ref g, .ref sl, .ref hN, .ref cN, .ref tN, .ref fN, .int sea, .int inall])), (g, .inr (2, [.ref L, .int wc])), (L, .inr (3, [.ref la])), (la, .inl (ai, 168, .inl Lf)), (sl, .inr (6, [.ref g, .ref pP, .ref sh, .ref st, .ref q0])), (pP, .inr (3, [.ref pa])), (pa, .inl (ai, 42, .inl Pf)), (sh, .inr (3, [.ref sha])), (sha, .inl (ai, 42, .inl H5)), (st, .inr (3, [.ref sta])), (sta, .inl (ai, 42, .inl T5)), (q0, .inr (0, [.ref r, .ref w, .int (nI f5), .int (nI c5)])), (r, .inr (3, [.ref ra])), (ra, .inl (ai, 42, .inl R5)), (w, .inr (3, [.ref wa])), (wa, .inl (ai, 42, .inl W5)), (hN, .inr (3, [.ref hA])), (hA, .inl (ai, 42, .inl H5)), (tN, .inr (3, [.ref tA])), (tA, .inl (ai, 42, .inl (fun j => Tf j + T5 j))), (fN, .inr (3, [.ref fA])), (fA, .inl (ai, 168, .inl Ff))]) [0, 17, 18, 19, 16, 1, 2, 3, 4, 20, 21, 5, 6, 7, 8, 9, 10, 11, 12, 13, 14, 15] (by decide) rfl ?_
  refine g_iadd (v := (sea + nI (lostN nb u5 6))) X dX4_settle_58 (rfl) ?_
  refine g_putf (T := TX4) (v := .int (sea + nI (lostN nb u5 6))) (ty := tyX4 6) (ws' := [(sa, .inr (4, [.ref g, .ref sl, .ref hN, .ref cN, .ref tN, .ref fN, .int (sea + nI (lostN nb u5 6)), .int inall])), (g, .inr (2, [.ref L, .int wc])), (L, .inr (3, [.ref la])), (la, .inl (ai, 168, .inl Lf)), (sl, .inr (6, [.ref g, .ref pP, .ref sh, .ref st, .ref q0])), (pP, .inr (3, [.ref pa])), (pa, .inl (ai, 42, .inl Pf)), (sh, .inr (3, [.ref sha])), (sha, .inl (ai, 42, .inl H5)), (st, .inr (3, [.ref sta])), (sta, .inl (ai, 42, .inl T5)), (q0, .inr (0, [.ref r, .ref w, .int (nI f5), .int (nI c5)])), (r, .inr (3, [.ref ra])), (ra, .inl (ai, 42, .inl R5)), (w, .inr (3, [.ref wa])), (wa, .inl (ai, 42, .inl W5)), (hN, .inr (3, [.ref hA])), (hA, .inl (ai, 42, .inl H5)), (tN, .inr (3, [.ref tA])), (tA, .inl (ai, 42, .inl (fun j => Tf j + T5 j))), (fN, .inr (3, [.ref fA])), (fA, .inl (ai, 168, .inl Ff))]) X dX4_settle_59 0 rfl rfl in_X4_settle_X4 tyX4 tyX4_ok nmX4 6 (by decide) (by decide +kernel) rfl rfl (by decide +kernel) rfl rfl (Nat.le_of_ble_eq_true rfl) rfl ?_
  refine g_iconst (v := nI 0) X dX4_settle_62 (by decide) ?_
  refine g_istore_n (lv' := [(1, .int (nI 0)), (0, .ref sa)]) X dX4_settle_63 rfl (by decide) rfl ?_
  have L64 : ∀ (fl : Nat) (i : Nat) (Fi : Nat → Int32), (i ≤ 42) → (∀ c s, c < i → s < 4 → Fi (c * 4 + s) = Ff (c * 4 + s) + flI nb u5 c s) → (∀ k, i * 4 ≤ k → Fi k = Ff k) → (43 ≤ i + fl) → G Γ 2 0 0 [(sa, .inr (4, [.ref g, .ref sl, .ref hN, .ref cN, .ref tN, .ref fN, .int (sea + nI (lostN nb u5 6)), .int inall])), (g, .inr (2, [.ref L, .int wc])), (L, .inr (3, [.ref la])), (la, .inl (ai, 168, .inl Lf)), (sl, .inr (6, [.ref g, .ref pP, .ref sh, .ref st, .ref q0])), (pP, .inr (3, [.ref pa])), (pa, .inl (ai, 42, .inl Pf)), (sh, .inr (3, [.ref sha])), (sha, .inl (ai, 42, .inl H5)), (st, .inr (3, [.ref sta])), (sta, .inl (ai, 42, .inl T5)), (q0, .inr (0, [.ref r, .ref w, .int (nI f5), .int (nI c5)])), (r, .inr (3, [.ref ra])), (ra, .inl (ai, 42, .inl R5)), (w, .inr (3, [.ref wa])), (wa, .inl (ai, 42, .inl W5)), (hN, .inr (3, [.ref hA])), (hA, .inl (ai, 42, .inl H5)), (tN, .inr (3, [.ref tA])), (tA, .inl (ai, 42, .inl (fun j => Tf j + T5 j))), (fN, .inr (3, [.ref fA])), (fA, .inl (ai, 168, .inl Fi))] [(0, .ref sa), (1, .int (nI i))] 64 [] := by
    intro fl
    induction fl with
    | zero => intro i Fi hi h1 h2 hm; exact absurd hm (by omega)
    | succ fl ih64 =>
      intro i Fi hi h1 h2 hm
      refine g_iload_n X dX4_settle_64 rfl 1 rfl ?_
      refine g_bipush (v := nI 42) X dX4_settle_65 (by decide) ?_
      refine g_icmp_geN (tgt := 81) X dX4_settle_67 (by decide) (by omega) (by omega) (fun b67 => ?_) (fun b67 => ?_)
      · refine g_aload_n X dX4_settle_81 rfl 0 rfl ?_
        refine g_getf (T := TX4) (v := .ref sl) X dX4_settle_82 0 rfl rfl in_X4_settle_X4 1 (by decide) (by decide +kernel) rfl rfl ?_
        refine g_getfN (T := TX6) (v := .ref st) X dX4_settle_85 4 rfl rfl in_X4_settle_X6 3 (by decide) 14 rfl rfl rfl ?_
        refine g_callVi (C := RX3) (As := []) (rest := []) (wr := [(sa, .inr (4, [.ref g, .ref sl, .ref hN, .ref cN, .ref tN, .ref fN, .int (sea + nI (lostN nb u5 6)), .int inall])), (g, .inr (2, [.ref L, .int wc])), (L, .inr (3, [.ref la])), (la, .inl (ai, 168, .inl Lf)), (sl, .inr (6, [.ref g, .ref pP, .ref sh, .ref st, .ref q0])), (pP, .inr (3, [.ref pa])), (pa, .inl (ai, 42, .inl Pf)), (sh, .inr (3, [.ref sha])), (sha, .inl (ai, 42, .inl H5)), (q0, .inr (0, [.ref r, .ref w, .int (nI f5), .int (nI c5)])), (r, .inr (3, [.ref ra])), (ra, .inl (ai, 42, .inl R5)), (w, .inr (3, [.ref wa])), (wa, .inl (ai, 42, .inl W5)), (hN, .inr (3, [.ref hA])), (hA, .inl (ai, 42, .inl H5)), (tN, .inr (3, [.ref tA])), (tA, .inl (ai, 42, .inl (fun j => Tf j + T5 j))), (fN, .inr (3, [.ref fA])), (fA, .inl (ai, 168, .inl Fi))]) X dX4_settle_88 (c_X3_total l D ai az al st sta 42 T5 (by decide)) gX4_settle_X3_total rfl rfl ok_X3_total rfl rfl (by decide) ⟨by decide, by decide⟩ (Nat.le_of_ble_eq_true rfl) [9, 10] [0, 1, 2, 3, 4, 5, 6, 7, 8, 11, 12, 13, 14, 15, 16, 17, 18, 19, 20, 21] ⟨rfl, by decide, rfl, by decide, by decide⟩ 0 rfl rfl rfl (fun r2 u hp => ?_)
        obtain rfl := hp
        refine g_sub (k := 0) (n := 0) (ws' := [(sa, .inr (4, [.ref g, .ref sl, .ref hN, .ref cN, .ref tN, .ref fN, .int (sea + nI (lostN nb u5 6)), .int inall])), (g, .inr (2, [.ref L, .int wc])), (L, .inr (3, [.ref la])), (la, .inl (ai, 168, .inl Lf)), (sl, .inr (6, [.ref g, .ref pP, .ref sh, .ref st, .ref q0])), (pP, .inr (3, [.ref pa])), (pa, .inl (ai, 42, .inl Pf)), (sh, .inr (3, [.ref sha])), (sha, .inl (ai, 42, .inl H5)), (st, .inr (3, [.ref sta])), (sta, .inl (ai, 42, .inl T5)), (q0, .inr (0, [.ref r, .ref w, .int (nI f5), .int (nI c5)])), (r, .inr (3, [.ref ra])), (ra, .inl (ai, 42, .inl R5)), (w, .inr (3, [.ref wa])), (wa, .inl (ai, 42, .inl W5)), (hN, .inr (3, [.ref hA])), (hA, .inl (ai, 42, .inl H5)), (tN, .inr (3, [.ref tA])), (tA, .inl (ai, 42, .inl (fun j => Tf j + T5 j))), (fN, .inr (3, [.ref fA])), (fA, .inl (ai, 168, .inl Fi))]) [0, 1, 2, 3, 4, 5, 6, 7, 8, 20, 21, 9, 10, 11, 12, 13, 14, 15, 16, 17, 18, 19] (by decide) rfl ?_
        exact g_iret X E dX4_settle_91 (⟨H5, Fi, T5, f5, c5, R5, W5, h5, u5⟩) rfl (by decide) (by decide) (⟨sumI_N hT5, hS5, hH5, hT5, fun c s hc hs => h1 c s (by omega) hs⟩)
      · refine g_aload_n X dX4_settle_70 rfl 0 rfl ?_
        refine g_iload_n X dX4_settle_71 rfl 1 rfl ?_
        refine g_callVv (C := RX4) (As := [.int (nI i)]) (rest := []) (wr := [(pP, .inr (3, [.ref pa])), (pa, .inl (ai, 42, .inl Pf)), (sh, .inr (3, [.ref sha])), (sha, .inl (ai, 42, .inl H5)), (q0, .inr (0, [.ref r, .ref w, .int (nI f5), .int (nI c5)])), (r, .inr (3, [.ref ra])), (ra, .inl (ai, 42, .inl R5)), (w, .inr (3, [.ref wa])), (wa, .inl (ai, 42, .inl W5)), (hN, .inr (3, [.ref hA])), (hA, .inl (ai, 42, .inl H5)), (tN, .inr (3, [.ref tA])), (tA, .inl (ai, 42, .inl (fun j => Tf j + T5 j)))]) X dX4_settle_72 (c_X4_countFlows l D ai az al sa g sl hN cN tN fN (sea + nI (lostN nb u5 6)) inall pP sh st q0 L la Lf wc nb sta T5 fA Fi u5 i (by omega) (hL) (hT5)) gX4_settle_X4_countFlows rfl rfl ok_X4_countFlows rfl rfl (by decide) ⟨by decide, by decide⟩ (Nat.le_of_ble_eq_true rfl) [0, 1, 2, 3, 4, 9, 10, 20, 21] [5, 6, 7, 8, 11, 12, 13, 14, 15, 16, 17, 18, 19] ⟨rfl, by decide, rfl, by decide, by decide⟩ 0 rfl rfl rfl (fun F23 hp => ?_)
        try dsimp only at hp
        obtain ⟨ha, hb⟩ := hp
        refine g_sub (k := 0) (n := 0) (ws' := [(sa, .inr (4, [.ref g, .ref sl, .ref hN, .ref cN, .ref tN, .ref fN, .int (sea + nI (lostN nb u5 6)), .int inall])), (g, .inr (2, [.ref L, .int wc])), (L, .inr (3, [.ref la])), (la, .inl (ai, 168, .inl Lf)), (sl, .inr (6, [.ref g, .ref pP, .ref sh, .ref st, .ref q0])), (pP, .inr (3, [.ref pa])), (pa, .inl (ai, 42, .inl Pf)), (sh, .inr (3, [.ref sha])), (sha, .inl (ai, 42, .inl H5)), (st, .inr (3, [.ref sta])), (sta, .inl (ai, 42, .inl T5)), (q0, .inr (0, [.ref r, .ref w, .int (nI f5), .int (nI c5)])), (r, .inr (3, [.ref ra])), (ra, .inl (ai, 42, .inl R5)), (w, .inr (3, [.ref wa])), (wa, .inl (ai, 42, .inl W5)), (hN, .inr (3, [.ref hA])), (hA, .inl (ai, 42, .inl H5)), (tN, .inr (3, [.ref tA])), (tA, .inl (ai, 42, .inl (fun j => Tf j + T5 j))), (fN, .inr (3, [.ref fA])), (fA, .inl (ai, 168, .inl F23))]) [13, 14, 15, 16, 17, 0, 1, 2, 3, 18, 19, 4, 5, 6, 7, 8, 9, 10, 11, 12, 20, 21] (by decide) rfl ?_
        refine g_iinc (v := nI (i + 1)) (lv' := [(1, .int (nI (i + 1))), (0, .ref sa)]) X dX4_settle_75 1 rfl (nI_inc _) (by decide) rfl ?_
        refine g_goto (tgt := 64) X dX4_settle_78 (by decide) ?_
        refine g_lv (lv' := [(0, .ref sa), (1, .int (nI (i + 1)))]) [1, 0] rfl ?_
        exact ih64 (i + 1) F23 (by omega) (fun c s hc hs => by by_cases e : c = i; (subst e; rw [ha s hs, h2 _ (by omega)]); (rw [hb _ (by omega)]; exact h1 c s (by omega) hs)) (fun k hk => (hb k (by omega)).trans (h2 k (by omega))) (by omega)
  refine g_lv (lv' := [(0, .ref sa), (1, .int (nI 0))]) [1, 0] rfl ?_
  exact L64 43 0 Ff (by decide) (fun c s hs => absurd hs (by omega)) (fun k _ => rfl) (by decide)

theorem ok_X4_init : okName yX4_init 2 := by decide +kernel
theorem in_X4_init_X3 : ∀ w ∈ u_ws RX3 TX3 1, w ∈ wsX4_init := by decide +kernel
theorem in_X4_init_X4 : ∀ w ∈ u_ws RX4 TX4 8, w ∈ wsX4_init := by decide +kernel
set_option maxRecDepth 100000 in
set_option maxHeartbeats 4000000 in
theorem c_X4_init (l : Launch) (D : va_G) (ai az al : ClassId) (sa : Nat) (g : Nat) (sl : Nat) : CV l D (tY ai az al) yX4_init wsX4_init { frames := 2, cells := 8, slots := 298, locals := 41 } [.ref sa, .ref g, .ref sl] [(sa, .inr (4, [.null, .null, .null, .null, .null, .null, .int (nI 0), .int (nI 0)]))] (fun (u : Nat × Nat × Nat × Nat × Nat × Nat × Nat × Nat) => True) (fun (u : Nat × Nat × Nat × Nat × Nat × Nat × Nat × Nat) => [(sa, .inr (4, [.ref g, .ref sl, .ref u.1, .ref u.2.1, .ref u.2.2.1, .ref u.2.2.2.1, .int (nI 0), .int (nI 0)])), (u.1, .inr (3, [.ref u.2.2.2.2.1])), (u.2.2.2.2.1, .inl (ai, 42, .inl (fun _ => 0))), (u.2.1, .inr (3, [.ref u.2.2.2.2.2.1])), (u.2.2.2.2.2.1, .inl (ai, 42, .inl (fun _ => 0))), (u.2.2.1, .inr (3, [.ref u.2.2.2.2.2.2.1])), (u.2.2.2.2.2.2.1, .inl (ai, 42, .inl (fun _ => 0))), (u.2.2.2.1, .inr (3, [.ref u.2.2.2.2.2.2.2])), (u.2.2.2.2.2.2.2, .inl (ai, 168, .inl (fun _ => 0)))]) := by
  refine ofG_V (cc := cX4_init) (nL := 3) (lv0 := [(0, .ref sa), (1, .ref g), (2, .ref sl)]) (by decide) rfl (Nat.le_of_ble_eq_true rfl) rfl ?_
  intro Γ X E hinit
  have hinit := hinit rfl
  refine g_aload_n X dX4_init_0 rfl 0 rfl ?_
  refine g_objInit X dX4_init_1 (by decide +kernel) (by decide +kernel) (by decide +kernel) (by decide) (by decide) ?_
  refine g_aload_n X dX4_init_4 rfl 0 rfl ?_
  refine g_new (T := TX3) (ci := 3) (fs := [.null]) X dX4_init_5 rfl in_X4_init_X3 tyX3 tyX3_ok (by decide +kernel) (by decide +kernel) (by decide +kernel) (by intro j hj; exact fs_X3 j hj) (by decide) (by decide) (fun q1 => ?_)
  refine g_sub (k := 1) (n := 1) (ws' := [(sa, .inr (4, [.null, .null, .null, .null, .null, .null, .int (nI 0), .int (nI 0)])), (q1, .inr (3, [.null]))]) [0, 1] (by decide) rfl ?_
  refine g_dup X dX4_init_8 rfl ?_
  refine g_bipush (v := nI 42) X dX4_init_9 (by decide) ?_
  refine g_callI (As := [.int (nI 42)]) (rest := [.ref q1, .ref sa]) (wr := [(sa, .inr (4, [.null, .null, .null, .null, .null, .null, .int (nI 0), .int (nI 0)]))]) X dX4_init_11 (c_X3_init42 l D ai az al q1 ) gX4_init_X3_init rfl (by decide +kernel) (by decide +kernel) (by decide +kernel) rfl ok_X3_init rfl rfl (by decide) ⟨by decide, by decide⟩ (Nat.le_of_ble_eq_true rfl) [1] [0] ⟨rfl, by decide, rfl, by decide, by decide⟩ (fun a2 hp => ?_)
  refine g_sub (k := 2) (n := 43) (ws' := [(sa, .inr (4, [.null, .null, .null, .null, .null, .null, .int (nI 0), .int (nI 0)])), (q1, .inr (3, [.ref a2])), (a2, .inl (ai, 42, .inl (fun _ => 0)))]) [0, 1, 2] (by decide) rfl ?_
  refine g_putfF (T := TX4) (v := .ref q1) (ty := tyX4 2) (ws' := [(sa, .inr (4, [.null, .null, .ref q1, .null, .null, .null, .int (nI 0), .int (nI 0)])), (q1, .inr (3, [.ref a2])), (a2, .inl (ai, 42, .inl (fun _ => 0)))]) X dX4_init_14 0 rfl rfl in_X4_init_X4 tyX4 tyX4_ok nmX4 2 (by decide) (by decide +kernel) rfl rfl hinit rfl (by decide +kernel) rfl rfl (Nat.le_of_ble_eq_true rfl) rfl ?_
  refine g_aload_n X dX4_init_17 rfl 0 rfl ?_
  refine g_new (T := TX3) (ci := 3) (fs := [.null]) X dX4_init_18 rfl in_X4_init_X3 tyX3 tyX3_ok (by decide +kernel) (by decide +kernel) (by decide +kernel) (by intro j hj; exact fs_X3 j hj) (by decide) (by decide) (fun q3 => ?_)
  refine g_sub (k := 3) (n := 44) (ws' := [(sa, .inr (4, [.null, .null, .ref q1, .null, .null, .null, .int (nI 0), .int (nI 0)])), (q1, .inr (3, [.ref a2])), (a2, .inl (ai, 42, .inl (fun _ => 0))), (q3, .inr (3, [.null]))]) [0, 1, 2, 3] (by decide) rfl ?_
  refine g_dup X dX4_init_21 rfl ?_
  refine g_bipush (v := nI 42) X dX4_init_22 (by decide) ?_
  refine g_callI (As := [.int (nI 42)]) (rest := [.ref q3, .ref sa]) (wr := [(sa, .inr (4, [.null, .null, .ref q1, .null, .null, .null, .int (nI 0), .int (nI 0)])), (q1, .inr (3, [.ref a2])), (a2, .inl (ai, 42, .inl (fun _ => 0)))]) X dX4_init_24 (c_X3_init42 l D ai az al q3 ) gX4_init_X3_init rfl (by decide +kernel) (by decide +kernel) (by decide +kernel) rfl ok_X3_init rfl rfl (by decide) ⟨by decide, by decide⟩ (Nat.le_of_ble_eq_true rfl) [3] [0, 1, 2] ⟨rfl, by decide, rfl, by decide, by decide⟩ (fun a4 hp => ?_)
  refine g_sub (k := 4) (n := 86) (ws' := [(sa, .inr (4, [.null, .null, .ref q1, .null, .null, .null, .int (nI 0), .int (nI 0)])), (q1, .inr (3, [.ref a2])), (a2, .inl (ai, 42, .inl (fun _ => 0))), (q3, .inr (3, [.ref a4])), (a4, .inl (ai, 42, .inl (fun _ => 0)))]) [0, 1, 2, 3, 4] (by decide) rfl ?_
  refine g_putfF (T := TX4) (v := .ref q3) (ty := tyX4 3) (ws' := [(sa, .inr (4, [.null, .null, .ref q1, .ref q3, .null, .null, .int (nI 0), .int (nI 0)])), (q1, .inr (3, [.ref a2])), (a2, .inl (ai, 42, .inl (fun _ => 0))), (q3, .inr (3, [.ref a4])), (a4, .inl (ai, 42, .inl (fun _ => 0)))]) X dX4_init_27 0 rfl rfl in_X4_init_X4 tyX4 tyX4_ok nmX4 3 (by decide) (by decide +kernel) rfl rfl hinit rfl (by decide +kernel) rfl rfl (Nat.le_of_ble_eq_true rfl) rfl ?_
  refine g_aload_n X dX4_init_30 rfl 0 rfl ?_
  refine g_new (T := TX3) (ci := 3) (fs := [.null]) X dX4_init_31 rfl in_X4_init_X3 tyX3 tyX3_ok (by decide +kernel) (by decide +kernel) (by decide +kernel) (by intro j hj; exact fs_X3 j hj) (by decide) (by decide) (fun q5 => ?_)
  refine g_sub (k := 5) (n := 87) (ws' := [(sa, .inr (4, [.null, .null, .ref q1, .ref q3, .null, .null, .int (nI 0), .int (nI 0)])), (q1, .inr (3, [.ref a2])), (a2, .inl (ai, 42, .inl (fun _ => 0))), (q3, .inr (3, [.ref a4])), (a4, .inl (ai, 42, .inl (fun _ => 0))), (q5, .inr (3, [.null]))]) [0, 1, 2, 3, 4, 5] (by decide) rfl ?_
  refine g_dup X dX4_init_34 rfl ?_
  refine g_bipush (v := nI 42) X dX4_init_35 (by decide) ?_
  refine g_callI (As := [.int (nI 42)]) (rest := [.ref q5, .ref sa]) (wr := [(sa, .inr (4, [.null, .null, .ref q1, .ref q3, .null, .null, .int (nI 0), .int (nI 0)])), (q1, .inr (3, [.ref a2])), (a2, .inl (ai, 42, .inl (fun _ => 0))), (q3, .inr (3, [.ref a4])), (a4, .inl (ai, 42, .inl (fun _ => 0)))]) X dX4_init_37 (c_X3_init42 l D ai az al q5 ) gX4_init_X3_init rfl (by decide +kernel) (by decide +kernel) (by decide +kernel) rfl ok_X3_init rfl rfl (by decide) ⟨by decide, by decide⟩ (Nat.le_of_ble_eq_true rfl) [5] [0, 1, 2, 3, 4] ⟨rfl, by decide, rfl, by decide, by decide⟩ (fun a6 hp => ?_)
  refine g_sub (k := 6) (n := 129) (ws' := [(sa, .inr (4, [.null, .null, .ref q1, .ref q3, .null, .null, .int (nI 0), .int (nI 0)])), (q1, .inr (3, [.ref a2])), (a2, .inl (ai, 42, .inl (fun _ => 0))), (q3, .inr (3, [.ref a4])), (a4, .inl (ai, 42, .inl (fun _ => 0))), (q5, .inr (3, [.ref a6])), (a6, .inl (ai, 42, .inl (fun _ => 0)))]) [0, 1, 2, 3, 4, 5, 6] (by decide) rfl ?_
  refine g_putfF (T := TX4) (v := .ref q5) (ty := tyX4 4) (ws' := [(sa, .inr (4, [.null, .null, .ref q1, .ref q3, .ref q5, .null, .int (nI 0), .int (nI 0)])), (q1, .inr (3, [.ref a2])), (a2, .inl (ai, 42, .inl (fun _ => 0))), (q3, .inr (3, [.ref a4])), (a4, .inl (ai, 42, .inl (fun _ => 0))), (q5, .inr (3, [.ref a6])), (a6, .inl (ai, 42, .inl (fun _ => 0)))]) X dX4_init_40 0 rfl rfl in_X4_init_X4 tyX4 tyX4_ok nmX4 4 (by decide) (by decide +kernel) rfl rfl hinit rfl (by decide +kernel) rfl rfl (Nat.le_of_ble_eq_true rfl) rfl ?_
  refine g_aload_n X dX4_init_43 rfl 0 rfl ?_
  refine g_new (T := TX3) (ci := 3) (fs := [.null]) X dX4_init_44 rfl in_X4_init_X3 tyX3 tyX3_ok (by decide +kernel) (by decide +kernel) (by decide +kernel) (by intro j hj; exact fs_X3 j hj) (by decide) (by decide) (fun q7 => ?_)
  refine g_sub (k := 7) (n := 130) (ws' := [(sa, .inr (4, [.null, .null, .ref q1, .ref q3, .ref q5, .null, .int (nI 0), .int (nI 0)])), (q1, .inr (3, [.ref a2])), (a2, .inl (ai, 42, .inl (fun _ => 0))), (q3, .inr (3, [.ref a4])), (a4, .inl (ai, 42, .inl (fun _ => 0))), (q5, .inr (3, [.ref a6])), (a6, .inl (ai, 42, .inl (fun _ => 0))), (q7, .inr (3, [.null]))]) [0, 1, 2, 3, 4, 5, 6, 7] (by decide) rfl ?_
  refine g_dup X dX4_init_47 rfl ?_
  refine g_sipush (v := nI 168) X dX4_init_48 (by decide) ?_
  refine g_callI (As := [.int (nI 168)]) (rest := [.ref q7, .ref sa]) (wr := [(sa, .inr (4, [.null, .null, .ref q1, .ref q3, .ref q5, .null, .int (nI 0), .int (nI 0)])), (q1, .inr (3, [.ref a2])), (a2, .inl (ai, 42, .inl (fun _ => 0))), (q3, .inr (3, [.ref a4])), (a4, .inl (ai, 42, .inl (fun _ => 0))), (q5, .inr (3, [.ref a6])), (a6, .inl (ai, 42, .inl (fun _ => 0)))]) X dX4_init_51 (c_X3_init168 l D ai az al q7 ) gX4_init_X3_init rfl (by decide +kernel) (by decide +kernel) (by decide +kernel) rfl ok_X3_init rfl rfl (by decide) ⟨by decide, by decide⟩ (Nat.le_of_ble_eq_true rfl) [7] [0, 1, 2, 3, 4, 5, 6] ⟨rfl, by decide, rfl, by decide, by decide⟩ (fun a8 hp => ?_)
  refine g_sub (k := 8) (n := 298) (ws' := [(sa, .inr (4, [.null, .null, .ref q1, .ref q3, .ref q5, .null, .int (nI 0), .int (nI 0)])), (q1, .inr (3, [.ref a2])), (a2, .inl (ai, 42, .inl (fun _ => 0))), (q3, .inr (3, [.ref a4])), (a4, .inl (ai, 42, .inl (fun _ => 0))), (q5, .inr (3, [.ref a6])), (a6, .inl (ai, 42, .inl (fun _ => 0))), (q7, .inr (3, [.ref a8])), (a8, .inl (ai, 168, .inl (fun _ => 0)))]) [0, 1, 2, 3, 4, 5, 6, 7, 8] (by decide) rfl ?_
  refine g_putfF (T := TX4) (v := .ref q7) (ty := tyX4 5) (ws' := [(sa, .inr (4, [.null, .null, .ref q1, .ref q3, .ref q5, .ref q7, .int (nI 0), .int (nI 0)])), (q1, .inr (3, [.ref a2])), (a2, .inl (ai, 42, .inl (fun _ => 0))), (q3, .inr (3, [.ref a4])), (a4, .inl (ai, 42, .inl (fun _ => 0))), (q5, .inr (3, [.ref a6])), (a6, .inl (ai, 42, .inl (fun _ => 0))), (q7, .inr (3, [.ref a8])), (a8, .inl (ai, 168, .inl (fun _ => 0)))]) X dX4_init_54 0 rfl rfl in_X4_init_X4 tyX4 tyX4_ok nmX4 5 (by decide) (by decide +kernel) rfl rfl hinit rfl (by decide +kernel) rfl rfl (Nat.le_of_ble_eq_true rfl) rfl ?_
  refine g_aload_n X dX4_init_57 rfl 0 rfl ?_
  refine g_aload_n X dX4_init_58 rfl 1 rfl ?_
  refine g_putfF (T := TX4) (v := .ref g) (ty := tyX4 0) (ws' := [(sa, .inr (4, [.ref g, .null, .ref q1, .ref q3, .ref q5, .ref q7, .int (nI 0), .int (nI 0)])), (q1, .inr (3, [.ref a2])), (a2, .inl (ai, 42, .inl (fun _ => 0))), (q3, .inr (3, [.ref a4])), (a4, .inl (ai, 42, .inl (fun _ => 0))), (q5, .inr (3, [.ref a6])), (a6, .inl (ai, 42, .inl (fun _ => 0))), (q7, .inr (3, [.ref a8])), (a8, .inl (ai, 168, .inl (fun _ => 0)))]) X dX4_init_59 0 rfl rfl in_X4_init_X4 tyX4 tyX4_ok nmX4 0 (by decide) (by decide +kernel) rfl rfl hinit rfl (by decide +kernel) rfl rfl (Nat.le_of_ble_eq_true rfl) rfl ?_
  refine g_aload_n X dX4_init_62 rfl 0 rfl ?_
  refine g_aload_n X dX4_init_63 rfl 2 rfl ?_
  refine g_putfF (T := TX4) (v := .ref sl) (ty := tyX4 1) (ws' := [(sa, .inr (4, [.ref g, .ref sl, .ref q1, .ref q3, .ref q5, .ref q7, .int (nI 0), .int (nI 0)])), (q1, .inr (3, [.ref a2])), (a2, .inl (ai, 42, .inl (fun _ => 0))), (q3, .inr (3, [.ref a4])), (a4, .inl (ai, 42, .inl (fun _ => 0))), (q5, .inr (3, [.ref a6])), (a6, .inl (ai, 42, .inl (fun _ => 0))), (q7, .inr (3, [.ref a8])), (a8, .inl (ai, 168, .inl (fun _ => 0)))]) X dX4_init_64 0 rfl rfl in_X4_init_X4 tyX4 tyX4_ok nmX4 1 (by decide) (by decide +kernel) rfl rfl hinit rfl (by decide +kernel) rfl rfl (Nat.le_of_ble_eq_true rfl) rfl ?_
  exact g_vret X E dX4_init_67 (⟨q1, q3, q5, q7, a2, a4, a6, a8⟩) rfl (by decide) (by decide) (trivial)
