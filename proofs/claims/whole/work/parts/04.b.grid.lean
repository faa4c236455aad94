def bn (b : Bool) : Nat := if b then 1 else 0
theorem bn_lt (b : Bool) : bn b < 2 ^ 31 := by cases b <;> decide
theorem bn_0 {b : Bool} : bn b = 0 ↔ b = false := by cases b <;> decide
theorem bn_n {b : Bool} : bn b ≠ 0 ↔ b = true := by cases b <;> decide
theorem bn_z (b : Bool) : narrow .boolean (.int (nI (bn b))) = .int (nI (bn b)) := by cases b <;> rfl
theorem LeadsOK.set {Lf Lg : Nat → Int32} {nb : Nat → Nat → Nat} (h : LeadsOK Lf nb) {c s : Nat} (hc : c < 42) (hs : s < 4) (b : Bool) (h1 : Lg (c * 4 + s) = if b then cd 43 else cd (bN c s)) (h2 : bN c s < 42 → Lg (bN c s * 4 + opp s) = if b then cd 43 else cd c) (h3 : ∀ k, k ≠ c * 4 + s → (bN c s < 42 → k ≠ bN c s * 4 + opp s) → Lg k = Lf k) : LeadsOK Lg (setS nb c s b) := by
  intro i j hi hj
  have hb : bN c s < 42 → bN (bN c s) (opp s) = c ∧ bN c s ≠ c := bN_back c hc s hs
  have ho := opp_lt hs
  obtain ⟨e1, e2⟩ := h i j hi hj
  unfold setS
  by_cases q : (i = c ∧ j = s) ∨ (bN c s < 42 ∧ i = bN c s ∧ j = opp s)
  · rw [if_pos q]
    rcases q with ⟨rfl, rfl⟩ | ⟨q1, q2, q3⟩
    · rw [h1]
      cases b
      · exact ⟨rfl, bN_le hi⟩
      · exact ⟨rfl, Nat.le_refl 43⟩
    · subst q2; subst q3
      rw [h2 q1]
      cases b
      · simp only [Bool.false_eq_true, if_false]
        rw [(hb q1).1]
        exact ⟨rfl, by omega⟩
      · exact ⟨rfl, Nat.le_refl 43⟩
  · rw [if_neg q]
    refine ⟨(h3 (i * 4 + j) ?_ ?_).trans e1, e2⟩
    · intro e
      exact q (Or.inl (by omega))
    · intro hlt e
      exact q (Or.inr (by omega))
theorem LeadsOK.init {g : Nat → Int32} (h : ∀ k, k < 42 * 4 → g k = cd (bN (k / 4) (k % 4))) : LeadsOK g bN := by
  intro c s hc hs
  have q := h (c * 4 + s) (by omega)
  rw [show (c * 4 + s) / 4 = c by omega, show (c * 4 + s) % 4 = s by omega] at q
  exact ⟨q, bN_le hc⟩
theorem odn_shut {nb : Nat → Nat → Nat} {c i : Nat} (h : nb c i = 43) : odn nb c (i + 1) = odn nb c i := by
  show odn nb c i + _ = _
  rw [if_pos h]; rfl
theorem odn_open {nb : Nat → Nat → Nat} {c i : Nat} (h : ¬ nb c i = 43) : odn nb c (i + 1) = odn nb c i + 1 := by
  show odn nb c i + _ = _
  rw [if_neg h]
theorem NW.init : NW bN := by
  have h : ∀ c, c < 42 → ∀ s, s < 4 → (bN c s = bN c s ∨ bN c s = 43) ∧ (bN c s < 42 → (bN c s = 43 ↔ bN (bN c s) (opp s) = 43)) := by decide +kernel
  exact fun c s hc hs => h c hc s hs
theorem c_X8_isCellD (l : Launch) (D : va_G) (ai az al : ClassId) (d : Nat) (hd : d ≤ 43) : CI l D (tY ai az al) yX8_isCell wsX8_isCell { frames := 0, cells := 0, slots := 0, locals := 0 } [.int (cd d)] [] (fun (r : Int32) (u : Unit) => r = nI (isC d)) (fun (u : Unit) => []) := (c_X8_isCell l D ai az al (cd d)).imp (fun r u h => ⟨(), by rw [h, cd_isC hd], rfl⟩)
theorem c_X8_isCellN (l : Launch) (D : va_G) (ai az al : ClassId) (d : Nat) (hd : d < 42) : CI l D (tY ai az al) yX8_isCell wsX8_isCell { frames := 0, cells := 0, slots := 0, locals := 0 } [.int (nI d)] [] (fun (r : Int32) (u : Unit) => r = nI 1) (fun (u : Unit) => []) := (c_X8_isCell l D ai az al (nI d)).imp (fun r u h => ⟨(), by rw [h, if_neg (nI_inNot hd (by decide))]; rfl, rfl⟩)
theorem ok_X0_clear : okName yX0_clear 0 := by decide +kernel
theorem in_X0_clear_X0 : ∀ w ∈ u_ws RX0 TX0 4, w ∈ wsX0_clear := by decide +kernel
set_option maxRecDepth 100000 in
set_option maxHeartbeats 4000000 in
theorem c_X0_clear (l : Launch) (D : va_G) (ai az al : ClassId) (q0 : Nat) (r : Nat) (ra : Nat) (w : Nat) (wa : Nat) (fsI : Int32) (cntI : Int32) (Rr : Nat → Int32) (Wt : Nat → Int32) : CV l D (tY ai az al) yX0_clear wsX0_clear { frames := 1, cells := 0, slots := 0, locals := 21 } [.ref q0] [(q0, .inr (0, [.ref r, .ref w, .int fsI, .int cntI])), (r, .inr (3, [.ref ra])), (ra, .inl (ai, 42, .inl Rr)), (w, .inr (3, [.ref wa])), (wa, .inl (ai, 42, .inl Wt))] (fun (u : Unit) => True) (fun (u : Unit) => [(q0, .inr (0, [.ref r, .ref w, .int (nI 0), .int (nI 0)])), (r, .inr (3, [.ref ra])), (ra, .inl (ai, 42, .inl Rr)), (w, .inr (3, [.ref wa])), (wa, .inl (ai, 42, .inl (fun _ => 0)))]) := by
  refine ofG_V (cc := cX0_clear) (nL := 1) (lv0 := [(0, .ref q0)]) (by decide) rfl (Nat.le_of_ble_eq_true rfl) rfl ?_
  intro Γ X E hinit
  refine g_aload_n X dX0_clear_0 rfl 0 rfl ?_
  refine g_getf (T := TX0) (v := .ref w) X dX0_clear_1 0 rfl rfl in_X0_clear_X0 1 (by decide) (by decide +kernel) rfl rfl ?_
  refine g_callVv (C := RX3) (As := []) (rest := []) (wr := [(q0, .inr (0, [.ref r, .ref w, .int fsI, .int cntI])), (r, .inr (3, [.ref ra])), (ra, .inl (ai, 42, .inl Rr))]) X dX0_clear_4 (c_X3_clear l D ai az al w wa 42 Wt (by decide)) gX0_clear_X3_clear rfl rfl ok_X3_clear rfl rfl (by decide) ⟨by decide, by decide⟩ (Nat.le_of_ble_eq_true rfl) [3, 4] [0, 1, 2] ⟨rfl, by decide, rfl, by decide, by decide⟩ 0 rfl rfl rfl (fun u hp => ?_)
  refine g_sub (k := 0) (n := 0) (ws' := [(q0, .inr (0, [.ref r, .ref w, .int fsI, .int cntI])), (r, .inr (3, [.ref ra])), (ra, .inl (ai, 42, .inl Rr)), (w, .inr (3, [.ref wa])), (wa, .inl (ai, 42, .inl (fun _ => 0)))]) [0, 1, 2, 3, 4] (by decide) rfl ?_
  refine g_aload_n X dX0_clear_7 rfl 0 rfl ?_
  refine g_iconst (v := nI 0) X dX0_clear_8 (by decide) ?_
  refine g_putf (T := TX0) (v := .int (nI 0)) (ty := tyX0 2) (ws' := [(q0, .inr (0, [.ref r, .ref w, .int (nI 0), .int cntI])), (r, .inr (3, [.ref ra])), (ra, .inl (ai, 42, .inl Rr)), (w, .inr (3, [.ref wa])), (wa, .inl (ai, 42, .inl (fun _ => 0)))]) X dX0_clear_9 0 rfl rfl in_X0_clear_X0 tyX0 tyX0_ok nmX0 2 (by decide) (by decide +kernel) rfl rfl (by decide +kernel) rfl rfl (Nat.le_of_ble_eq_true rfl) rfl ?_
  refine g_aload_n X dX0_clear_12 rfl 0 rfl ?_
  refine g_iconst (v := nI 0) X dX0_clear_13 (by decide) ?_
  refine g_putf (T := TX0) (v := .int (nI 0)) (ty := tyX0 3) (ws' := [(q0, .inr (0, [.ref r, .ref w, .int (nI 0), .int (nI 0)])), (r, .inr (3, [.ref ra])), (ra, .inl (ai, 42, .inl Rr)), (w, .inr (3, [.ref wa])), (wa, .inl (ai, 42, .inl (fun _ => 0)))]) X dX0_clear_14 0 rfl rfl in_X0_clear_X0 tyX0 tyX0_ok nmX0 3 (by decide) (by decide +kernel) rfl rfl (by decide +kernel) rfl rfl (Nat.le_of_ble_eq_true rfl) rfl ?_
  exact g_vret X E dX0_clear_17 () rfl (by decide) (by decide) (trivial)

theorem ok_X0_isEmpty : okName yX0_isEmpty 0 := by decide +kernel
theorem in_X0_isEmpty_X0 : ∀ w ∈ u_ws RX0 TX0 4, w ∈ wsX0_isEmpty := by decide +kernel
set_option maxRecDepth 100000 in
set_option maxHeartbeats 4000000 in
theorem c_X0_isEmpty (l : Launch) (D : va_G) (ai az al : ClassId) (q0 : Nat) (r : Nat) (ra : Nat) (w : Nat) (wa : Nat) (fs : Nat) (cnt : Nat) (Rr : Nat → Int32) (Wt : Nat → Int32) (hcnt : cnt < 2 ^ 31) : CI l D (tY ai az al) yX0_isEmpty wsX0_isEmpty { frames := 0, cells := 0, slots := 0, locals := 0 } [.ref q0] [(q0, .inr (0, [.ref r, .ref w, .int (nI fs), .int (nI cnt)])), (r, .inr (3, [.ref ra])), (ra, .inl (ai, 42, .inl Rr)), (w, .inr (3, [.ref wa])), (wa, .inl (ai, 42, .inl Wt))] (fun (r : Int32) (u : Unit) => r = nI (bn (decide (cnt = 0)))) (fun (u : Unit) => [(q0, .inr (0, [.ref r, .ref w, .int (nI fs), .int (nI cnt)])), (r, .inr (3, [.ref ra])), (ra, .inl (ai, 42, .inl Rr)), (w, .inr (3, [.ref wa])), (wa, .inl (ai, 42, .inl Wt))]) := by
  refine ofG_I (cc := cX0_isEmpty) (nL := 1) (lv0 := [(0, .ref q0)]) (by decide) rfl (Nat.le_of_ble_eq_true rfl) rfl ?_
  intro Γ X E
  refine g_aload_n X dX0_isEmpty_0 rfl 0 rfl ?_
  refine g_getf (T := TX0) (v := .int (nI cnt)) X dX0_isEmpty_1 0 rfl rfl in_X0_isEmpty_X0 3 (by decide) (by decide +kernel) rfl rfl ?_
  refine g_if_neN (tgt := 11) X dX0_isEmpty_4 (by decide) (by omega) (fun b4 => ?_) (fun b4 => ?_)
  · refine g_iconst (v := nI 0) X dX0_isEmpty_11 (by decide) ?_
    exact g_zret X E dX0_isEmpty_12 () rfl (by decide) (by decide) (rfl) (by first | (rw [decide_eq_true b4]; rfl) | (rw [decide_eq_false b4]; rfl))
  · refine g_iconst (v := nI 1) X dX0_isEmpty_7 (by decide) ?_
    refine g_goto (tgt := 12) X dX0_isEmpty_8 (by decide) ?_
    exact g_zret X E dX0_isEmpty_12 () rfl (by decide) (by decide) (rfl) (by first | (rw [decide_eq_true b4]; rfl) | (rw [decide_eq_false b4]; rfl))

theorem ok_X0_enter : okName yX0_enter 1 := by decide +kernel
theorem in_X0_enter_X0 : ∀ w ∈ u_ws RX0 TX0 4, w ∈ wsX0_enter := by decide +kernel
set_option maxRecDepth 100000 in
set_option maxHeartbeats 4000000 in
theorem c_X0_enter (l : Launch) (D : va_G) (ai az al : ClassId) (q0 : Nat) (r : Nat) (ra : Nat) (w : Nat) (wa : Nat) (fs : Nat) (cnt : Nat) (Rr : Nat → Int32) (Wt : Nat → Int32) (ql : List Nat) (c : Nat) (hc : c < 42) (hq : QOK fs cnt Rr Wt ql) : CV l D (tY ai az al) yX0_enter wsX0_enter { frames := 1, cells := 0, slots := 0, locals := 22 } [.ref q0, .int (nI c)] [(q0, .inr (0, [.ref r, .ref w, .int (nI fs), .int (nI cnt)])), (r, .inr (3, [.ref ra])), (ra, .inl (ai, 42, .inl Rr)), (w, .inr (3, [.ref wa])), (wa, .inl (ai, 42, .inl Wt))] (fun (u : Nat × (Nat → Int32) × (Nat → Int32)) => QOK fs u.1 u.2.1 u.2.2 (if c ∈ ql then ql else ql ++ [c])) (fun (u : Nat × (Nat → Int32) × (Nat → Int32)) => [(q0, .inr (0, [.ref r, .ref w, .int (nI fs), .int (nI u.1)])), (r, .inr (3, [.ref ra])), (ra, .inl (ai, 42, .inl u.2.1)), (w, .inr (3, [.ref wa])), (wa, .inl (ai, 42, .inl u.2.2))]) := by
  refine ofG_V (cc := cX0_enter) (nL := 2) (lv0 := [(0, .ref q0), (1, .int (nI c))]) (by decide) rfl (Nat.le_of_ble_eq_true rfl) rfl ?_
  intro Γ X E hinit
  refine g_iload_n X dX0_enter_0 rfl 1 rfl ?_
  refine g_callNi (As := [.int (nI c)]) (rest := []) (wr := [(q0, .inr (0, [.ref r, .ref w, .int (nI fs), .int (nI cnt)])), (r, .inr (3, [.ref ra])), (ra, .inl (ai, 42, .inl Rr)), (w, .inr (3, [.ref wa])), (wa, .inl (ai, 42, .inl Wt))]) X dX0_enter_1 (c_X8_isCellN l D ai az al c (by first | omega | assumption)) gX0_enter_X8_isCell_n33 rfl 18 rfl (by decide +kernel) (by decide +kernel) ok_X8_isCell rfl rfl (by decide) ⟨by decide, by decide⟩ (Nat.le_of_ble_eq_true rfl) [] [0, 1, 2, 3, 4] ⟨rfl, by decide, rfl, by decide, by decide⟩ (fun r1 u hp => ?_)
  obtain rfl := hp
  refine g_sub (k := 0) (n := 0) (ws' := [(q0, .inr (0, [.ref r, .ref w, .int (nI fs), .int (nI cnt)])), (r, .inr (3, [.ref ra])), (ra, .inl (ai, 42, .inl Rr)), (w, .inr (3, [.ref wa])), (wa, .inl (ai, 42, .inl Wt))]) [0, 1, 2, 3, 4] (by decide) rfl ?_
  refine g_if_eqN (tgt := 66) X dX0_enter_4 (by decide) (by decide) (fun b4 => False.elim (absurd b4 (by decide))) (fun b4 => ?_)
  refine g_aload_n X dX0_enter_7 rfl 0 rfl ?_
  refine g_getf (T := TX0) (v := .ref w) X dX0_enter_8 0 rfl rfl in_X0_enter_X0 1 (by decide) (by decide +kernel) rfl rfl ?_
  refine g_iload_n X dX0_enter_11 rfl 1 rfl ?_
  refine g_callVi (C := RX3) (As := [.int (nI c)]) (rest := []) (wr := [(q0, .inr (0, [.ref r, .ref w, .int (nI fs), .int (nI cnt)])), (r, .inr (3, [.ref ra])), (ra, .inl (ai, 42, .inl Rr))]) X dX0_enter_12 (c_X3_atN l D ai az al w wa 42 Wt c (by decide) (by omega)) gX0_enter_X3_at rfl rfl ok_X3_at rfl rfl (by decide) ⟨by decide, by decide⟩ (Nat.le_of_ble_eq_true rfl) [3, 4] [0, 1, 2] ⟨rfl, by decide, rfl, by decide, by decide⟩ 0 rfl rfl rfl (fun r2 u hp => ?_)
  obtain rfl := hp
  refine g_sub (k := 0) (n := 0) (ws' := [(q0, .inr (0, [.ref r, .ref w, .int (nI fs), .int (nI cnt)])), (r, .inr (3, [.ref ra])), (ra, .inl (ai, 42, .inl Rr)), (w, .inr (3, [.ref wa])), (wa, .inl (ai, 42, .inl Wt))]) [0, 1, 2, 3, 4] (by decide) rfl ?_
  refine g_if_ne (tgt := 66) X dX0_enter_15 (by decide) (fun b15 => ?_) (fun b15 => ?_)
  · exact g_vret X E dX0_enter_66 (⟨cnt, Rr, Wt⟩) rfl (by decide) (by decide) (by first | (rw [if_neg hm]; exact hq.add hc hm) | (rw [if_pos (Classical.byContradiction (fun q => b15 ((hq.mem hc).mpr q)))]; exact hq))
  · have hm : c ∉ ql := (hq.mem hc).mp b15
    have hroom := hq.room hc hm
    have hfs : fs < 42 := hq.2.2.2.1
    refine g_aload_n X dX0_enter_18 rfl 0 rfl ?_
    refine g_getf (T := TX0) (v := .int (nI cnt)) X dX0_enter_19 0 rfl rfl in_X0_enter_X0 3 (by decide) (by decide +kernel) rfl rfl ?_
    refine g_bipush (v := nI 42) X dX0_enter_22 (by decide) ?_
    refine g_icmp_geN (tgt := 66) X dX0_enter_24 (by decide) (by omega) (by omega) (fun b24 => False.elim (by omega)) (fun b24 => ?_)
    refine g_aload_n X dX0_enter_27 rfl 0 rfl ?_
    refine g_getf (T := TX0) (v := .ref r) X dX0_enter_28 0 rfl rfl in_X0_enter_X0 0 (by decide) (by decide +kernel) rfl rfl ?_
    refine g_aload_n X dX0_enter_31 rfl 0 rfl ?_
    refine g_getf (T := TX0) (v := .int (nI fs)) X dX0_enter_32 0 rfl rfl in_X0_enter_X0 2 (by decide) (by decide +kernel) rfl rfl ?_
    refine g_aload_n X dX0_enter_35 rfl 0 rfl ?_
    refine g_getf (T := TX0) (v := .int (nI cnt)) X dX0_enter_36 0 rfl rfl in_X0_enter_X0 3 (by decide) (by decide +kernel) rfl rfl ?_
    refine g_iadd (v := nI (fs + cnt)) X dX0_enter_39 (nI_add _ _) ?_
    refine g_bipush (v := nI 42) X dX0_enter_40 (by decide) ?_
    refine g_irem (v := nI ((fs + cnt) % 42)) X dX0_enter_42 (by decide) (pk_rem (by omega) (by omega) (by omega)) ?_
    refine g_iload_n X dX0_enter_43 rfl 1 rfl ?_
    refine g_callVv (C := RX3) (As := [.int (nI ((fs + cnt) % 42)), .int (nI c)]) (rest := []) (wr := [(q0, .inr (0, [.ref r, .ref w, .int (nI fs), .int (nI cnt)])), (w, .inr (3, [.ref wa])), (wa, .inl (ai, 42, .inl Wt))]) X dX0_enter_44 (c_X3_putN l D ai az al r ra 42 Rr ((fs + cnt) % 42) (nI c) (by decide) (by omega)) gX0_enter_X3_put rfl rfl ok_X3_put rfl rfl (by decide) ⟨by decide, by decide⟩ (Nat.le_of_ble_eq_true rfl) [1, 2] [0, 3, 4] ⟨rfl, by decide, rfl, by decide, by decide⟩ 0 rfl rfl rfl (fun u hp => ?_)
    refine g_sub (k := 0) (n := 0) (ws' := [(q0, .inr (0, [.ref r, .ref w, .int (nI fs), .int (nI cnt)])), (r, .inr (3, [.ref ra])), (ra, .inl (ai, 42, .inl (upd Rr ((fs + cnt) % 42) ((nI c))))), (w, .inr (3, [.ref wa])), (wa, .inl (ai, 42, .inl Wt))]) [0, 3, 4, 1, 2] (by decide) rfl ?_
    refine g_aload_n X dX0_enter_47 rfl 0 rfl ?_
    refine g_getf (T := TX0) (v := .ref w) X dX0_enter_48 0 rfl rfl in_X0_enter_X0 1 (by decide) (by decide +kernel) rfl rfl ?_
    refine g_iload_n X dX0_enter_51 rfl 1 rfl ?_
    refine g_iconst (v := nI 1) X dX0_enter_52 (by decide) ?_
    refine g_callVv (C := RX3) (As := [.int (nI c), .int (nI 1)]) (rest := []) (wr := [(q0, .inr (0, [.ref r, .ref w, .int (nI fs), .int (nI cnt)])), (r, .inr (3, [.ref ra])), (ra, .inl (ai, 42, .inl (upd Rr ((fs + cnt) % 42) ((nI c)))))]) X dX0_enter_53 (c_X3_putN l D ai az al w wa 42 Wt c (nI 1) (by decide) (by omega)) gX0_enter_X3_put rfl rfl ok_X3_put rfl rfl (by decide) ⟨by decide, by decide⟩ (Nat.le_of_ble_eq_true rfl) [3, 4] [0, 1, 2] ⟨rfl, by decide, rfl, by decide, by decide⟩ 0 rfl rfl rfl (fun u hp => ?_)
    refine g_sub (k := 0) (n := 0) (ws' := [(q0, .inr (0, [.ref r, .ref w, .int (nI fs), .int (nI cnt)])), (r, .inr (3, [.ref ra])), (ra, .inl (ai, 42, .inl (upd Rr ((fs + cnt) % 42) ((nI c))))), (w, .inr (3, [.ref wa])), (wa, .inl (ai, 42, .inl (upd Wt c ((nI 1)))))]) [0, 1, 2, 3, 4] (by decide) rfl ?_
    refine g_aload_n X dX0_enter_56 rfl 0 rfl ?_
    refine g_dup X dX0_enter_57 rfl ?_
    refine g_getf (T := TX0) (v := .int (nI cnt)) X dX0_enter_58 0 rfl rfl in_X0_enter_X0 3 (by decide) (by decide +kernel) rfl rfl ?_
    refine g_iconst (v := nI 1) X dX0_enter_61 (by decide) ?_
    refine g_iadd (v := nI (cnt + 1)) X dX0_enter_62 (nI_add _ _) ?_
    refine g_putf (T := TX0) (v := .int (nI (cnt + 1))) (ty := tyX0 3) (ws' := [(q0, .inr (0, [.ref r, .ref w, .int (nI fs), .int (nI (cnt + 1))])), (r, .inr (3, [.ref ra])), (ra, .inl (ai, 42, .inl (upd Rr ((fs + cnt) % 42) ((nI c))))), (w, .inr (3, [.ref wa])), (wa, .inl (ai, 42, .inl (upd Wt c ((nI 1)))))]) X dX0_enter_63 0 rfl rfl in_X0_enter_X0 tyX0 tyX0_ok nmX0 3 (by decide) (by decide +kernel) rfl rfl (by decide +kernel) rfl rfl (Nat.le_of_ble_eq_true rfl) rfl ?_
    exact g_vret X E dX0_enter_66 (⟨cnt + 1, upd Rr ((fs + cnt) % 42) ((nI c)), upd Wt c ((nI 1))⟩) rfl (by decide) (by decide) (by first | (rw [if_neg hm]; exact hq.add hc hm) | (rw [if_pos (Classical.byContradiction (fun q => b15 ((hq.mem hc).mpr q)))]; exact hq))

theorem ok_X0_leave : okName yX0_leave 0 := by decide +kernel
theorem in_X0_leave_X0 : ∀ w ∈ u_ws RX0 TX0 4, w ∈ wsX0_leave := by decide +kernel
set_option maxRecDepth 100000 in
set_option maxHeartbeats 4000000 in
theorem c_X0_leave (l : Launch) (D : va_G) (ai az al : ClassId) (q0 : Nat) (r : Nat) (ra : Nat) (w : Nat) (wa : Nat) (fs : Nat) (cnt : Nat) (Rr : Nat → Int32) (Wt : Nat → Int32) (qt : List Nat) (c : Nat) (hq : QOK fs cnt Rr Wt (c :: qt)) : CI l D (tY ai az al) yX0_leave wsX0_leave { frames := 1, cells := 0, slots := 0, locals := 22 } [.ref q0] [(q0, .inr (0, [.ref r, .ref w, .int (nI fs), .int (nI cnt)])), (r, .inr (3, [.ref ra])), (ra, .inl (ai, 42, .inl Rr)), (w, .inr (3, [.ref wa])), (wa, .inl (ai, 42, .inl Wt))] (fun (r : Int32) (u : (Nat → Int32)) => r = nI c ∧ QOK ((fs + 1) % 42) (cnt - 1) Rr u qt) (fun (u : (Nat → Int32)) => [(q0, .inr (0, [.ref r, .ref w, .int (nI ((fs + 1) % 42)), .int (nI (cnt - 1))])), (r, .inr (3, [.ref ra])), (ra, .inl (ai, 42, .inl Rr)), (w, .inr (3, [.ref wa])), (wa, .inl (ai, 42, .inl u))]) := by
  refine ofG_I (cc := cX0_leave) (nL := 2) (lv0 := [(0, .ref q0)]) (by decide) rfl (Nat.le_of_ble_eq_true rfl) rfl ?_
  intro Γ X E
  obtain ⟨hh1, hc, hh2, hh3⟩ := hq.head
  have hcl := hq.le
  refine g_aload_n X dX0_leave_0 rfl 0 rfl ?_
  refine g_getf (T := TX0) (v := .ref r) X dX0_leave_1 0 rfl rfl in_X0_leave_X0 0 (by decide) (by decide +kernel) rfl rfl ?_
  refine g_aload_n X dX0_leave_4 rfl 0 rfl ?_
  refine g_getf (T := TX0) (v := .int (nI fs)) X dX0_leave_5 0 rfl rfl in_X0_leave_X0 2 (by decide) (by decide +kernel) rfl rfl ?_
  refine g_callVi (C := RX3) (As := [.int (nI fs)]) (rest := []) (wr := [(q0, .inr (0, [.ref r, .ref w, .int (nI fs), .int (nI cnt)])), (w, .inr (3, [.ref wa])), (wa, .inl (ai, 42, .inl Wt))]) X dX0_leave_8 (c_X3_atN l D ai az al r ra 42 Rr fs (by decide) (by omega)) gX0_leave_X3_at rfl rfl ok_X3_at rfl rfl (by decide) ⟨by decide, by decide⟩ (Nat.le_of_ble_eq_true rfl) [1, 2] [0, 3, 4] ⟨rfl, by decide, rfl, by decide, by decide⟩ 0 rfl rfl rfl (fun r1 u hp => ?_)
  obtain rfl := hp
  refine g_sub (k := 0) (n := 0) (ws' := [(q0, .inr (0, [.ref r, .ref w, .int (nI fs), .int (nI cnt)])), (r, .inr (3, [.ref ra])), (ra, .inl (ai, 42, .inl Rr)), (w, .inr (3, [.ref wa])), (wa, .inl (ai, 42, .inl Wt))]) [0, 3, 4, 1, 2] (by decide) rfl ?_
  rw [hh1]
  refine g_istore_n (lv' := [(1, .int (nI c)), (0, .ref q0)]) X dX0_leave_11 rfl (by decide) rfl ?_
  refine g_aload_n X dX0_leave_12 rfl 1 rfl ?_
  refine g_getf (T := TX0) (v := .ref w) X dX0_leave_13 0 rfl rfl in_X0_leave_X0 1 (by decide) (by decide +kernel) rfl rfl ?_
  refine g_iload_n X dX0_leave_16 rfl 0 rfl ?_
  refine g_iconst (v := nI 0) X dX0_leave_17 (by decide) ?_
  refine g_callVv (C := RX3) (As := [.int (nI c), .int (nI 0)]) (rest := []) (wr := [(q0, .inr (0, [.ref r, .ref w, .int (nI fs), .int (nI cnt)])), (r, .inr (3, [.ref ra])), (ra, .inl (ai, 42, .inl Rr))]) X dX0_leave_18 (c_X3_putN l D ai az al w wa 42 Wt c (nI 0) (by decide) (by omega)) gX0_leave_X3_put rfl rfl ok_X3_put rfl rfl (by decide) ⟨by decide, by decide⟩ (Nat.le_of_ble_eq_true rfl) [3, 4] [0, 1, 2] ⟨rfl, by decide, rfl, by decide, by decide⟩ 0 rfl rfl rfl (fun u hp => ?_)
  refine g_sub (k := 0) (n := 0) (ws' := [(q0, .inr (0, [.ref r, .ref w, .int (nI fs), .int (nI cnt)])), (r, .inr (3, [.ref ra])), (ra, .inl (ai, 42, .inl Rr)), (w, .inr (3, [.ref wa])), (wa, .inl (ai, 42, .inl (upd Wt c ((nI 0)))))]) [0, 1, 2, 3, 4] (by decide) rfl ?_
  refine g_aload_n X dX0_leave_21 rfl 1 rfl ?_
  refine g_aload_n X dX0_leave_22 rfl 1 rfl ?_
  refine g_getf (T := TX0) (v := .int (nI fs)) X dX0_leave_23 0 rfl rfl in_X0_leave_X0 2 (by decide) (by decide +kernel) rfl rfl ?_
  refine g_iconst (v := nI 1) X dX0_leave_26 (by decide) ?_
  refine g_iadd (v := nI (fs + 1)) X dX0_leave_27 (nI_add _ _) ?_
  refine g_bipush (v := nI 42) X dX0_leave_28 (by decide) ?_
  refine g_irem (v := nI ((fs + 1) % 42)) X dX0_leave_30 (by decide) (pk_rem (by omega) (by omega) (by omega)) ?_
  refine g_putf (T := TX0) (v := .int (nI ((fs + 1) % 42))) (ty := tyX0 2) (ws' := [(q0, .inr (0, [.ref r, .ref w, .int (nI ((fs + 1) % 42)), .int (nI cnt)])), (r, .inr (3, [.ref ra])), (ra, .inl (ai, 42, .inl Rr)), (w, .inr (3, [.ref wa])), (wa, .inl (ai, 42, .inl (upd Wt c ((nI 0)))))]) X dX0_leave_31 0 rfl rfl in_X0_leave_X0 tyX0 tyX0_ok nmX0 2 (by decide) (by decide +kernel) rfl rfl (by decide +kernel) rfl rfl (Nat.le_of_ble_eq_true rfl) rfl ?_
  refine g_aload_n X dX0_leave_34 rfl 1 rfl ?_
  refine g_dup X dX0_leave_35 rfl ?_
  refine g_getf (T := TX0) (v := .int (nI cnt)) X dX0_leave_36 0 rfl rfl in_X0_leave_X0 3 (by decide) (by decide +kernel) rfl rfl ?_
  refine g_iconst (v := nI 1) X dX0_leave_39 (by decide) ?_
  refine g_isub (v := nI (cnt - 1)) X dX0_leave_40 (pk_sub (by omega)) ?_
  refine g_putf (T := TX0) (v := .int (nI (cnt - 1))) (ty := tyX0 3) (ws' := [(q0, .inr (0, [.ref r, .ref w, .int (nI ((fs + 1) % 42)), .int (nI (cnt - 1))])), (r, .inr (3, [.ref ra])), (ra, .inl (ai, 42, .inl Rr)), (w, .inr (3, [.ref wa])), (wa, .inl (ai, 42, .inl (upd Wt c ((nI 0)))))]) X dX0_leave_41 0 rfl rfl in_X0_leave_X0 tyX0 tyX0_ok nmX0 3 (by decide) (by decide +kernel) rfl rfl (by decide +kernel) rfl rfl (Nat.le_of_ble_eq_true rfl) rfl ?_
  refine g_iload_n X dX0_leave_44 rfl 0 rfl ?_
  exact g_iret X E dX0_leave_45 (upd Wt c ((nI 0))) rfl (by decide) (by decide) (⟨rfl, hq.pop⟩)

theorem ok_X2_across : okName yX2_across 2 := by decide +kernel
set_option maxRecDepth 100000 in
set_option maxHeartbeats 4000000 in
theorem c_X2_across (l : Launch) (D : va_G) (ai az al : ClassId) (c : Nat) (s : Nat) (hc : c < 42) (hs : s < 4) : CI l D (tY ai az al) yX2_across wsX2_across { frames := 0, cells := 0, slots := 0, locals := 0 } [.int (nI c), .int (nI s)] [] (fun (r : Int32) (u : Unit) => r = cd (bN c s)) (fun (u : Unit) => []) := by
  refine ofG_I (cc := cX2_across) (nL := 4) (lv0 := [(0, .int (nI c)), (1, .int (nI s))]) (by decide) rfl (Nat.le_of_ble_eq_true rfl) rfl ?_
  intro Γ X E
  refine g_iload_n X dX2_across_0 rfl 0 rfl ?_
  refine g_bipush (v := nI 6) X dX2_across_1 (by decide) ?_
  refine g_irem (v := nI (c % 6)) X dX2_across_3 (by decide) (pk_rem (by omega) (by omega) (by omega)) ?_
  refine g_istore_n (lv' := [(2, .int (nI (c % 6))), (0, .int (nI c)), (1, .int (nI s))]) X dX2_across_4 rfl (by decide) rfl ?_
  refine g_iload_n X dX2_across_5 rfl 1 rfl ?_
  refine g_bipush (v := nI 6) X dX2_across_6 (by decide) ?_
  refine g_idiv (v := nI (c / 6)) X dX2_across_8 (by decide) (pk_div (by omega) (by omega) (by omega)) ?_
  refine g_istore_n (lv' := [(3, .int (nI (c / 6))), (2, .int (nI (c % 6))), (0, .int (nI c)), (1, .int (nI s))]) X dX2_across_9 rfl (by decide) rfl ?_
  refine g_iload_n X dX2_across_10 rfl 3 rfl ?_
  refine g_if_neN (tgt := 27) X dX2_across_11 (by decide) (by omega) (fun b11 => ?_) (fun b11 => ?_)
  · refine g_iload_n X dX2_across_27 rfl 3 rfl ?_
    refine g_iconst (v := nI 1) X dX2_across_28 (by decide) ?_
    refine g_icmp_neN (tgt := 48) X dX2_across_29 (by decide) (by omega) (by omega) (fun b29 => ?_) (fun b29 => ?_)
    · refine g_iload_n X dX2_across_48 rfl 3 rfl ?_
      refine g_iconst (v := nI 2) X dX2_across_49 (by decide) ?_
      refine g_icmp_neN (tgt := 66) X dX2_across_50 (by decide) (by omega) (by omega) (fun b50 => ?_) (fun b50 => ?_)
      · refine g_iload_n X dX2_across_66 rfl 1 rfl ?_
        refine g_iconst (v := nI 5) X dX2_across_67 (by decide) ?_
        refine g_icmp_geN (tgt := 77) X dX2_across_68 (by decide) (by omega) (by omega) (fun b68 => ?_) (fun b68 => ?_)
        · refine g_bipush (v := (-2)) X dX2_across_77 (by decide) ?_
          exact g_iret X E dX2_across_79 () rfl (by decide) (by decide) (by unfold bN; (repeat' split) <;> first | (exfalso; omega) | exact (cd_lt (by omega)).symm | rfl)
        · refine g_iload_n X dX2_across_71 rfl 2 rfl ?_
          refine g_iconst (v := nI 1) X dX2_across_72 (by decide) ?_
          refine g_iadd (v := nI (c + 1)) X dX2_across_73 (nI_add _ _) ?_
          refine g_goto (tgt := 79) X dX2_across_74 (by decide) ?_
          exact g_iret X E dX2_across_79 () rfl (by decide) (by decide) (by unfold bN; (repeat' split) <;> first | (exfalso; omega) | exact (cd_lt (by omega)).symm | rfl)
      · refine g_iload_n X dX2_across_53 rfl 1 rfl ?_
        refine g_if_leN (tgt := 63) X dX2_across_54 (by decide) (by omega) (fun b54 => ?_) (fun b54 => ?_)
        · refine g_bipush (v := (-2)) X dX2_across_63 (by decide) ?_
          exact g_iret X E dX2_across_65 () rfl (by decide) (by decide) (by unfold bN; (repeat' split) <;> first | (exfalso; omega) | exact (cd_lt (by omega)).symm | rfl)
        · refine g_iload_n X dX2_across_57 rfl 2 rfl ?_
          refine g_iconst (v := nI 1) X dX2_across_58 (by decide) ?_
          refine g_isub (v := nI (c - 1)) X dX2_across_59 (pk_sub (by omega)) ?_
          refine g_goto (tgt := 65) X dX2_across_60 (by decide) ?_
          exact g_iret X E dX2_across_65 () rfl (by decide) (by decide) (by unfold bN; (repeat' split) <;> first | (exfalso; omega) | exact (cd_lt (by omega)).symm | rfl)
    · refine g_iload_n X dX2_across_32 rfl 0 rfl ?_
      refine g_bipush (v := nI 6) X dX2_across_33 (by decide) ?_
      refine g_icmp_geN (tgt := 45) X dX2_across_35 (by decide) (by omega) (by omega) (fun b35 => ?_) (fun b35 => ?_)
      · refine g_bipush (v := (-2)) X dX2_across_45 (by decide) ?_
        exact g_iret X E dX2_across_47 () rfl (by decide) (by decide) (by unfold bN; (repeat' split) <;> first | (exfalso; omega) | exact (cd_lt (by omega)).symm | rfl)
      · refine g_iload_n X dX2_across_38 rfl 2 rfl ?_
        refine g_bipush (v := nI 6) X dX2_across_39 (by decide) ?_
        refine g_iadd (v := nI (c + 6)) X dX2_across_41 (nI_add _ _) ?_
        refine g_goto (tgt := 47) X dX2_across_42 (by decide) ?_
        exact g_iret X E dX2_across_47 () rfl (by decide) (by decide) (by unfold bN; (repeat' split) <;> first | (exfalso; omega) | exact (cd_lt (by omega)).symm | rfl)
  · refine g_iload_n X dX2_across_14 rfl 0 rfl ?_
    refine g_if_leN (tgt := 25) X dX2_across_15 (by decide) (by omega) (fun b15 => ?_) (fun b15 => ?_)
    · refine g_iconst (v := (-1)) X dX2_across_25 (by decide) ?_
      exact g_iret X E dX2_across_26 () rfl (by decide) (by decide) (by unfold bN; (repeat' split) <;> first | (exfalso; omega) | exact (cd_lt (by omega)).symm | rfl)
    · refine g_iload_n X dX2_across_18 rfl 2 rfl ?_
      refine g_bipush (v := nI 6) X dX2_across_19 (by decide) ?_
      refine g_isub (v := nI (c - 6)) X dX2_across_21 (pk_sub (by omega)) ?_
      refine g_goto (tgt := 26) X dX2_across_22 (by decide) ?_
      exact g_iret X E dX2_across_26 () rfl (by decide) (by decide) (by unfold bN; (repeat' split) <;> first | (exfalso; omega) | exact (cd_lt (by omega)).symm | rfl)

theorem ok_X2_leadsTo : okName yX2_leadsTo 2 := by decide +kernel
theorem in_X2_leadsTo_X2 : ∀ w ∈ u_ws RX2 TX2 2, w ∈ wsX2_leadsTo := by decide +kernel
set_option maxRecDepth 100000 in
set_option maxHeartbeats 4000000 in
theorem c_X2_leadsTo (l : Launch) (D : va_G) (ai az al : ClassId) (g : Nat) (L : Nat) (la : Nat) (Lf : Nat → Int32) (wc : Int32) (nb : Nat → Nat → Nat) (c : Nat) (s : Nat) (hc : c < 42) (hs : s < 4) (hL : LeadsOK Lf nb) : CI l D (tY ai az al) yX2_leadsTo wsX2_leadsTo { frames := 1, cells := 0, slots := 0, locals := 21 } [.ref g, .int (nI c), .int (nI s)] [(g, .inr (2, [.ref L, .int wc])), (L, .inr (3, [.ref la])), (la, .inl (ai, 168, .inl Lf))] (fun (r : Int32) (u : Unit) => r = cd (nb c s)) (fun (u : Unit) => [(g, .inr (2, [.ref L, .int wc])), (L, .inr (3, [.ref la])), (la, .inl (ai, 168, .inl Lf))]) := by
  refine ofG_I (cc := cX2_leadsTo) (nL := 3) (lv0 := [(0, .ref g), (1, .int (nI c)), (2, .int (nI s))]) (by decide) rfl (Nat.le_of_ble_eq_true rfl) rfl ?_
  intro Γ X E
  refine g_aload_n X dX2_leadsTo_0 rfl 0 rfl ?_
  refine g_getf (T := TX2) (v := .ref L) X dX2_leadsTo_1 0 rfl rfl in_X2_leadsTo_X2 0 (by decide) (by decide +kernel) rfl rfl ?_
  refine g_iload_n X dX2_leadsTo_4 rfl 1 rfl ?_
  refine g_iload_n X dX2_leadsTo_5 rfl 2 rfl ?_
  refine g_callNi (As := [.int (nI c), .int (nI s)]) (rest := [.ref L]) (wr := [(g, .inr (2, [.ref L, .int wc])), (L, .inr (3, [.ref la])), (la, .inl (ai, 168, .inl Lf))]) X dX2_leadsTo_6 (c_X8_placeOf l D ai az al c s ) gX2_leadsTo_X8_placeOf_n20 rfl 21 rfl (by decide +kernel) (by decide +kernel) ok_X8_placeOf rfl rfl (by decide) ⟨by decide, by decide⟩ (Nat.le_of_ble_eq_true rfl) [] [0, 1, 2] ⟨rfl, by decide, rfl, by decide, by decide⟩ (fun r1 u hp => ?_)
  obtain rfl := hp
  refine g_sub (k := 0) (n := 0) (ws' := [(g, .inr (2, [.ref L, .int wc])), (L, .inr (3, [.ref la])), (la, .inl (ai, 168, .inl Lf))]) [0, 1, 2] (by decide) rfl ?_
  refine g_callVi (C := RX3) (As := [.int (nI (c * 4 + s))]) (rest := []) (wr := [(g, .inr (2, [.ref L, .int wc]))]) X dX2_leadsTo_9 (c_X3_atN l D ai az al L la 168 Lf (c * 4 + s) (by decide) (by omega)) gX2_leadsTo_X3_at rfl rfl ok_X3_at rfl rfl (by decide) ⟨by decide, by decide⟩ (Nat.le_of_ble_eq_true rfl) [1, 2] [0] ⟨rfl, by decide, rfl, by decide, by decide⟩ 0 rfl rfl rfl (fun r2 u hp => ?_)
  obtain rfl := hp
  refine g_sub (k := 0) (n := 0) (ws' := [(g, .inr (2, [.ref L, .int wc])), (L, .inr (3, [.ref la])), (la, .inl (ai, 168, .inl Lf))]) [0, 1, 2] (by decide) rfl ?_
  exact g_iret X E dX2_leadsTo_12 () rfl (by decide) (by decide) ((hL c s hc hs).1)

theorem ok_X2_isShut : okName yX2_isShut 2 := by decide +kernel
set_option maxRecDepth 100000 in
set_option maxHeartbeats 4000000 in
theorem c_X2_isShut (l : Launch) (D : va_G) (ai az al : ClassId) (g : Nat) (L : Nat) (la : Nat) (Lf : Nat → Int32) (wc : Int32) (nb : Nat → Nat → Nat) (c : Nat) (s : Nat) (hc : c < 42) (hs : s < 4) (hL : LeadsOK Lf nb) : CI l D (tY ai az al) yX2_isShut wsX2_isShut { frames := 2, cells := 0, slots := 0, locals := 43 } [.ref g, .int (nI c), .int (nI s)] [(g, .inr (2, [.ref L, .int wc])), (L, .inr (3, [.ref la])), (la, .inl (ai, 168, .inl Lf))] (fun (r : Int32) (u : Unit) => r = nI (bn (decide (nb c s = 43)))) (fun (u : Unit) => [(g, .inr (2, [.ref L, .int wc])), (L, .inr (3, [.ref la])), (la, .inl (ai, 168, .inl Lf))]) := by
  refine ofG_I (cc := cX2_isShut) (nL := 3) (lv0 := [(0, .ref g), (1, .int (nI c)), (2, .int (nI s))]) (by decide) rfl (Nat.le_of_ble_eq_true rfl) rfl ?_
  intro Γ X E
  refine g_aload_n X dX2_isShut_0 rfl 0 rfl ?_
  refine g_iload_n X dX2_isShut_1 rfl 1 rfl ?_
  refine g_iload_n X dX2_isShut_2 rfl 2 rfl ?_
  refine g_callVi (C := RX2) (As := [.int (nI c), .int (nI s)]) (rest := []) (wr := []) X dX2_isShut_3 (c_X2_leadsTo l D ai az al g L la Lf wc nb c s (by first | omega | assumption) (by first | omega | assumption) (by first | omega | assumption)) gX2_isShut_X2_leadsTo rfl rfl ok_X2_leadsTo rfl rfl (by decide) ⟨by decide, by decide⟩ (Nat.le_of_ble_eq_true rfl) [0, 1, 2] [] ⟨rfl, by decide, rfl, by decide, by decide⟩ 0 rfl rfl rfl (fun r1 u hp => ?_)
  obtain rfl := hp
  refine g_sub (k := 0) (n := 0) (ws' := [(g, .inr (2, [.ref L, .int wc])), (L, .inr (3, [.ref la])), (la, .inl (ai, 168, .inl Lf))]) [0, 1, 2] (by decide) rfl ?_
  refine g_bipush (v := (-2)) X dX2_isShut_6 (by decide) ?_
  refine g_icmp_ne (tgt := 15) X dX2_isShut_8 (by decide) (fun b8 => ?_) (fun b8 => ?_)
  · refine g_iconst (v := nI 0) X dX2_isShut_15 (by decide) ?_
    exact g_zret X E dX2_isShut_16 () rfl (by decide) (by decide) (rfl) (by first | (rw [decide_eq_true ((cd_m2 (hL c s hc hs).2).mp b8)]; rfl) | (rw [decide_eq_false (fun q => b8 ((cd_m2 (hL c s hc hs).2).mpr q))]; rfl))
  · refine g_iconst (v := nI 1) X dX2_isShut_11 (by decide) ?_
    refine g_goto (tgt := 16) X dX2_isShut_12 (by decide) ?_
    exact g_zret X E dX2_isShut_16 () rfl (by decide) (by decide) (rfl) (by first | (rw [decide_eq_true ((cd_m2 (hL c s hc hs).2).mp b8)]; rfl) | (rw [decide_eq_false (fun q => b8 ((cd_m2 (hL c s hc hs).2).mpr q))]; rfl))

theorem ok_X2_hasWall : okName yX2_hasWall 2 := by decide +kernel
set_option maxRecDepth 100000 in
set_option maxHeartbeats 4000000 in
theorem c_X2_hasWall (l : Launch) (D : va_G) (ai az al : ClassId) (g : Nat) (L : Nat) (la : Nat) (Lf : Nat → Int32) (wc : Int32) (nb : Nat → Nat → Nat) (c : Nat) (s : Nat) (hc : c < 42) (hs : s < 4) (hL : LeadsOK Lf nb) : CI l D (tY ai az al) yX2_hasWall wsX2_hasWall { frames := 3, cells := 0, slots := 0, locals := 65 } [.ref g, .int (nI c), .int (nI s)] [(g, .inr (2, [.ref L, .int wc])), (L, .inr (3, [.ref la])), (la, .inl (ai, 168, .inl Lf))] (fun (r : Int32) (u : Unit) => (r = nI (bn (decide (nb c s = 43 ∧ bN c s ≠ 43))))) (fun (u : Unit) => [(g, .inr (2, [.ref L, .int wc])), (L, .inr (3, [.ref la])), (la, .inl (ai, 168, .inl Lf))]) := by
  refine ofG_I (cc := cX2_hasWall) (nL := 3) (lv0 := [(0, .ref g), (1, .int (nI c)), (2, .int (nI s))]) (by decide) rfl (Nat.le_of_ble_eq_true rfl) rfl ?_
  intro Γ X E
  refine g_aload_n X dX2_hasWall_0 rfl 0 rfl ?_
  refine g_iload_n X dX2_hasWall_1 rfl 1 rfl ?_
  refine g_iload_n X dX2_hasWall_2 rfl 2 rfl ?_
  refine g_callVi (C := RX2) (As := [.int (nI c), .int (nI s)]) (rest := []) (wr := []) X dX2_hasWall_3 (c_X2_isShut l D ai az al g L la Lf wc nb c s (by first | omega | assumption) (by first | omega | assumption) (by first | omega | assumption)) gX2_hasWall_X2_isShut rfl rfl ok_X2_isShut rfl rfl (by decide) ⟨by decide, by decide⟩ (Nat.le_of_ble_eq_true rfl) [0, 1, 2] [] ⟨rfl, by decide, rfl, by decide, by decide⟩ 0 rfl rfl rfl (fun r1 u hp => ?_)
  obtain rfl := hp
  refine g_sub (k := 0) (n := 0) (ws' := [(g, .inr (2, [.ref L, .int wc])), (L, .inr (3, [.ref la])), (la, .inl (ai, 168, .inl Lf))]) [0, 1, 2] (by decide) rfl ?_
  refine g_if_eqN (tgt := 23) X dX2_hasWall_6 (by decide) (bn_lt _) (fun b6 => ?_) (fun b6 => ?_)
  · refine g_iconst (v := nI 0) X dX2_hasWall_23 (by decide) ?_
    exact g_zret X E dX2_hasWall_24 () rfl (by decide) (by decide) (rfl) (by first | (rw [decide_eq_false (fun q => absurd q.1 (of_decide_eq_false (bn_0.mp b6)))]; rfl) | (rw [decide_eq_false (fun q => q.2 ((cd_m2 (bN_le hc)).mp b16))]; rfl) | (rw [decide_eq_true ⟨of_decide_eq_true (bn_n.mp b6), fun q => b16 ((cd_m2 (bN_le hc)).mpr q)⟩]; rfl))
  · refine g_iload_n X dX2_hasWall_9 rfl 1 rfl ?_
    refine g_iload_n X dX2_hasWall_10 rfl 2 rfl ?_
    refine g_callSi (As := [.int (nI c), .int (nI s)]) (rest := []) (wr := [(g, .inr (2, [.ref L, .int wc])), (L, .inr (3, [.ref la])), (la, .inl (ai, 168, .inl Lf))]) X dX2_hasWall_11 (c_X2_across l D ai az al c s (by first | omega | assumption) (by first | omega | assumption)) gX2_hasWall_X2_across rfl rfl ok_X2_across rfl rfl (by decide) ⟨by decide, by decide⟩ (Nat.le_of_ble_eq_true rfl) [] [0, 1, 2] ⟨rfl, by decide, rfl, by decide, by decide⟩ (fun r2 u hp => ?_)
    obtain rfl := hp
    refine g_sub (k := 0) (n := 0) (ws' := [(g, .inr (2, [.ref L, .int wc])), (L, .inr (3, [.ref la])), (la, .inl (ai, 168, .inl Lf))]) [0, 1, 2] (by decide) rfl ?_
    refine g_bipush (v := (-2)) X dX2_hasWall_14 (by decide) ?_
    refine g_icmp_eq (tgt := 23) X dX2_hasWall_16 (by decide) (fun b16 => ?_) (fun b16 => ?_)
    · refine g_iconst (v := nI 0) X dX2_hasWall_23 (by decide) ?_
      exact g_zret X E dX2_hasWall_24 () rfl (by decide) (by decide) (rfl) (by first | (rw [decide_eq_false (fun q => absurd q.1 (of_decide_eq_false (bn_0.mp b6)))]; rfl) | (rw [decide_eq_false (fun q => q.2 ((cd_m2 (bN_le hc)).mp b16))]; rfl) | (rw [decide_eq_true ⟨of_decide_eq_true (bn_n.mp b6), fun q => b16 ((cd_m2 (bN_le hc)).mpr q)⟩]; rfl))
    · refine g_iconst (v := nI 1) X dX2_hasWall_19 (by decide) ?_
      refine g_goto (tgt := 24) X dX2_hasWall_20 (by decide) ?_
      exact g_zret X E dX2_hasWall_24 () rfl (by decide) (by decide) (rfl) (by first | (rw [decide_eq_false (fun q => absurd q.1 (of_decide_eq_false (bn_0.mp b6)))]; rfl) | (rw [decide_eq_false (fun q => q.2 ((cd_m2 (bN_le hc)).mp b16))]; rfl) | (rw [decide_eq_true ⟨of_decide_eq_true (bn_n.mp b6), fun q => b16 ((cd_m2 (bN_le hc)).mpr q)⟩]; rfl))

theorem ok_X2_openSides : okName yX2_openSides 1 := by decide +kernel
set_option maxRecDepth 100000 in
set_option maxHeartbeats 4000000 in
theorem c_X2_openSides (l : Launch) (D : va_G) (ai az al : ClassId) (g : Nat) (L : Nat) (la : Nat) (Lf : Nat → Int32) (wc : Int32) (nb : Nat → Nat → Nat) (c : Nat) (hc : c < 42) (hL : LeadsOK Lf nb) : CI l D (tY ai az al) yX2_openSides wsX2_openSides { frames := 2, cells := 0, slots := 0, locals := 43 } [.ref g, .int (nI c)] [(g, .inr (2, [.ref L, .int wc])), (L, .inr (3, [.ref la])), (la, .inl (ai, 168, .inl Lf))] (fun (r : Int32) (u : Unit) => r = nI (odn nb c 4)) (fun (u : Unit) => [(g, .inr (2, [.ref L, .int wc])), (L, .inr (3, [.ref la])), (la, .inl (ai, 168, .inl Lf))]) := by
  refine ofG_I (cc := cX2_openSides) (nL := 4) (lv0 := [(0, .ref g), (1, .int (nI c))]) (by decide) rfl (Nat.le_of_ble_eq_true rfl) rfl ?_
  intro Γ X E
  refine g_iconst (v := nI 0) X dX2_openSides_0 (by decide) ?_
  refine g_istore_n (lv' := [(2, .int (nI 0)), (0, .ref g), (1, .int (nI c))]) X dX2_openSides_1 rfl (by decide) rfl ?_
  refine g_iconst (v := nI 0) X dX2_openSides_2 (by decide) ?_
  refine g_istore_n (lv' := [(3, .int (nI 0)), (2, .int (nI 0)), (0, .ref g), (1, .int (nI c))]) X dX2_openSides_3 rfl (by decide) rfl ?_
  have L4 : ∀ (fl : Nat) (i : Nat) (o : Nat), (i ≤ 4) → (o = odn nb c i) → (5 ≤ i + fl) → G Γ 4 0 0 [(g, .inr (2, [.ref L, .int wc])), (L, .inr (3, [.ref la])), (la, .inl (ai, 168, .inl Lf))] [(0, .ref g), (1, .int (nI c)), (2, .int (nI o)), (3, .int (nI i))] 4 [] := by
    intro fl
    induction fl with
    | zero => intro i o hi ho hm; exact absurd hm (by omega)
    | succ fl ih4 =>
      intro i o hi ho hm
      refine g_iload_n X dX2_openSides_4 rfl 3 rfl ?_
      refine g_iconst (v := nI 4) X dX2_openSides_5 (by decide) ?_
      refine g_icmp_geN (tgt := 29) X dX2_openSides_6 (by decide) (by omega) (by omega) (fun b6 => ?_) (fun b6 => ?_)
      · refine g_iload_n X dX2_openSides_29 rfl 2 rfl ?_
        exact g_iret X E dX2_openSides_30 () rfl (by decide) (by decide) (by rw [ho, show i = 4 by omega])
      · refine g_aload_n X dX2_openSides_9 rfl 0 rfl ?_
        refine g_iload_n X dX2_openSides_10 rfl 1 rfl ?_
        refine g_iload_n X dX2_openSides_11 rfl 3 rfl ?_
        refine g_callVi (C := RX2) (As := [.int (nI c), .int (nI i)]) (rest := []) (wr := []) X dX2_openSides_12 (c_X2_leadsTo l D ai az al g L la Lf wc nb c i (by first | omega | assumption) (by first | omega | assumption) (by first | omega | assumption)) gX2_openSides_X2_leadsTo rfl rfl ok_X2_leadsTo rfl rfl (by decide) ⟨by decide, by decide⟩ (Nat.le_of_ble_eq_true rfl) [0, 1, 2] [] ⟨rfl, by decide, rfl, by decide, by decide⟩ 0 rfl rfl rfl (fun r1 u hp => ?_)
        obtain rfl := hp
        refine g_sub (k := 0) (n := 0) (ws' := [(g, .inr (2, [.ref L, .int wc])), (L, .inr (3, [.ref la])), (la, .inl (ai, 168, .inl Lf))]) [0, 1, 2] (by decide) rfl ?_
        refine g_bipush (v := (-2)) X dX2_openSides_15 (by decide) ?_
        refine g_icmp_eq (tgt := 23) X dX2_openSides_17 (by decide) (fun b17 => ?_) (fun b17 => ?_)
        · refine g_iinc (v := nI (i + 1)) (lv' := [(3, .int (nI (i + 1))), (0, .ref g), (1, .int (nI c)), (2, .int (nI o))]) X dX2_openSides_23 3 rfl (nI_inc _) (by decide) rfl ?_
          refine g_goto (tgt := 4) X dX2_openSides_26 (by decide) ?_
          refine g_lv (lv' := [(0, .ref g), (1, .int (nI c)), (2, .int (nI o)), (3, .int (nI (i + 1)))]) [1, 2, 3, 0] rfl ?_
          exact ih4 (i + 1) _ (by omega) (by first | (rw [odn_shut ((cd_m2 (hL c i hc (by omega)).2).mp b17), ho]) | (rw [odn_open (fun q => b17 ((cd_m2 (hL c i hc (by omega)).2).mpr q)), ho])) (by omega)
        · refine g_iinc (v := nI (o + 1)) (lv' := [(2, .int (nI (o + 1))), (0, .ref g), (1, .int (nI c)), (3, .int (nI i))]) X dX2_openSides_20 2 rfl (nI_inc _) (by decide) rfl ?_
          refine g_iinc (v := nI (i + 1)) (lv' := [(3, .int (nI (i + 1))), (2, .int (nI (o + 1))), (0, .ref g), (1, .int (nI c))]) X dX2_openSides_23 3 rfl (nI_inc _) (by decide) rfl ?_
          refine g_goto (tgt := 4) X dX2_openSides_26 (by decide) ?_
          refine g_lv (lv' := [(0, .ref g), (1, .int (nI c)), (2, .int (nI (o + 1))), (3, .int (nI (i + 1)))]) [2, 3, 1, 0] rfl ?_
          exact ih4 (i + 1) (o + 1) (by omega) (by first | (rw [odn_shut ((cd_m2 (hL c i hc (by omega)).2).mp b17), ho]) | (rw [odn_open (fun q => b17 ((cd_m2 (hL c i hc (by omega)).2).mpr q)), ho])) (by omega)
  refine g_lv (lv' := [(0, .ref g), (1, .int (nI c)), (2, .int (nI 0)), (3, .int (nI 0))]) [2, 3, 1, 0] rfl ?_
  exact L4 5 0 0 (by decide) (rfl) (by decide)

theorem ok_X2_build : okName yX2_build 2 := by decide +kernel
theorem in_X2_build_X2 : ∀ w ∈ u_ws RX2 TX2 2, w ∈ wsX2_build := by decide +kernel
set_option maxRecDepth 100000 in
set_option maxHeartbeats 4000000 in
theorem c_X2_build (l : Launch) (D : va_G) (ai az al : ClassId) (g : Nat) (L : Nat) (la : Nat) (Lf : Nat → Int32) (wc : Int32) (nb : Nat → Nat → Nat) (c : Nat) (s : Nat) (hc : c < 42) (hs : s < 4) (hL : LeadsOK Lf nb) : CV l D (tY ai az al) yX2_build wsX2_build { frames := 1, cells := 0, slots := 0, locals := 23 } [.ref g, .int (nI c), .int (nI s)] [(g, .inr (2, [.ref L, .int wc])), (L, .inr (3, [.ref la])), (la, .inl (ai, 168, .inl Lf))] (fun (u : (Nat → Int32)) => LeadsOK u (setS nb c s true)) (fun (u : (Nat → Int32)) => [(g, .inr (2, [.ref L, .int (wc + nI 1)])), (L, .inr (3, [.ref la])), (la, .inl (ai, 168, .inl u))]) := by
  refine ofG_V (cc := cX2_build) (nL := 4) (lv0 := [(0, .ref g), (1, .int (nI c)), (2, .int (nI s))]) (by decide) rfl (Nat.le_of_ble_eq_true rfl) rfl ?_
  intro Γ X E hinit
  refine g_iload_n X dX2_build_0 rfl 1 rfl ?_
  refine g_iload_n X dX2_build_1 rfl 2 rfl ?_
  refine g_callSi (As := [.int (nI c), .int (nI s)]) (rest := []) (wr := [(g, .inr (2, [.ref L, .int wc])), (L, .inr (3, [.ref la])), (la, .inl (ai, 168, .inl Lf))]) X dX2_build_2 (c_X2_across l D ai az al c s (by first | omega | assumption) (by first | omega | assumption)) gX2_build_X2_across rfl rfl ok_X2_across rfl rfl (by decide) ⟨by decide, by decide⟩ (Nat.le_of_ble_eq_true rfl) [] [0, 1, 2] ⟨rfl, by decide, rfl, by decide, by decide⟩ (fun r1 u hp => ?_)
  obtain rfl := hp
  refine g_sub (k := 0) (n := 0) (ws' := [(g, .inr (2, [.ref L, .int wc])), (L, .inr (3, [.ref la])), (la, .inl (ai, 168, .inl Lf))]) [0, 1, 2] (by decide) rfl ?_
  refine g_istore_n (lv' := [(3, .int (cd (bN c s))), (0, .ref g), (1, .int (nI c)), (2, .int (nI s))]) X dX2_build_5 rfl (by decide) rfl ?_
  refine g_aload_n X dX2_build_6 rfl 1 rfl ?_
  refine g_getf (T := TX2) (v := .ref L) X dX2_build_7 0 rfl rfl in_X2_build_X2 0 (by decide) (by decide +kernel) rfl rfl ?_
  refine g_iload_n X dX2_build_10 rfl 2 rfl ?_
  refine g_iload_n X dX2_build_11 rfl 3 rfl ?_
  refine g_callNi (As := [.int (nI c), .int (nI s)]) (rest := [.ref L]) (wr := [(g, .inr (2, [.ref L, .int wc])), (L, .inr (3, [.ref la])), (la, .inl (ai, 168, .inl Lf))]) X dX2_build_12 (c_X8_placeOf l D ai az al c s ) gX2_build_X8_placeOf_n20 rfl 21 rfl (by decide +kernel) (by decide +kernel) ok_X8_placeOf rfl rfl (by decide) ⟨by decide, by decide⟩ (Nat.le_of_ble_eq_true rfl) [] [0, 1, 2] ⟨rfl, by decide, rfl, by decide, by decide⟩ (fun r2 u hp => ?_)
  obtain rfl := hp
  refine g_sub (k := 0) (n := 0) (ws' := [(g, .inr (2, [.ref L, .int wc])), (L, .inr (3, [.ref la])), (la, .inl (ai, 168, .inl Lf))]) [0, 1, 2] (by decide) rfl ?_
  refine g_bipush (v := (-2)) X dX2_build_15 (by decide) ?_
  refine g_callVv (C := RX3) (As := [.int (nI (c * 4 + s)), .int (-2)]) (rest := []) (wr := [(g, .inr (2, [.ref L, .int wc]))]) X dX2_build_17 (c_X3_putN l D ai az al L la 168 Lf (c * 4 + s) (-2) (by decide) (by omega)) gX2_build_X3_put rfl rfl ok_X3_put rfl rfl (by decide) ⟨by decide, by decide⟩ (Nat.le_of_ble_eq_true rfl) [1, 2] [0] ⟨rfl, by decide, rfl, by decide, by decide⟩ 0 rfl rfl rfl (fun u hp => ?_)
  refine g_sub (k := 0) (n := 0) (ws' := [(g, .inr (2, [.ref L, .int wc])), (L, .inr (3, [.ref la])), (la, .inl (ai, 168, .inl (upd Lf (c * 4 + s) ((-2)))))]) [0, 1, 2] (by decide) rfl ?_
  refine g_iload_n X dX2_build_20 rfl 0 rfl ?_
  refine g_callNi (As := [.int (cd (bN c s))]) (rest := []) (wr := [(g, .inr (2, [.ref L, .int wc])), (L, .inr (3, [.ref la])), (la, .inl (ai, 168, .inl (upd Lf (c * 4 + s) ((-2)))))]) X dX2_build_21 (c_X8_isCellD l D ai az al (bN c s) (bN_le hc)) gX2_build_X8_isCell_n42 rfl 22 rfl (by decide +kernel) (by decide +kernel) ok_X8_isCell rfl rfl (by decide) ⟨by decide, by decide⟩ (Nat.le_of_ble_eq_true rfl) [] [0, 1, 2] ⟨rfl, by decide, rfl, by decide, by decide⟩ (fun r3 u hp => ?_)
  obtain rfl := hp
  refine g_sub (k := 0) (n := 0) (ws' := [(g, .inr (2, [.ref L, .int wc])), (L, .inr (3, [.ref la])), (la, .inl (ai, 168, .inl (upd Lf (c * 4 + s) ((-2)))))]) [0, 1, 2] (by decide) rfl ?_
  refine g_if_eqN (tgt := 44) X dX2_build_24 (by decide) isC_lt (fun b24 => ?_) (fun b24 => ?_)
  · refine g_aload_n X dX2_build_44 rfl 1 rfl ?_
    refine g_dup X dX2_build_45 rfl ?_
    refine g_getf (T := TX2) (v := .int wc) X dX2_build_46 0 rfl rfl in_X2_build_X2 1 (by decide) (by decide +kernel) rfl rfl ?_
    refine g_iconst (v := nI 1) X dX2_build_49 (by decide) ?_
    refine g_iadd (v := (wc + nI 1)) X dX2_build_50 (rfl) ?_
    refine g_putf (T := TX2) (v := .int (wc + nI 1)) (ty := tyX2 1) (ws' := [(g, .inr (2, [.ref L, .int (wc + nI 1)])), (L, .inr (3, [.ref la])), (la, .inl (ai, 168, .inl (upd Lf (c * 4 + s) ((-2)))))]) X dX2_build_51 0 rfl rfl in_X2_build_X2 tyX2 tyX2_ok nmX2 1 (by decide) (by decide +kernel) rfl rfl (by decide +kernel) rfl rfl (Nat.le_of_ble_eq_true rfl) rfl ?_
    exact g_vret X E dX2_build_54 (upd Lf (c * 4 + s) ((-2))) rfl (by decide) (by decide) (by
        have hlt := isC_lt (d := bN c s)
        first
        | (have hd : ¬ bN c s < 42 := isC_0.mp b24
           exact hL.set hc hs true upd_at (fun q => absurd q hd) (fun k h1 _ => upd_ne h1))
        | (have hd : bN c s < 42 := isC_n.mp b24
           have hbk := bN_back c hc s hs hd
           exact hL.set hc hs true ((upd_ne (by omega)).trans upd_at) (fun _ => upd_at) (fun k h1 h2 => (upd_ne (h2 hd)).trans (upd_ne h1))))
  · have hd : bN c s < 42 := isC_n.mp b24
    have ho4 := opp_lt hs
    refine g_lv (lv' := [(3, .int (nI (bN c s))), (0, .ref g), (1, .int (nI c)), (2, .int (nI s))]) [0, 1, 2, 3] (by rw [cd_lt hd]; rfl) ?_
    refine g_aload_n X dX2_build_27 rfl 1 rfl ?_
    refine g_getf (T := TX2) (v := .ref L) X dX2_build_28 0 rfl rfl in_X2_build_X2 0 (by decide) (by decide +kernel) rfl rfl ?_
    refine g_iload_n X dX2_build_31 rfl 0 rfl ?_
    refine g_iload_n X dX2_build_32 rfl 3 rfl ?_
    refine g_callNi (As := [.int (nI s)]) (rest := [.int (nI (bN c s)), .ref L]) (wr := [(g, .inr (2, [.ref L, .int wc])), (L, .inr (3, [.ref la])), (la, .inl (ai, 168, .inl (upd Lf (c * 4 + s) ((-2)))))]) X dX2_build_33 (c_X8_opposite l D ai az al s (hs)) gX2_build_X8_opposite_n46 rfl 23 rfl (by decide +kernel) (by decide +kernel) ok_X8_opposite rfl rfl (by decide) ⟨by decide, by decide⟩ (Nat.le_of_ble_eq_true rfl) [] [0, 1, 2] ⟨rfl, by decide, rfl, by decide, by decide⟩ (fun r4 u hp => ?_)
    obtain rfl := hp
    refine g_sub (k := 0) (n := 0) (ws' := [(g, .inr (2, [.ref L, .int wc])), (L, .inr (3, [.ref la])), (la, .inl (ai, 168, .inl (upd Lf (c * 4 + s) ((-2)))))]) [0, 1, 2] (by decide) rfl ?_
    refine g_callNi (As := [.int (nI (bN c s)), .int (nI (opp s))]) (rest := [.ref L]) (wr := [(g, .inr (2, [.ref L, .int wc])), (L, .inr (3, [.ref la])), (la, .inl (ai, 168, .inl (upd Lf (c * 4 + s) ((-2)))))]) X dX2_build_36 (c_X8_placeOf l D ai az al (bN c s) (opp s) ) gX2_build_X8_placeOf_n20 rfl 21 rfl (by decide +kernel) (by decide +kernel) ok_X8_placeOf rfl rfl (by decide) ⟨by decide, by decide⟩ (Nat.le_of_ble_eq_true rfl) [] [0, 1, 2] ⟨rfl, by decide, rfl, by decide, by decide⟩ (fun r5 u hp => ?_)
    obtain rfl := hp
    refine g_sub (k := 0) (n := 0) (ws' := [(g, .inr (2, [.ref L, .int wc])), (L, .inr (3, [.ref la])), (la, .inl (ai, 168, .inl (upd Lf (c * 4 + s) ((-2)))))]) [0, 1, 2] (by decide) rfl ?_
    refine g_bipush (v := (-2)) X dX2_build_39 (by decide) ?_
    refine g_callVv (C := RX3) (As := [.int (nI ((bN c s) * 4 + (opp s))), .int (-2)]) (rest := []) (wr := [(g, .inr (2, [.ref L, .int wc]))]) X dX2_build_41 (c_X3_putN l D ai az al L la 168 (upd Lf (c * 4 + s) ((-2))) ((bN c s) * 4 + (opp s)) (-2) (by decide) (by omega)) gX2_build_X3_put rfl rfl ok_X3_put rfl rfl (by decide) ⟨by decide, by decide⟩ (Nat.le_of_ble_eq_true rfl) [1, 2] [0] ⟨rfl, by decide, rfl, by decide, by decide⟩ 0 rfl rfl rfl (fun u hp => ?_)
    refine g_sub (k := 0) (n := 0) (ws' := [(g, .inr (2, [.ref L, .int wc])), (L, .inr (3, [.ref la])), (la, .inl (ai, 168, .inl (upd (upd Lf (c * 4 + s) ((-2))) ((bN c s) * 4 + (opp s)) ((-2)))))]) [0, 1, 2] (by decide) rfl ?_
    refine g_aload_n X dX2_build_44 rfl 1 rfl ?_
    refine g_dup X dX2_build_45 rfl ?_
    refine g_getf (T := TX2) (v := .int wc) X dX2_build_46 0 rfl rfl in_X2_build_X2 1 (by decide) (by decide +kernel) rfl rfl ?_
    refine g_iconst (v := nI 1) X dX2_build_49 (by decide) ?_
    refine g_iadd (v := (wc + nI 1)) X dX2_build_50 (rfl) ?_
    refine g_putf (T := TX2) (v := .int (wc + nI 1)) (ty := tyX2 1) (ws' := [(g, .inr (2, [.ref L, .int (wc + nI 1)])), (L, .inr (3, [.ref la])), (la, .inl (ai, 168, .inl (upd (upd Lf (c * 4 + s) ((-2))) ((bN c s) * 4 + (opp s)) ((-2)))))]) X dX2_build_51 0 rfl rfl in_X2_build_X2 tyX2 tyX2_ok nmX2 1 (by decide) (by decide +kernel) rfl rfl (by decide +kernel) rfl rfl (Nat.le_of_ble_eq_true rfl) rfl ?_
    exact g_vret X E dX2_build_54 (upd (upd Lf (c * 4 + s) ((-2))) ((bN c s) * 4 + (opp s)) ((-2))) rfl (by decide) (by decide) (by
        have hlt := isC_lt (d := bN c s)
        first
        | (have hd : ¬ bN c s < 42 := isC_0.mp b24
           exact hL.set hc hs true upd_at (fun q => absurd q hd) (fun k h1 _ => upd_ne h1))
        | (have hd : bN c s < 42 := isC_n.mp b24
           have hbk := bN_back c hc s hs hd
           exact hL.set hc hs true ((upd_ne (by omega)).trans upd_at) (fun _ => upd_at) (fun k h1 h2 => (upd_ne (h2 hd)).trans (upd_ne h1))))

theorem ok_X2_pullDown : okName yX2_pullDown 2 := by decide +kernel
theorem in_X2_pullDown_X2 : ∀ w ∈ u_ws RX2 TX2 2, w ∈ wsX2_pullDown := by decide +kernel
set_option maxRecDepth 100000 in
set_option maxHeartbeats 4000000 in
theorem c_X2_pullDown (l : Launch) (D : va_G) (ai az al : ClassId) (g : Nat) (L : Nat) (la : Nat) (Lf : Nat → Int32) (wc : Int32) (nb : Nat → Nat → Nat) (c : Nat) (s : Nat) (hc : c < 42) (hs : s < 4) (hL : LeadsOK Lf nb) : CV l D (tY ai az al) yX2_pullDown wsX2_pullDown { frames := 1, cells := 0, slots := 0, locals := 23 } [.ref g, .int (nI c), .int (nI s)] [(g, .inr (2, [.ref L, .int wc])), (L, .inr (3, [.ref la])), (la, .inl (ai, 168, .inl Lf))] (fun (u : (Nat → Int32)) => LeadsOK u (setS nb c s false)) (fun (u : (Nat → Int32)) => [(g, .inr (2, [.ref L, .int (wc - nI 1)])), (L, .inr (3, [.ref la])), (la, .inl (ai, 168, .inl u))]) := by
  refine ofG_V (cc := cX2_pullDown) (nL := 4) (lv0 := [(0, .ref g), (1, .int (nI c)), (2, .int (nI s))]) (by decide) rfl (Nat.le_of_ble_eq_true rfl) rfl ?_
  intro Γ X E hinit
  refine g_iload_n X dX2_pullDown_0 rfl 1 rfl ?_
  refine g_iload_n X dX2_pullDown_1 rfl 2 rfl ?_
  refine g_callSi (As := [.int (nI c), .int (nI s)]) (rest := []) (wr := [(g, .inr (2, [.ref L, .int wc])), (L, .inr (3, [.ref la])), (la, .inl (ai, 168, .inl Lf))]) X dX2_pullDown_2 (c_X2_across l D ai az al c s (by first | omega | assumption) (by first | omega | assumption)) gX2_pullDown_X2_across rfl rfl ok_X2_across rfl rfl (by decide) ⟨by decide, by decide⟩ (Nat.le_of_ble_eq_true rfl) [] [0, 1, 2] ⟨rfl, by decide, rfl, by decide, by decide⟩ (fun r1 u hp => ?_)
  obtain rfl := hp
  refine g_sub (k := 0) (n := 0) (ws' := [(g, .inr (2, [.ref L, .int wc])), (L, .inr (3, [.ref la])), (la, .inl (ai, 168, .inl Lf))]) [0, 1, 2] (by decide) rfl ?_
  refine g_istore_n (lv' := [(3, .int (cd (bN c s))), (0, .ref g), (1, .int (nI c)), (2, .int (nI s))]) X dX2_pullDown_5 rfl (by decide) rfl ?_
  refine g_aload_n X dX2_pullDown_6 rfl 1 rfl ?_
  refine g_getf (T := TX2) (v := .ref L) X dX2_pullDown_7 0 rfl rfl in_X2_pullDown_X2 0 (by decide) (by decide +kernel) rfl rfl ?_
  refine g_iload_n X dX2_pullDown_10 rfl 2 rfl ?_
  refine g_iload_n X dX2_pullDown_11 rfl 3 rfl ?_
  refine g_callNi (As := [.int (nI c), .int (nI s)]) (rest := [.ref L]) (wr := [(g, .inr (2, [.ref L, .int wc])), (L, .inr (3, [.ref la])), (la, .inl (ai, 168, .inl Lf))]) X dX2_pullDown_12 (c_X8_placeOf l D ai az al c s ) gX2_pullDown_X8_placeOf_n20 rfl 21 rfl (by decide +kernel) (by decide +kernel) ok_X8_placeOf rfl rfl (by decide) ⟨by decide, by decide⟩ (Nat.le_of_ble_eq_true rfl) [] [0, 1, 2] ⟨rfl, by decide, rfl, by decide, by decide⟩ (fun r2 u hp => ?_)
  obtain rfl := hp
  refine g_sub (k := 0) (n := 0) (ws' := [(g, .inr (2, [.ref L, .int wc])), (L, .inr (3, [.ref la])), (la, .inl (ai, 168, .inl Lf))]) [0, 1, 2] (by decide) rfl ?_
  refine g_iload_n X dX2_pullDown_15 rfl 0 rfl ?_
  refine g_callVv (C := RX3) (As := [.int (nI (c * 4 + s)), .int (cd (bN c s))]) (rest := []) (wr := [(g, .inr (2, [.ref L, .int wc]))]) X dX2_pullDown_16 (c_X3_putN l D ai az al L la 168 Lf (c * 4 + s) (cd (bN c s)) (by decide) (by omega)) gX2_pullDown_X3_put rfl rfl ok_X3_put rfl rfl (by decide) ⟨by decide, by decide⟩ (Nat.le_of_ble_eq_true rfl) [1, 2] [0] ⟨rfl, by decide, rfl, by decide, by decide⟩ 0 rfl rfl rfl (fun u hp => ?_)
  refine g_sub (k := 0) (n := 0) (ws' := [(g, .inr (2, [.ref L, .int wc])), (L, .inr (3, [.ref la])), (la, .inl (ai, 168, .inl (upd Lf (c * 4 + s) ((cd (bN c s))))))]) [0, 1, 2] (by decide) rfl ?_
  refine g_iload_n X dX2_pullDown_19 rfl 0 rfl ?_
  refine g_callNi (As := [.int (cd (bN c s))]) (rest := []) (wr := [(g, .inr (2, [.ref L, .int wc])), (L, .inr (3, [.ref la])), (la, .inl (ai, 168, .inl (upd Lf (c * 4 + s) ((cd (bN c s))))))]) X dX2_pullDown_20 (c_X8_isCellD l D ai az al (bN c s) (bN_le hc)) gX2_pullDown_X8_isCell_n42 rfl 22 rfl (by decide +kernel) (by decide +kernel) ok_X8_isCell rfl rfl (by decide) ⟨by decide, by decide⟩ (Nat.le_of_ble_eq_true rfl) [] [0, 1, 2] ⟨rfl, by decide, rfl, by decide, by decide⟩ (fun r3 u hp => ?_)
  obtain rfl := hp
  refine g_sub (k := 0) (n := 0) (ws' := [(g, .inr (2, [.ref L, .int wc])), (L, .inr (3, [.ref la])), (la, .inl (ai, 168, .inl (upd Lf (c * 4 + s) ((cd (bN c s))))))]) [0, 1, 2] (by decide) rfl ?_
  refine g_if_eqN (tgt := 42) X dX2_pullDown_23 (by decide) isC_lt (fun b23 => ?_) (fun b23 => ?_)
  · refine g_aload_n X dX2_pullDown_42 rfl 1 rfl ?_
    refine g_dup X dX2_pullDown_43 rfl ?_
    refine g_getf (T := TX2) (v := .int wc) X dX2_pullDown_44 0 rfl rfl in_X2_pullDown_X2 1 (by decide) (by decide +kernel) rfl rfl ?_
    refine g_iconst (v := nI 1) X dX2_pullDown_47 (by decide) ?_
    refine g_isub (v := (wc - nI 1)) X dX2_pullDown_48 (rfl) ?_
    refine g_putf (T := TX2) (v := .int (wc - nI 1)) (ty := tyX2 1) (ws' := [(g, .inr (2, [.ref L, .int (wc - nI 1)])), (L, .inr (3, [.ref la])), (la, .inl (ai, 168, .inl (upd Lf (c * 4 + s) ((cd (bN c s))))))]) X dX2_pullDown_49 0 rfl rfl in_X2_pullDown_X2 tyX2 tyX2_ok nmX2 1 (by decide) (by decide +kernel) rfl rfl (by decide +kernel) rfl rfl (Nat.le_of_ble_eq_true rfl) rfl ?_
    exact g_vret X E dX2_pullDown_52 (upd Lf (c * 4 + s) ((cd (bN c s)))) rfl (by decide) (by decide) (by
        have hlt := isC_lt (d := bN c s)
        first
        | (have hd : ¬ bN c s < 42 := isC_0.mp b23
           exact hL.set hc hs false upd_at (fun q => absurd q hd) (fun k h1 _ => upd_ne h1))
        | (have hd : bN c s < 42 := isC_n.mp b23
           have hbk := bN_back c hc s hs hd
           exact hL.set hc hs false ((upd_ne (by omega)).trans upd_at) (fun _ => upd_at.trans (cd_lt hc).symm) (fun k h1 h2 => (upd_ne (h2 hd)).trans (upd_ne h1))))
  · have hd : bN c s < 42 := isC_n.mp b23
    have ho4 := opp_lt hs
    refine g_lv (lv' := [(3, .int (nI (bN c s))), (0, .ref g), (1, .int (nI c)), (2, .int (nI s))]) [0, 1, 2, 3] (by rw [cd_lt hd]; rfl) ?_
    refine g_aload_n X dX2_pullDown_26 rfl 1 rfl ?_
    refine g_getf (T := TX2) (v := .ref L) X dX2_pullDown_27 0 rfl rfl in_X2_pullDown_X2 0 (by decide) (by decide +kernel) rfl rfl ?_
    refine g_iload_n X dX2_pullDown_30 rfl 0 rfl ?_
    refine g_iload_n X dX2_pullDown_31 rfl 3 rfl ?_
    refine g_callNi (As := [.int (nI s)]) (rest := [.int (nI (bN c s)), .ref L]) (wr := [(g, .inr (2, [.ref L, .int wc])), (L, .inr (3, [.ref la])), (la, .inl (ai, 168, .inl (upd Lf (c * 4 + s) ((cd (bN c s))))))]) X dX2_pullDown_32 (c_X8_opposite l D ai az al s (hs)) gX2_pullDown_X8_opposite_n46 rfl 23 rfl (by decide +kernel) (by decide +kernel) ok_X8_opposite rfl rfl (by decide) ⟨by decide, by decide⟩ (Nat.le_of_ble_eq_true rfl) [] [0, 1, 2] ⟨rfl, by decide, rfl, by decide, by decide⟩ (fun r4 u hp => ?_)
    obtain rfl := hp
    refine g_sub (k := 0) (n := 0) (ws' := [(g, .inr (2, [.ref L, .int wc])), (L, .inr (3, [.ref la])), (la, .inl (ai, 168, .inl (upd Lf (c * 4 + s) ((cd (bN c s))))))]) [0, 1, 2] (by decide) rfl ?_
    refine g_callNi (As := [.int (nI (bN c s)), .int (nI (opp s))]) (rest := [.ref L]) (wr := [(g, .inr (2, [.ref L, .int wc])), (L, .inr (3, [.ref la])), (la, .inl (ai, 168, .inl (upd Lf (c * 4 + s) ((cd (bN c s))))))]) X dX2_pullDown_35 (c_X8_placeOf l D ai az al (bN c s) (opp s) ) gX2_pullDown_X8_placeOf_n20 rfl 21 rfl (by decide +kernel) (by decide +kernel) ok_X8_placeOf rfl rfl (by decide) ⟨by decide, by decide⟩ (Nat.le_of_ble_eq_true rfl) [] [0, 1, 2] ⟨rfl, by decide, rfl, by decide, by decide⟩ (fun r5 u hp => ?_)
    obtain rfl := hp
    refine g_sub (k := 0) (n := 0) (ws' := [(g, .inr (2, [.ref L, .int wc])), (L, .inr (3, [.ref la])), (la, .inl (ai, 168, .inl (upd Lf (c * 4 + s) ((cd (bN c s))))))]) [0, 1, 2] (by decide) rfl ?_
    refine g_iload_n X dX2_pullDown_38 rfl 2 rfl ?_
    refine g_callVv (C := RX3) (As := [.int (nI ((bN c s) * 4 + (opp s))), .int (nI c)]) (rest := []) (wr := [(g, .inr (2, [.ref L, .int wc]))]) X dX2_pullDown_39 (c_X3_putN l D ai az al L la 168 (upd Lf (c * 4 + s) ((cd (bN c s)))) ((bN c s) * 4 + (opp s)) (nI c) (by decide) (by omega)) gX2_pullDown_X3_put rfl rfl ok_X3_put rfl rfl (by decide) ⟨by decide, by decide⟩ (Nat.le_of_ble_eq_true rfl) [1, 2] [0] ⟨rfl, by decide, rfl, by decide, by decide⟩ 0 rfl rfl rfl (fun u hp => ?_)
    refine g_sub (k := 0) (n := 0) (ws' := [(g, .inr (2, [.ref L, .int wc])), (L, .inr (3, [.ref la])), (la, .inl (ai, 168, .inl (upd (upd Lf (c * 4 + s) ((cd (bN c s)))) ((bN c s) * 4 + (opp s)) ((nI c)))))]) [0, 1, 2] (by decide) rfl ?_
    refine g_aload_n X dX2_pullDown_42 rfl 1 rfl ?_
    refine g_dup X dX2_pullDown_43 rfl ?_
    refine g_getf (T := TX2) (v := .int wc) X dX2_pullDown_44 0 rfl rfl in_X2_pullDown_X2 1 (by decide) (by decide +kernel) rfl rfl ?_
    refine g_iconst (v := nI 1) X dX2_pullDown_47 (by decide) ?_
    refine g_isub (v := (wc - nI 1)) X dX2_pullDown_48 (rfl) ?_
    refine g_putf (T := TX2) (v := .int (wc - nI 1)) (ty := tyX2 1) (ws' := [(g, .inr (2, [.ref L, .int (wc - nI 1)])), (L, .inr (3, [.ref la])), (la, .inl (ai, 168, .inl (upd (upd Lf (c * 4 + s) ((cd (bN c s)))) ((bN c s) * 4 + (opp s)) ((nI c)))))]) X dX2_pullDown_49 0 rfl rfl in_X2_pullDown_X2 tyX2 tyX2_ok nmX2 1 (by decide) (by decide +kernel) rfl rfl (by decide +kernel) rfl rfl (Nat.le_of_ble_eq_true rfl) rfl ?_
    exact g_vret X E dX2_pullDown_52 (upd (upd Lf (c * 4 + s) ((cd (bN c s)))) ((bN c s) * 4 + (opp s)) ((nI c))) rfl (by decide) (by decide) (by
        have hlt := isC_lt (d := bN c s)
        first
        | (have hd : ¬ bN c s < 42 := isC_0.mp b23
           exact hL.set hc hs false upd_at (fun q => absurd q hd) (fun k h1 _ => upd_ne h1))
        | (have hd : bN c s < 42 := isC_n.mp b23
           have hbk := bN_back c hc s hs hd
           exact hL.set hc hs false ((upd_ne (by omega)).trans upd_at) (fun _ => upd_at.trans (cd_lt hc).symm) (fun k h1 h2 => (upd_ne (h2 hd)).trans (upd_ne h1))))

theorem ok_X2_init : okName yX2_init 0 := by decide +kernel
theorem in_X2_init_X3 : ∀ w ∈ u_ws RX3 TX3 1, w ∈ wsX2_init := by decide +kernel
theorem in_X2_init_X2 : ∀ w ∈ u_ws RX2 TX2 2, w ∈ wsX2_init := by decide +kernel
set_option maxRecDepth 100000 in
set_option maxHeartbeats 4000000 in
theorem c_X2_init (l : Launch) (D : va_G) (ai az al : ClassId) (g : Nat) : CV l D (tY ai az al) yX2_init wsX2_init { frames := 2, cells := 2, slots := 169, locals := 41 } [.ref g] [(g, .inr (2, [.null, .int (nI 0)]))] (fun (u : Nat × Nat × (Nat → Int32)) => LeadsOK u.2.2 bN) (fun (u : Nat × Nat × (Nat → Int32)) => [(g, .inr (2, [.ref u.1, .int (nI 0)])), (u.1, .inr (3, [.ref u.2.1])), (u.2.1, .inl (ai, 168, .inl u.2.2))]) := by
  refine ofG_V (cc := cX2_init) (nL := 3) (lv0 := [(0, .ref g)]) (by decide) rfl (Nat.le_of_ble_eq_true rfl) rfl ?_
  intro Γ X E hinit
  have hinit := hinit rfl
  refine g_aload_n X dX2_init_0 rfl 0 rfl ?_
  refine g_objInit X dX2_init_1 (by decide +kernel) (by decide +kernel) (by decide +kernel) (by decide) (by decide) ?_
  refine g_aload_n X dX2_init_4 rfl 0 rfl ?_
  refine g_new (T := TX3) (ci := 3) (fs := [.null]) X dX2_init_5 rfl in_X2_init_X3 tyX3 tyX3_ok (by decide +kernel) (by decide +kernel) (by decide +kernel) (by intro j hj; exact fs_X3 j hj) (by decide) (by decide) (fun q1 => ?_)
  refine g_sub (k := 1) (n := 1) (ws' := [(g, .inr (2, [.null, .int (nI 0)])), (q1, .inr (3, [.null]))]) [0, 1] (by decide) rfl ?_
  refine g_dup X dX2_init_8 rfl ?_
  refine g_sipush (v := nI 168) X dX2_init_9 (by decide) ?_
  refine g_callI (As := [.int (nI 168)]) (rest := [.ref q1, .ref g]) (wr := [(g, .inr (2, [.null, .int (nI 0)]))]) X dX2_init_12 (c_X3_init168 l D ai az al q1 ) gX2_init_X3_init rfl (by decide +kernel) (by decide +kernel) (by decide +kernel) rfl ok_X3_init rfl rfl (by decide) ⟨by decide, by decide⟩ (Nat.le_of_ble_eq_true rfl) [1] [0] ⟨rfl, by decide, rfl, by decide, by decide⟩ (fun a2 hp => ?_)
  refine g_sub (k := 2) (n := 169) (ws' := [(g, .inr (2, [.null, .int (nI 0)])), (q1, .inr (3, [.ref a2])), (a2, .inl (ai, 168, .inl (fun _ => 0)))]) [0, 1, 2] (by decide) rfl ?_
  refine g_putfF (T := TX2) (v := .ref q1) (ty := tyX2 0) (ws' := [(g, .inr (2, [.ref q1, .int (nI 0)])), (q1, .inr (3, [.ref a2])), (a2, .inl (ai, 168, .inl (fun _ => 0)))]) X dX2_init_15 0 rfl rfl in_X2_init_X2 tyX2 tyX2_ok nmX2 0 (by decide) (by decide +kernel) rfl rfl hinit rfl (by decide +kernel) rfl rfl (Nat.le_of_ble_eq_true rfl) rfl ?_
  refine g_iconst (v := nI 0) X dX2_init_18 (by decide) ?_
  refine g_istore_n (lv' := [(1, .int (nI 0)), (0, .ref g)]) X dX2_init_19 rfl (by decide) rfl ?_
  have L20 : ∀ (fl : Nat) (i : Nat) (e : Nat → Int32), (i ≤ 42) → (∀ k, k < i * 4 → e k = cd (bN (k / 4) (k % 4))) → (43 ≤ i + fl) → G Γ 3 2 169 [(g, .inr (2, [.ref q1, .int (nI 0)])), (q1, .inr (3, [.ref a2])), (a2, .inl (ai, 168, .inl e))] [(0, .ref g), (1, .int (nI i))] 20 [] := by
    intro fl
    induction fl with
    | zero => intro i e hi he hm; exact absurd hm (by omega)
    | succ fl ih20 =>
      intro i e hi he hm
      refine g_iload_n X dX2_init_20 rfl 1 rfl ?_
      refine g_bipush (v := nI 42) X dX2_init_21 (by decide) ?_
      refine g_icmp_geN (tgt := 62) X dX2_init_23 (by decide) (by omega) (by omega) (fun b23 => ?_) (fun b23 => ?_)
      · exact g_vret X E dX2_init_62 (⟨q1, a2, e⟩) rfl (by decide) (by decide) (LeadsOK.init (fun k hk => he k (by omega)))
      · refine g_iconst (v := nI 0) X dX2_init_26 (by decide) ?_
        refine g_istore_n (lv' := [(2, .int (nI 0)), (0, .ref g), (1, .int (nI i))]) X dX2_init_27 rfl (by decide) rfl ?_
        have L28 : ∀ (fm : Nat) (j : Nat) (f : Nat → Int32), (j ≤ 4) → (∀ k, k < i * 4 + j → f k = cd (bN (k / 4) (k % 4))) → (5 ≤ j + fm) → G Γ 3 2 169 [(g, .inr (2, [.ref q1, .int (nI 0)])), (q1, .inr (3, [.ref a2])), (a2, .inl (ai, 168, .inl f))] [(0, .ref g), (1, .int (nI i)), (2, .int (nI j))] 28 [] := by
          intro fm
          induction fm with
          | zero => intro j f hj hf hn; exact absurd hn (by omega)
          | succ fm ih28 =>
            intro j f hj hf hn
            refine g_iload_n X dX2_init_28 rfl 2 rfl ?_
            refine g_iconst (v := nI 4) X dX2_init_29 (by decide) ?_
            refine g_icmp_geN (tgt := 56) X dX2_init_30 (by decide) (by omega) (by omega) (fun b30 => ?_) (fun b30 => ?_)
            · refine g_iinc (v := nI (i + 1)) (lv' := [(1, .int (nI (i + 1))), (0, .ref g), (2, .int (nI j))]) X dX2_init_56 1 rfl (nI_inc _) (by decide) rfl ?_
              refine g_goto (tgt := 20) X dX2_init_59 (by decide) ?_
              refine g_lv (lv' := [(0, .ref g), (1, .int (nI (i + 1)))]) [1, 0] rfl ?_
              exact ih20 (i + 1) f (by omega) (fun k hk => hf k (by omega)) (by omega)
            · refine g_aload_n X dX2_init_33 rfl 0 rfl ?_
              refine g_getf (T := TX2) (v := .ref q1) X dX2_init_34 0 rfl rfl in_X2_init_X2 0 (by decide) (by decide +kernel) rfl rfl ?_
              refine g_iload_n X dX2_init_37 rfl 1 rfl ?_
              refine g_iload_n X dX2_init_38 rfl 2 rfl ?_
              refine g_callNi (As := [.int (nI i), .int (nI j)]) (rest := [.ref q1]) (wr := [(g, .inr (2, [.ref q1, .int (nI 0)])), (q1, .inr (3, [.ref a2])), (a2, .inl (ai, 168, .inl f))]) X dX2_init_39 (c_X8_placeOf l D ai az al i j ) gX2_init_X8_placeOf_n20 rfl 21 rfl (by decide +kernel) (by decide +kernel) ok_X8_placeOf rfl rfl (by decide) ⟨by decide, by decide⟩ (Nat.le_of_ble_eq_true rfl) [] [0, 1, 2] ⟨rfl, by decide, rfl, by decide, by decide⟩ (fun r3 u hp => ?_)
              obtain rfl := hp
              refine g_sub (k := 2) (n := 169) (ws' := [(g, .inr (2, [.ref q1, .int (nI 0)])), (q1, .inr (3, [.ref a2])), (a2, .inl (ai, 168, .inl f))]) [0, 1, 2] (by decide) rfl ?_
              refine g_iload_n X dX2_init_42 rfl 1 rfl ?_
              refine g_iload_n X dX2_init_43 rfl 2 rfl ?_
              refine g_callSi (As := [.int (nI i), .int (nI j)]) (rest := [.int (nI (i * 4 + j)), .ref q1]) (wr := [(g, .inr (2, [.ref q1, .int (nI 0)])), (q1, .inr (3, [.ref a2])), (a2, .inl (ai, 168, .inl f))]) X dX2_init_44 (c_X2_across l D ai az al i j (by omega) (by omega)) gX2_init_X2_across rfl rfl ok_X2_across rfl rfl (by decide) ⟨by decide, by decide⟩ (Nat.le_of_ble_eq_true rfl) [] [0, 1, 2] ⟨rfl, by decide, rfl, by decide, by decide⟩ (fun r4 u hp => ?_)
              obtain rfl := hp
              refine g_sub (k := 2) (n := 169) (ws' := [(g, .inr (2, [.ref q1, .int (nI 0)])), (q1, .inr (3, [.ref a2])), (a2, .inl (ai, 168, .inl f))]) [0, 1, 2] (by decide) rfl ?_
              refine g_callVv (C := RX3) (As := [.int (nI (i * 4 + j)), .int (cd (bN i j))]) (rest := []) (wr := [(g, .inr (2, [.ref q1, .int (nI 0)]))]) X dX2_init_47 (c_X3_putN l D ai az al q1 a2 168 f (i * 4 + j) (cd (bN i j)) (by decide) (by omega)) gX2_init_X3_put rfl rfl ok_X3_put rfl rfl (by decide) ⟨by decide, by decide⟩ (Nat.le_of_ble_eq_true rfl) [1, 2] [0] ⟨rfl, by decide, rfl, by decide, by decide⟩ 0 rfl rfl rfl (fun u hp => ?_)
              refine g_sub (k := 2) (n := 169) (ws' := [(g, .inr (2, [.ref q1, .int (nI 0)])), (q1, .inr (3, [.ref a2])), (a2, .inl (ai, 168, .inl (upd f (i * 4 + j) ((cd (bN i j))))))]) [0, 1, 2] (by decide) rfl ?_
              refine g_iinc (v := nI (j + 1)) (lv' := [(2, .int (nI (j + 1))), (0, .ref g), (1, .int (nI i))]) X dX2_init_50 2 rfl (nI_inc _) (by decide) rfl ?_
              refine g_goto (tgt := 28) X dX2_init_53 (by decide) ?_
              refine g_lv (lv' := [(0, .ref g), (1, .int (nI i)), (2, .int (nI (j + 1)))]) [1, 2, 0] rfl ?_
              exact ih28 (j + 1) (upd f (i * 4 + j) ((cd (bN i j)))) (by omega) (by have q := agree_upd hf (i := i * 4 + j) (g := fun k => cd (bN (k / 4) (k % 4))) (x := cd (bN i j)) (by show _ = cd (bN ((i * 4 + j) / 4) ((i * 4 + j) % 4)); rw [show (i * 4 + j) / 4 = i by omega, show (i * 4 + j) % 4 = j by omega]); exact fun k hk => q k (by omega)) (by omega)
        refine g_lv (lv' := [(0, .ref g), (1, .int (nI i)), (2, .int (nI 0))]) [1, 2, 0] rfl ?_
        exact L28 5 0 e (by decide) (fun k hk => he k (by omega)) (by decide)
  refine g_lv (lv' := [(0, .ref g), (1, .int (nI 0))]) [1, 0] rfl ?_
  exact L20 43 0 (fun _ => 0) (by decide) (fun k hk => absurd hk (by omega)) (by decide)

theorem ok_X0_init : okName yX0_init 0 := by decide +kernel
theorem in_X0_init_X3 : ∀ w ∈ u_ws RX3 TX3 1, w ∈ wsX0_init := by decide +kernel
theorem in_X0_init_X0 : ∀ w ∈ u_ws RX0 TX0 4, w ∈ wsX0_init := by decide +kernel
set_option maxRecDepth 100000 in
set_option maxHeartbeats 4000000 in
theorem c_X0_init (l : Launch) (D : va_G) (ai az al : ClassId) (q0 : Nat) : CV l D (tY ai az al) yX0_init wsX0_init { frames := 2, cells := 4, slots := 86, locals := 41 } [.ref q0] [(q0, .inr (0, [.null, .null, .int (nI 0), .int (nI 0)]))] (fun (u : Nat × Nat × Nat × Nat) => True) (fun (u : Nat × Nat × Nat × Nat) => [(q0, .inr (0, [.ref u.1, .ref u.2.1, .int (nI 0), .int (nI 0)])), (u.1, .inr (3, [.ref u.2.2.1])), (u.2.2.1, .inl (ai, 42, .inl (fun _ => 0))), (u.2.1, .inr (3, [.ref u.2.2.2])), (u.2.2.2, .inl (ai, 42, .inl (fun _ => 0)))]) := by
  refine ofG_V (cc := cX0_init) (nL := 1) (lv0 := [(0, .ref q0)]) (by decide) rfl (Nat.le_of_ble_eq_true rfl) rfl ?_
  intro Γ X E hinit
  have hinit := hinit rfl
  refine g_aload_n X dX0_init_0 rfl 0 rfl ?_
  refine g_objInit X dX0_init_1 (by decide +kernel) (by decide +kernel) (by decide +kernel) (by decide) (by decide) ?_
  refine g_aload_n X dX0_init_4 rfl 0 rfl ?_
  refine g_new (T := TX3) (ci := 3) (fs := [.null]) X dX0_init_5 rfl in_X0_init_X3 tyX3 tyX3_ok (by decide +kernel) (by decide +kernel) (by decide +kernel) (by intro j hj; exact fs_X3 j hj) (by decide) (by decide) (fun q1 => ?_)
  refine g_sub (k := 1) (n := 1) (ws' := [(q0, .inr (0, [.null, .null, .int (nI 0), .int (nI 0)])), (q1, .inr (3, [.null]))]) [0, 1] (by decide) rfl ?_
  refine g_dup X dX0_init_8 rfl ?_
  refine g_bipush (v := nI 42) X dX0_init_9 (by decide) ?_
  refine g_callI (As := [.int (nI 42)]) (rest := [.ref q1, .ref q0]) (wr := [(q0, .inr (0, [.null, .null, .int (nI 0), .int (nI 0)]))]) X dX0_init_11 (c_X3_init42 l D ai az al q1 ) gX0_init_X3_init rfl (by decide +kernel) (by decide +kernel) (by decide +kernel) rfl ok_X3_init rfl rfl (by decide) ⟨by decide, by decide⟩ (Nat.le_of_ble_eq_true rfl) [1] [0] ⟨rfl, by decide, rfl, by decide, by decide⟩ (fun a2 hp => ?_)
  refine g_sub (k := 2) (n := 43) (ws' := [(q0, .inr (0, [.null, .null, .int (nI 0), .int (nI 0)])), (q1, .inr (3, [.ref a2])), (a2, .inl (ai, 42, .inl (fun _ => 0)))]) [0, 1, 2] (by decide) rfl ?_
  refine g_putfF (T := TX0) (v := .ref q1) (ty := tyX0 0) (ws' := [(q0, .inr (0, [.ref q1, .null, .int (nI 0), .int (nI 0)])), (q1, .inr (3, [.ref a2])), (a2, .inl (ai, 42, .inl (fun _ => 0)))]) X dX0_init_14 0 rfl rfl in_X0_init_X0 tyX0 tyX0_ok nmX0 0 (by decide) (by decide +kernel) rfl rfl hinit rfl (by decide +kernel) rfl rfl (Nat.le_of_ble_eq_true rfl) rfl ?_
  refine g_aload_n X dX0_init_17 rfl 0 rfl ?_
  refine g_new (T := TX3) (ci := 3) (fs := [.null]) X dX0_init_18 rfl in_X0_init_X3 tyX3 tyX3_ok (by decide +kernel) (by decide +kernel) (by decide +kernel) (by intro j hj; exact fs_X3 j hj) (by decide) (by decide) (fun q3 => ?_)
  refine g_sub (k := 3) (n := 44) (ws' := [(q0, .inr (0, [.ref q1, .null, .int (nI 0), .int (nI 0)])), (q1, .inr (3, [.ref a2])), (a2, .inl (ai, 42, .inl (fun _ => 0))), (q3, .inr (3, [.null]))]) [0, 1, 2, 3] (by decide) rfl ?_
  refine g_dup X dX0_init_21 rfl ?_
  refine g_bipush (v := nI 42) X dX0_init_22 (by decide) ?_
  refine g_callI (As := [.int (nI 42)]) (rest := [.ref q3, .ref q0]) (wr := [(q0, .inr (0, [.ref q1, .null, .int (nI 0), .int (nI 0)])), (q1, .inr (3, [.ref a2])), (a2, .inl (ai, 42, .inl (fun _ => 0)))]) X dX0_init_24 (c_X3_init42 l D ai az al q3 ) gX0_init_X3_init rfl (by decide +kernel) (by decide +kernel) (by decide +kernel) rfl ok_X3_init rfl rfl (by decide) ⟨by decide, by decide⟩ (Nat.le_of_ble_eq_true rfl) [3] [0, 1, 2] ⟨rfl, by decide, rfl, by decide, by decide⟩ (fun a4 hp => ?_)
  refine g_sub (k := 4) (n := 86) (ws' := [(q0, .inr (0, [.ref q1, .null, .int (nI 0), .int (nI 0)])), (q1, .inr (3, [.ref a2])), (a2, .inl (ai, 42, .inl (fun _ => 0))), (q3, .inr (3, [.ref a4])), (a4, .inl (ai, 42, .inl (fun _ => 0)))]) [0, 1, 2, 3, 4] (by decide) rfl ?_
  refine g_putfF (T := TX0) (v := .ref q3) (ty := tyX0 1) (ws' := [(q0, .inr (0, [.ref q1, .ref q3, .int (nI 0), .int (nI 0)])), (q1, .inr (3, [.ref a2])), (a2, .inl (ai, 42, .inl (fun _ => 0))), (q3, .inr (3, [.ref a4])), (a4, .inl (ai, 42, .inl (fun _ => 0)))]) X dX0_init_27 0 rfl rfl in_X0_init_X0 tyX0 tyX0_ok nmX0 1 (by decide) (by decide +kernel) rfl rfl hinit rfl (by decide +kernel) rfl rfl (Nat.le_of_ble_eq_true rfl) rfl ?_
  exact g_vret X E dX0_init_30 (⟨q1, q3, a2, a4⟩) rfl (by decide) (by decide) (trivial)

theorem ok_X5_init : okName yX5_init 0 := by decide +kernel
theorem in_X5_init_X3 : ∀ w ∈ u_ws RX3 TX3 1, w ∈ wsX5_init := by decide +kernel
theorem in_X5_init_X5 : ∀ w ∈ u_ws RX5 TX5 3, w ∈ wsX5_init := by decide +kernel
set_option maxRecDepth 100000 in
set_option maxHeartbeats 4000000 in
theorem c_X5_init (l : Launch) (D : va_G) (ai az al : ClassId) (z : Nat) : CV l D (tY ai az al) yX5_init wsX5_init { frames := 2, cells := 4, slots := 18, locals := 41 } [.ref z] [(z, .inr (5, [.null, .null, .int (nI 0)]))] (fun (u : Nat × Nat × Nat × Nat) => True) (fun (u : Nat × Nat × Nat × Nat) => [(z, .inr (5, [.ref u.1, .ref u.2.1, .int (nI 0)])), (u.1, .inr (3, [.ref u.2.2.1])), (u.2.2.1, .inl (ai, 8, .inl (fun _ => 0))), (u.2.1, .inr (3, [.ref u.2.2.2])), (u.2.2.2, .inl (ai, 8, .inl (fun _ => 0)))]) := by
  refine ofG_V (cc := cX5_init) (nL := 1) (lv0 := [(0, .ref z)]) (by decide) rfl (Nat.le_of_ble_eq_true rfl) rfl ?_
  intro Γ X E hinit
  have hinit := hinit rfl
  refine g_aload_n X dX5_init_0 rfl 0 rfl ?_
  refine g_objInit X dX5_init_1 (by decide +kernel) (by decide +kernel) (by decide +kernel) (by decide) (by decide) ?_
  refine g_aload_n X dX5_init_4 rfl 0 rfl ?_
  refine g_new (T := TX3) (ci := 3) (fs := [.null]) X dX5_init_5 rfl in_X5_init_X3 tyX3 tyX3_ok (by decide +kernel) (by decide +kernel) (by decide +kernel) (by intro j hj; exact fs_X3 j hj) (by decide) (by decide) (fun q1 => ?_)
  refine g_sub (k := 1) (n := 1) (ws' := [(z, .inr (5, [.null, .null, .int (nI 0)])), (q1, .inr (3, [.null]))]) [0, 1] (by decide) rfl ?_
  refine g_dup X dX5_init_8 rfl ?_
  refine g_bipush (v := nI 8) X dX5_init_9 (by decide) ?_
  refine g_callI (As := [.int (nI 8)]) (rest := [.ref q1, .ref z]) (wr := [(z, .inr (5, [.null, .null, .int (nI 0)]))]) X dX5_init_11 (c_X3_init8 l D ai az al q1 ) gX5_init_X3_init rfl (by decide +kernel) (by decide +kernel) (by decide +kernel) rfl ok_X3_init rfl rfl (by decide) ⟨by decide, by decide⟩ (Nat.le_of_ble_eq_true rfl) [1] [0] ⟨rfl, by decide, rfl, by decide, by decide⟩ (fun a2 hp => ?_)
  refine g_sub (k := 2) (n := 9) (ws' := [(z, .inr (5, [.null, .null, .int (nI 0)])), (q1, .inr (3, [.ref a2])), (a2, .inl (ai, 8, .inl (fun _ => 0)))]) [0, 1, 2] (by decide) rfl ?_
  refine g_putfF (T := TX5) (v := .ref q1) (ty := tyX5 0) (ws' := [(z, .inr (5, [.ref q1, .null, .int (nI 0)])), (q1, .inr (3, [.ref a2])), (a2, .inl (ai, 8, .inl (fun _ => 0)))]) X dX5_init_14 0 rfl rfl in_X5_init_X5 tyX5 tyX5_ok nmX5 0 (by decide) (by decide +kernel) rfl rfl hinit rfl (by decide +kernel) rfl rfl (Nat.le_of_ble_eq_true rfl) rfl ?_
  refine g_aload_n X dX5_init_17 rfl 0 rfl ?_
  refine g_new (T := TX3) (ci := 3) (fs := [.null]) X dX5_init_18 rfl in_X5_init_X3 tyX3 tyX3_ok (by decide +kernel) (by decide +kernel) (by decide +kernel) (by intro j hj; exact fs_X3 j hj) (by decide) (by decide) (fun q3 => ?_)
  refine g_sub (k := 3) (n := 10) (ws' := [(z, .inr (5, [.ref q1, .null, .int (nI 0)])), (q1, .inr (3, [.ref a2])), (a2, .inl (ai, 8, .inl (fun _ => 0))), (q3, .inr (3, [.null]))]) [0, 1, 2, 3] (by decide) rfl ?_
  refine g_dup X dX5_init_21 rfl ?_
  refine g_bipush (v := nI 8) X dX5_init_22 (by decide) ?_
  refine g_callI (As := [.int (nI 8)]) (rest := [.ref q3, .ref z]) (wr := [(z, .inr (5, [.ref q1, .null, .int (nI 0)])), (q1, .inr (3, [.ref a2])), (a2, .inl (ai, 8, .inl (fun _ => 0)))]) X dX5_init_24 (c_X3_init8 l D ai az al q3 ) gX5_init_X3_init rfl (by decide +kernel) (by decide +kernel) (by decide +kernel) rfl ok_X3_init rfl rfl (by decide) ⟨by decide, by decide⟩ (Nat.le_of_ble_eq_true rfl) [3] [0, 1, 2] ⟨rfl, by decide, rfl, by decide, by decide⟩ (fun a4 hp => ?_)
  refine g_sub (k := 4) (n := 18) (ws' := [(z, .inr (5, [.ref q1, .null, .int (nI 0)])), (q1, .inr (3, [.ref a2])), (a2, .inl (ai, 8, .inl (fun _ => 0))), (q3, .inr (3, [.ref a4])), (a4, .inl (ai, 8, .inl (fun _ => 0)))]) [0, 1, 2, 3, 4] (by decide) rfl ?_
  refine g_putfF (T := TX5) (v := .ref q3) (ty := tyX5 1) (ws' := [(z, .inr (5, [.ref q1, .ref q3, .int (nI 0)])), (q1, .inr (3, [.ref a2])), (a2, .inl (ai, 8, .inl (fun _ => 0))), (q3, .inr (3, [.ref a4])), (a4, .inl (ai, 8, .inl (fun _ => 0)))]) X dX5_init_27 0 rfl rfl in_X5_init_X5 tyX5 tyX5_ok nmX5 1 (by decide) (by decide +kernel) rfl rfl hinit rfl (by decide +kernel) rfl rfl (Nat.le_of_ble_eq_true rfl) rfl ?_
  exact g_vret X E dX5_init_30 (⟨q1, q3, a2, a4⟩) rfl (by decide) (by decide) (trivial)

theorem ok_X5_append : okName yX5_append 2 := by decide +kernel
theorem in_X5_append_X5 : ∀ w ∈ u_ws RX5 TX5 3, w ∈ wsX5_append := by decide +kernel
set_option maxRecDepth 100000 in
set_option maxHeartbeats 4000000 in
theorem c_X5_append (l : Launch) (D : va_G) (ai az al : ClassId) (z : Nat) (cs : Nat) (ca : Nat) (cf : Nat → Int32) (es : Nat) (ea : Nat) (ef : Nat → Int32) (n : Nat) (x : Int32) (y : Int32) (hn8 : n < 8) : CV l D (tY ai az al) yX5_append wsX5_append { frames := 1, cells := 0, slots := 0, locals := 22 } [.ref z, .int x, .int y] [(z, .inr (5, [.ref cs, .ref es, .int (nI n)])), (cs, .inr (3, [.ref ca])), (ca, .inl (ai, 8, .inl cf)), (es, .inr (3, [.ref ea])), (ea, .inl (ai, 8, .inl ef))] (fun (u : Unit) => True) (fun (u : Unit) => [(z, .inr (5, [.ref cs, .ref es, .int (nI (n + 1))])), (cs, .inr (3, [.ref ca])), (ca, .inl (ai, 8, .inl (upd cf n x))), (es, .inr (3, [.ref ea])), (ea, .inl (ai, 8, .inl (upd ef n y)))]) := by
  refine ofG_V (cc := cX5_append) (nL := 3) (lv0 := [(0, .ref z), (1, .int x), (2, .int y)]) (by decide) rfl (Nat.le_of_ble_eq_true rfl) rfl ?_
  intro Γ X E hinit
  refine g_aload_n X dX5_append_0 rfl 0 rfl ?_
  refine g_getf (T := TX5) (v := .ref cs) X dX5_append_1 0 rfl rfl in_X5_append_X5 0 (by decide) (by decide +kernel) rfl rfl ?_
  refine g_aload_n X dX5_append_4 rfl 0 rfl ?_
  refine g_getf (T := TX5) (v := .int (nI n)) X dX5_append_5 0 rfl rfl in_X5_append_X5 2 (by decide) (by decide +kernel) rfl rfl ?_
  refine g_iload_n X dX5_append_8 rfl 1 rfl ?_
  refine g_callVv (C := RX3) (As := [.int (nI n), .int x]) (rest := []) (wr := [(z, .inr (5, [.ref cs, .ref es, .int (nI n)])), (es, .inr (3, [.ref ea])), (ea, .inl (ai, 8, .inl ef))]) X dX5_append_9 (c_X3_putN l D ai az al cs ca 8 cf n x (by decide) (by omega)) gX5_append_X3_put rfl rfl ok_X3_put rfl rfl (by decide) ⟨by decide, by decide⟩ (Nat.le_of_ble_eq_true rfl) [1, 2] [0, 3, 4] ⟨rfl, by decide, rfl, by decide, by decide⟩ 0 rfl rfl rfl (fun u hp => ?_)
  refine g_sub (k := 0) (n := 0) (ws' := [(z, .inr (5, [.ref cs, .ref es, .int (nI n)])), (cs, .inr (3, [.ref ca])), (ca, .inl (ai, 8, .inl (upd cf n (x)))), (es, .inr (3, [.ref ea])), (ea, .inl (ai, 8, .inl ef))]) [0, 3, 4, 1, 2] (by decide) rfl ?_
  refine g_aload_n X dX5_append_12 rfl 0 rfl ?_
  refine g_getf (T := TX5) (v := .ref es) X dX5_append_13 0 rfl rfl in_X5_append_X5 1 (by decide) (by decide +kernel) rfl rfl ?_
  refine g_aload_n X dX5_append_16 rfl 0 rfl ?_
  refine g_getf (T := TX5) (v := .int (nI n)) X dX5_append_17 0 rfl rfl in_X5_append_X5 2 (by decide) (by decide +kernel) rfl rfl ?_
  refine g_iload_n X dX5_append_20 rfl 2 rfl ?_
  refine g_callVv (C := RX3) (As := [.int (nI n), .int y]) (rest := []) (wr := [(z, .inr (5, [.ref cs, .ref es, .int (nI n)])), (cs, .inr (3, [.ref ca])), (ca, .inl (ai, 8, .inl (upd cf n (x))))]) X dX5_append_21 (c_X3_putN l D ai az al es ea 8 ef n y (by decide) (by omega)) gX5_append_X3_put rfl rfl ok_X3_put rfl rfl (by decide) ⟨by decide, by decide⟩ (Nat.le_of_ble_eq_true rfl) [3, 4] [0, 1, 2] ⟨rfl, by decide, rfl, by decide, by decide⟩ 0 rfl rfl rfl (fun u hp => ?_)
  refine g_sub (k := 0) (n := 0) (ws' := [(z, .inr (5, [.ref cs, .ref es, .int (nI n)])), (cs, .inr (3, [.ref ca])), (ca, .inl (ai, 8, .inl (upd cf n (x)))), (es, .inr (3, [.ref ea])), (ea, .inl (ai, 8, .inl (upd ef n (y))))]) [0, 1, 2, 3, 4] (by decide) rfl ?_
  refine g_aload_n X dX5_append_24 rfl 0 rfl ?_
  refine g_dup X dX5_append_25 rfl ?_
  refine g_getf (T := TX5) (v := .int (nI n)) X dX5_append_26 0 rfl rfl in_X5_append_X5 2 (by decide) (by decide +kernel) rfl rfl ?_
  refine g_iconst (v := nI 1) X dX5_append_29 (by decide) ?_
  refine g_iadd (v := nI (n + 1)) X dX5_append_30 (nI_add _ _) ?_
  refine g_putf (T := TX5) (v := .int (nI (n + 1))) (ty := tyX5 2) (ws' := [(z, .inr (5, [.ref cs, .ref es, .int (nI (n + 1))])), (cs, .inr (3, [.ref ca])), (ca, .inl (ai, 8, .inl (upd cf n (x)))), (es, .inr (3, [.ref ea])), (ea, .inl (ai, 8, .inl (upd ef n (y))))]) X dX5_append_31 0 rfl rfl in_X5_append_X5 tyX5 tyX5_ok nmX5 2 (by decide) (by decide +kernel) rfl rfl (by decide +kernel) rfl rfl (Nat.le_of_ble_eq_true rfl) rfl ?_
  exact g_vret X E dX5_append_34 () rfl (by decide) (by decide) (trivial)
