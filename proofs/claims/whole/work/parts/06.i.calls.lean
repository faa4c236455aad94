/-! walls and water of the model -/
theorem WOK.set {Wm : Nat → Int32} {nb : Nat → Nat → Nat} (h : WOK Wm nb) {c s : Nat} (hc : c < 42) (hs : s < 4) (b : Bool) (hb : bN c s ≠ 43) {g : Nat → Int32} (e1 : g (c * 4 + s) = nI (bn b)) (e2 : bN c s < 42 → g (bN c s * 4 + opp s) = nI (bn b)) (e3 : ∀ k, k ≠ c * 4 + s → (bN c s < 42 → k ≠ bN c s * 4 + opp s) → g k = Wm k) : WOK g (setS nb c s b) := by
  intro i j hi hj
  have ho := opp_lt hs
  by_cases q1 : i = c ∧ j = s
  · obtain ⟨rfl, rfl⟩ := q1
    have e : setS nb i j b i j = if b then 43 else bN i j := if_pos (Or.inl ⟨rfl, rfl⟩)
    rw [e1, e]
    cases b
    · rw [decide_eq_false (show ¬ ((if false = true then 43 else bN i j) = 43 ∧ bN i j ≠ 43) from fun q => q.2 q.1)]
    · rw [decide_eq_true (show (if true = true then 43 else bN i j) = 43 ∧ bN i j ≠ 43 from ⟨rfl, hb⟩)]
  · by_cases q2 : bN c s < 42 ∧ i = bN c s ∧ j = opp s
    · obtain ⟨hd, rfl, rfl⟩ := q2
      have hbk := bN_back c hc s hs hd
      have e : setS nb c s b (bN c s) (opp s) = if b then 43 else bN (bN c s) (opp s) := if_pos (Or.inr ⟨hd, rfl, rfl⟩)
      rw [e2 hd, e, hbk.1]
      cases b
      · rw [decide_eq_false (show ¬ ((if false = true then 43 else c) = 43 ∧ c ≠ 43) from fun q => q.2 q.1)]
      · rw [decide_eq_true (show (if true = true then 43 else c) = 43 ∧ c ≠ 43 from ⟨rfl, by omega⟩)]
    · have e : setS nb c s b i j = nb i j := if_neg (fun q => q.elim q1 q2)
      rw [e, e3 (i * 4 + j) (by omega) (fun hd => by omega)]
      exact h i j hi hj
theorem WOK.congr {Wm : Nat → Int32} {nb nb2 : Nat → Nat → Nat} (h : WOK Wm nb) (e : ∀ i j, i < 42 → j < 4 → nb i j = nb2 i j) : WOK Wm nb2 := fun c s hc hs => by
  rw [h c s hc hs, e c s hc hs]
theorem cd_neg {d : Nat} (h : d ≤ 43) : cd d < 0 ↔ ¬ d < 42 := by
  by_cases e : d < 42
  · rw [cd_lt e]; exact ⟨fun q => absurd q (nI_pos (by omega)), fun q => absurd e q⟩
  · rcases (show d = 42 ∨ d = 43 by omega) with rfl | rfl
    · rw [cd_42]; exact ⟨fun _ => e, fun _ => by decide⟩
    · rw [cd_43]; exact ⟨fun _ => e, fun _ => by decide⟩
def bsN (nb : Nat → Nat → Nat) (V : Nat → Bool) (c : Nat) : Nat → Bool
  | 0 => false
  | i + 1 => bsN nb V c i || bs1 nb V c i
theorem bsN_4 {nb : Nat → Nat → Nat} {V : Nat → Bool} {c : Nat} : bsN nb V c 4 = bes nb V c := by
  show ((((false || bs1 nb V c 0) || bs1 nb V c 1) || bs1 nb V c 2) || bs1 nb V c 3) = _
  unfold bes; simp
theorem bsN_y {nb : Nat → Nat → Nat} {V : Nat → Bool} {c i : Nat} (h : bsN nb V c i = true) : bsN nb V c (i + 1) = true := by show (bsN nb V c i || _) = true; rw [h]; rfl
theorem bsN_i {nb : Nat → Nat → Nat} {V : Nat → Bool} {c i : Nat} (h : bs1 nb V c i = true) : bsN nb V c (i + 1) = true := by show (_ || bs1 nb V c i) = true; rw [h, Bool.or_true]
theorem bsN_n {nb : Nat → Nat → Nat} {V : Nat → Bool} {c i : Nat} (h : bsN nb V c i = false) (h2 : bs1 nb V c i = false) : bsN nb V c (i + 1) = false := by show (bsN nb V c i || bs1 nb V c i) = false; rw [h, h2]; rfl
theorem bs1_shut {nb : Nat → Nat → Nat} {V : Nat → Bool} {c s : Nat} (h : nb c s = 43) : bs1 nb V c s = false := by unfold bs1; simp [h]
theorem bs1_v {nb : Nat → Nat → Nat} {V : Nat → Bool} {c s : Nat} (h : nb c s < 42) : bs1 nb V c s = V (nb c s) := by
  unfold bs1
  rw [decide_eq_false (show ¬ nb c s = 42 by omega), decide_eq_true h]; rfl
theorem cB_congr {W V : Nat → Bool} (e : ∀ c, c < 42 → W c = V c) : cB W 42 = cB V 42 := Nat.le_antisymm (cB_mono (fun c hc q => by rw [← e c hc]; exact q)) (cB_mono (fun c hc q => by rw [e c hc]; exact q))
theorem add_sub_l (a b : Int32) : a + b - a = b := by
  rw [Int32.add_comm, Int32.sub_eq_add_neg, Int32.add_assoc, ← Int32.sub_eq_add_neg, Int32.sub_self, Int32.add_zero]
theorem ok_X9_pour : okName yX9_pour 3 := by decide +kernel
set_option maxRecDepth 100000 in
set_option maxHeartbeats 4000000 in
theorem c_X9_pour1 (l : Launch) (D : va_G) (ai az al : ClassId) (m : Nat) (mh : Nat) (mg : Nat) (mt : Nat) (mf : Nat) (ms : Nat) (msT : Nat) (msF : Nat) (mgv : Nat) (mP : Nat) (mW : Nat) (mV : Nat) (mco : Nat) (men : Nat) (mnt : Nat) (tw : Int32) (mse : Int32) (mbr : Int32) (mwk : Int32) (mns : Int32) (mtp : Int32) (mss : Int32) (p0 : Int32) (p1 : Int32) (p2 : Int32) (hq : ¬ CP p0 p1) : CI l D (tY ai az al) yX9_pour wsX9_pour { frames := 3, cells := 0, slots := 0, locals := 66 } [.ref m, .int p0, .int p1, .int p2] [(m, .inr (9, [.ref mh, .ref mg, .ref mt, .ref mf, .ref ms, .ref msT, .ref msF, .ref mgv, .ref mP, .ref mW, .ref mV, .ref mco, .ref men, .ref mnt, .int tw, .int mse, .int mbr, .int mwk, .int mns, .int mtp, .int mss]))] (fun (r : Int32) (u : Unit) => r = nI 0) (fun (u : Unit) => [(m, .inr (9, [.ref mh, .ref mg, .ref mt, .ref mf, .ref ms, .ref msT, .ref msF, .ref mgv, .ref mP, .ref mW, .ref mV, .ref mco, .ref men, .ref mnt, .int (nI 1), .int mse, .int mbr, .int mwk, .int mns, .int mtp, .int mss]))]) := by
  refine ofG_I (cc := cX9_pour) (nL := 4) (lv0 := [(0, .ref m), (1, .int p0), (2, .int p1), (3, .int p2)]) (by decide) rfl (Nat.le_of_ble_eq_true rfl) rfl ?_
  intro Γ X E
  refine g_aload_n X dX9_pour_0 rfl 0 rfl ?_
  refine g_iload_n X dX9_pour_1 rfl 1 rfl ?_
  refine g_iload_n X dX9_pour_2 rfl 2 rfl ?_
  refine g_iload_n X dX9_pour_3 rfl 3 rfl ?_
  refine g_callVi (C := RX9) (As := [.int p0, .int p1, .int p2]) (rest := []) (wr := []) X dX9_pour_4 (c_X9_isBad1 l D ai az al m mh mg mt mf ms msT msF mgv mP mW mV mco men mnt tw mse mbr mwk mns mtp mss p0 p1 p2 (hq)) gX9_pour_X9_isBad rfl rfl ok_X9_isBad rfl rfl (by decide) ⟨by decide, by decide⟩ (Nat.le_of_ble_eq_true rfl) [0] [] ⟨rfl, by decide, rfl, by decide, by decide⟩ 0 rfl rfl rfl (fun r1 u hp => ?_)
  obtain rfl := hp
  refine g_sub (k := 0) (n := 0) (ws' := [(m, .inr (9, [.ref mh, .ref mg, .ref mt, .ref mf, .ref ms, .ref msT, .ref msF, .ref mgv, .ref mP, .ref mW, .ref mV, .ref mco, .ref men, .ref mnt, .int (nI 1), .int mse, .int mbr, .int mwk, .int mns, .int mtp, .int mss]))]) [0] (by decide) rfl ?_
  refine g_if_eqN (tgt := 12) X dX9_pour_7 (by decide) (by decide) (fun b7x => False.elim (by revert b7x; decide)) (fun b7x => ?_)
  refine g_iconst (v := nI 0) X dX9_pour_10 (by decide) ?_
  exact g_iret X E dX9_pour_11 () rfl (by decide) (by decide) (rfl)

set_option maxRecDepth 100000 in
set_option maxHeartbeats 4000000 in
theorem c_X9_pour2 (l : Launch) (D : va_G) (ai az al : ClassId) (m : Nat) (mh : Nat) (mg : Nat) (mt : Nat) (mf : Nat) (ms : Nat) (msT : Nat) (msF : Nat) (mgv : Nat) (mP : Nat) (mW : Nat) (mV : Nat) (mco : Nat) (men : Nat) (mnt : Nat) (tw : Int32) (mse : Int32) (mbr : Int32) (mwk : Int32) (mns : Int32) (mtp : Int32) (mss : Int32) (p0 : Int32) (p1 : Int32) (p2 : Int32) (hq : CP p0 p1) (hq2 : ¬ inN p2 1 60) : CI l D (tY ai az al) yX9_pour wsX9_pour { frames := 3, cells := 0, slots := 0, locals := 66 } [.ref m, .int p0, .int p1, .int p2] [(m, .inr (9, [.ref mh, .ref mg, .ref mt, .ref mf, .ref ms, .ref msT, .ref msF, .ref mgv, .ref mP, .ref mW, .ref mV, .ref mco, .ref men, .ref mnt, .int tw, .int mse, .int mbr, .int mwk, .int mns, .int mtp, .int mss]))] (fun (r : Int32) (u : Unit) => r = nI 0) (fun (u : Unit) => [(m, .inr (9, [.ref mh, .ref mg, .ref mt, .ref mf, .ref ms, .ref msT, .ref msF, .ref mgv, .ref mP, .ref mW, .ref mV, .ref mco, .ref men, .ref mnt, .int (nI 2), .int mse, .int mbr, .int mwk, .int mns, .int mtp, .int mss]))]) := by
  refine ofG_I (cc := cX9_pour) (nL := 4) (lv0 := [(0, .ref m), (1, .int p0), (2, .int p1), (3, .int p2)]) (by decide) rfl (Nat.le_of_ble_eq_true rfl) rfl ?_
  intro Γ X E
  refine g_aload_n X dX9_pour_0 rfl 0 rfl ?_
  refine g_iload_n X dX9_pour_1 rfl 1 rfl ?_
  refine g_iload_n X dX9_pour_2 rfl 2 rfl ?_
  refine g_iload_n X dX9_pour_3 rfl 3 rfl ?_
  refine g_callVi (C := RX9) (As := [.int p0, .int p1, .int p2]) (rest := []) (wr := []) X dX9_pour_4 (c_X9_isBad2 l D ai az al m mh mg mt mf ms msT msF mgv mP mW mV mco men mnt tw mse mbr mwk mns mtp mss p0 p1 p2 (hq) (hq2)) gX9_pour_X9_isBad rfl rfl ok_X9_isBad rfl rfl (by decide) ⟨by decide, by decide⟩ (Nat.le_of_ble_eq_true rfl) [0] [] ⟨rfl, by decide, rfl, by decide, by decide⟩ 0 rfl rfl rfl (fun r1 u hp => ?_)
  obtain rfl := hp
  refine g_sub (k := 0) (n := 0) (ws' := [(m, .inr (9, [.ref mh, .ref mg, .ref mt, .ref mf, .ref ms, .ref msT, .ref msF, .ref mgv, .ref mP, .ref mW, .ref mV, .ref mco, .ref men, .ref mnt, .int (nI 2), .int mse, .int mbr, .int mwk, .int mns, .int mtp, .int mss]))]) [0] (by decide) rfl ?_
  refine g_if_eqN (tgt := 12) X dX9_pour_7 (by decide) (by decide) (fun b7x => False.elim (by revert b7x; decide)) (fun b7x => ?_)
  refine g_iconst (v := nI 0) X dX9_pour_10 (by decide) ?_
  exact g_iret X E dX9_pour_11 () rfl (by decide) (by decide) (rfl)

theorem in_X9_pour_X9 : ∀ w ∈ u_ws RX9 TX9 21, w ∈ wsX9_pour := by decide +kernel
set_option maxRecDepth 100000 in
set_option maxHeartbeats 4000000 in
theorem c_X9_pour0 (l : Launch) (D : va_G) (ai az al : ClassId) (m : Nat) (mh : Nat) (mg : Nat) (mt : Nat) (mf : Nat) (ms : Nat) (msT : Nat) (msF : Nat) (mgv : Nat) (mP : Nat) (mW : Nat) (mV : Nat) (mco : Nat) (men : Nat) (mnt : Nat) (tw : Int32) (mse : Int32) (mbr : Int32) (mwk : Int32) (mns : Int32) (mtp : Int32) (mss : Int32) (Hm : Nat → Int32) (Gm : Nat → Int32) (Fm : Nat → Int32) (Tm : Nat → Int32) (Pm : Nat → Int32) (Wm : Nat → Int32) (nb : Nat → Nat → Nat) (pl : Nat → Bool) (h : Nat → Nat) (x : Nat) (y : Nat) (n : Nat) (hW : NW nb) (hWm : WOK Wm nb) (hC : Cn nb) (hP : POK Pm pl) (hH : HOK Hm h) (hx : x < 6) (hy : y < 7) (hn1 : 1 ≤ n) (hn2 : n ≤ 60) (hn : sN h 42 ≤ 440) : CI l D (tY ai az al) yX9_pour wsX9_pour { frames := 5, cells := 0, slots := 0, locals := 112 } [.ref m, .int (nI x), .int (nI y), .int (nI n)] [(m, .inr (9, [.ref mh, .ref mg, .ref mt, .ref mf, .ref ms, .ref msT, .ref msF, .ref mgv, .ref mP, .ref mW, .ref mV, .ref mco, .ref men, .ref mnt, .int tw, .int mse, .int mbr, .int mwk, .int mns, .int mtp, .int mss])), (mh, .inl (ai, 42, .inl Hm)), (mg, .inl (ai, 42, .inl Gm)), (mf, .inl (ai, 168, .inl Fm)), (mt, .inl (ai, 42, .inl Tm)), (mP, .inl (az, 42, .inl Pm)), (mW, .inl (az, 168, .inl Wm))] (fun (r : Int32) (u : (Nat → Int32) × (Nat → Int32) × (Nat → Int32) × (Nat → Nat) × (Nat → Nat)) => r = nI (sN u.2.2.2.2 42) ∧ Stl nb pl (addN h (y * 6 + x) n) u.2.2.2.1 u.2.2.2.2 ∧ HOK u.1 u.2.2.2.1 ∧ FlowTo nb u.2.2.2.2 Fm u.2.1 ∧ (∀ c, c < 42 → u.2.2.1 c = Tm c + nI (u.2.2.2.2 c))) (fun (u : (Nat → Int32) × (Nat → Int32) × (Nat → Int32) × (Nat → Nat) × (Nat → Nat)) => [(m, .inr (9, [.ref mh, .ref mg, .ref mt, .ref mf, .ref ms, .ref msT, .ref msF, .ref mgv, .ref mP, .ref mW, .ref mV, .ref mco, .ref men, .ref mnt, .int (nI 0), .int (mse + nI (lostN nb u.2.2.2.2 6)), .int (mbr + nI n), .int mwk, .int mns, .int (nI (sN u.2.2.2.2 42)), .int mss])), (mh, .inl (ai, 42, .inl u.1)), (mg, .inl (ai, 42, .inl (upd Gm (y * 6 + x) (Gm (y * 6 + x) + nI n)))), (mf, .inl (ai, 168, .inl u.2.1)), (mt, .inl (ai, 42, .inl u.2.2.1)), (mP, .inl (az, 42, .inl Pm)), (mW, .inl (az, 168, .inl Wm))]) := by
  refine ofG_I (cc := cX9_pour) (nL := 4) (lv0 := [(0, .ref m), (1, .int (nI x)), (2, .int (nI y)), (3, .int (nI n))]) (by decide) rfl (Nat.le_of_ble_eq_true rfl) rfl ?_
  intro Γ X E
  refine g_aload_n X dX9_pour_0 rfl 0 rfl ?_
  refine g_iload_n X dX9_pour_1 rfl 1 rfl ?_
  refine g_iload_n X dX9_pour_2 rfl 2 rfl ?_
  refine g_iload_n X dX9_pour_3 rfl 3 rfl ?_
  refine g_callVi (C := RX9) (As := [.int (nI x), .int (nI y), .int (nI n)]) (rest := []) (wr := [(mh, .inl (ai, 42, .inl Hm)), (mg, .inl (ai, 42, .inl Gm)), (mf, .inl (ai, 168, .inl Fm)), (mt, .inl (ai, 42, .inl Tm)), (mP, .inl (az, 42, .inl Pm)), (mW, .inl (az, 168, .inl Wm))]) X dX9_pour_4 (c_X9_isBad0 l D ai az al m mh mg mt mf ms msT msF mgv mP mW mV mco men mnt tw mse mbr mwk mns mtp mss (nI x) (nI y) (nI n) (CP_of hx hy) (⟨n, hn1, hn2, rfl⟩)) gX9_pour_X9_isBad rfl rfl ok_X9_isBad rfl rfl (by decide) ⟨by decide, by decide⟩ (Nat.le_of_ble_eq_true rfl) [0] [1, 2, 3, 4, 5, 6] ⟨rfl, by decide, rfl, by decide, by decide⟩ 0 rfl rfl rfl (fun r1 u hp => ?_)
  obtain rfl := hp
  refine g_sub (k := 0) (n := 0) (ws' := [(m, .inr (9, [.ref mh, .ref mg, .ref mt, .ref mf, .ref ms, .ref msT, .ref msF, .ref mgv, .ref mP, .ref mW, .ref mV, .ref mco, .ref men, .ref mnt, .int (nI 0), .int mse, .int mbr, .int mwk, .int mns, .int mtp, .int mss])), (mh, .inl (ai, 42, .inl Hm)), (mg, .inl (ai, 42, .inl Gm)), (mf, .inl (ai, 168, .inl Fm)), (mt, .inl (ai, 42, .inl Tm)), (mP, .inl (az, 42, .inl Pm)), (mW, .inl (az, 168, .inl Wm))]) [6, 0, 1, 2, 3, 4, 5] (by decide) rfl ?_
  refine g_if_eqN (tgt := 12) X dX9_pour_7 (by decide) (by decide) (fun b7x => ?_) (fun b7x => False.elim (by revert b7x; decide))
  refine g_aload_n X dX9_pour_12 rfl 0 rfl ?_
  refine g_getf (T := TX9) (v := .ref mg) X dX9_pour_13 0 rfl rfl in_X9_pour_X9 1 (by decide) (by decide +kernel) rfl rfl ?_
  refine g_iload_n X dX9_pour_16 rfl 1 rfl ?_
  refine g_iload_n X dX9_pour_17 rfl 2 rfl ?_
  refine g_callSi (As := [.int (nI x), .int (nI y)]) (rest := [.ref mg]) (wr := [(m, .inr (9, [.ref mh, .ref mg, .ref mt, .ref mf, .ref ms, .ref msT, .ref msF, .ref mgv, .ref mP, .ref mW, .ref mV, .ref mco, .ref men, .ref mnt, .int (nI 0), .int mse, .int mbr, .int mwk, .int mns, .int mtp, .int mss])), (mh, .inl (ai, 42, .inl Hm)), (mg, .inl (ai, 42, .inl Gm)), (mf, .inl (ai, 168, .inl Fm)), (mt, .inl (ai, 42, .inl Tm)), (mP, .inl (az, 42, .inl Pm)), (mW, .inl (az, 168, .inl Wm))]) X dX9_pour_18 (c_X9_at l D ai az al x y ) gX9_pour_X9_at rfl rfl ok_X9_at rfl rfl (by decide) ⟨by decide, by decide⟩ (Nat.le_of_ble_eq_true rfl) [] [0, 1, 2, 3, 4, 5, 6] ⟨rfl, by decide, rfl, by decide, by decide⟩ (fun r2 u hp => ?_)
  obtain rfl := hp
  refine g_sub (k := 0) (n := 0) (ws' := [(m, .inr (9, [.ref mh, .ref mg, .ref mt, .ref mf, .ref ms, .ref msT, .ref msF, .ref mgv, .ref mP, .ref mW, .ref mV, .ref mco, .ref men, .ref mnt, .int (nI 0), .int mse, .int mbr, .int mwk, .int mns, .int mtp, .int mss])), (mh, .inl (ai, 42, .inl Hm)), (mg, .inl (ai, 42, .inl Gm)), (mf, .inl (ai, 168, .inl Fm)), (mt, .inl (ai, 42, .inl Tm)), (mP, .inl (az, 42, .inl Pm)), (mW, .inl (az, 168, .inl Wm))]) [0, 1, 2, 3, 4, 5, 6] (by decide) rfl ?_
  refine g_dup2 X dX9_pour_21 rfl rfl ?_
  refine g_ialdN (v := (Gm (y * 6 + x))) X dX9_pour_22 2 0 rfl rfl (by omega) (by omega) (rfl) ?_
  refine g_iload_n X dX9_pour_23 rfl 3 rfl ?_
  refine g_iadd (v := ((Gm (y * 6 + x)) + nI n)) X dX9_pour_24 (rfl) ?_
  refine g_iastN (g' := upd Gm (y * 6 + x) ((Gm (y * 6 + x)) + nI n)) (ws' := [(m, .inr (9, [.ref mh, .ref mg, .ref mt, .ref mf, .ref ms, .ref msT, .ref msF, .ref mgv, .ref mP, .ref mW, .ref mV, .ref mco, .ref men, .ref mnt, .int (nI 0), .int mse, .int mbr, .int mwk, .int mns, .int mtp, .int mss])), (mh, .inl (ai, 42, .inl Hm)), (mg, .inl (ai, 42, .inl (upd Gm (y * 6 + x) ((Gm (y * 6 + x)) + nI n)))), (mf, .inl (ai, 168, .inl Fm)), (mt, .inl (ai, 42, .inl Tm)), (mP, .inl (az, 42, .inl Pm)), (mW, .inl (az, 168, .inl Wm))]) X dX9_pour_25 2 0 rfl rfl (by omega) (by omega) (rfl) rfl ?_
  refine g_aload_n X dX9_pour_26 rfl 0 rfl ?_
  refine g_dup X dX9_pour_27 rfl ?_
  refine g_getf (T := TX9) (v := .int mbr) X dX9_pour_28 0 rfl rfl in_X9_pour_X9 16 (by decide) (by decide +kernel) rfl rfl ?_
  refine g_iload_n X dX9_pour_31 rfl 3 rfl ?_
  refine g_iadd (v := (mbr + nI n)) X dX9_pour_32 (rfl) ?_
  refine g_putf (T := TX9) (v := .int (mbr + nI n)) (ty := tyX9 16) (ws' := [(m, .inr (9, [.ref mh, .ref mg, .ref mt, .ref mf, .ref ms, .ref msT, .ref msF, .ref mgv, .ref mP, .ref mW, .ref mV, .ref mco, .ref men, .ref mnt, .int (nI 0), .int mse, .int (mbr + nI n), .int mwk, .int mns, .int mtp, .int mss])), (mh, .inl (ai, 42, .inl Hm)), (mg, .inl (ai, 42, .inl (upd Gm (y * 6 + x) ((Gm (y * 6 + x)) + nI n)))), (mf, .inl (ai, 168, .inl Fm)), (mt, .inl (ai, 42, .inl Tm)), (mP, .inl (az, 42, .inl Pm)), (mW, .inl (az, 168, .inl Wm))]) X dX9_pour_33 0 rfl rfl in_X9_pour_X9 tyX9 tyX9_ok nmX9 16 (by decide) (by decide +kernel) rfl rfl (by decide +kernel) rfl rfl (Nat.le_of_ble_eq_true rfl) rfl ?_
  refine g_aload_n X dX9_pour_36 rfl 0 rfl ?_
  refine g_iload_n X dX9_pour_37 rfl 1 rfl ?_
  refine g_iload_n X dX9_pour_38 rfl 2 rfl ?_
  refine g_callSi (As := [.int (nI x), .int (nI y)]) (rest := [.ref m]) (wr := [(m, .inr (9, [.ref mh, .ref mg, .ref mt, .ref mf, .ref ms, .ref msT, .ref msF, .ref mgv, .ref mP, .ref mW, .ref mV, .ref mco, .ref men, .ref mnt, .int (nI 0), .int mse, .int (mbr + nI n), .int mwk, .int mns, .int mtp, .int mss])), (mh, .inl (ai, 42, .inl Hm)), (mg, .inl (ai, 42, .inl (upd Gm (y * 6 + x) ((Gm (y * 6 + x)) + nI n)))), (mf, .inl (ai, 168, .inl Fm)), (mt, .inl (ai, 42, .inl Tm)), (mP, .inl (az, 42, .inl Pm)), (mW, .inl (az, 168, .inl Wm))]) X dX9_pour_39 (c_X9_at l D ai az al x y ) gX9_pour_X9_at rfl rfl ok_X9_at rfl rfl (by decide) ⟨by decide, by decide⟩ (Nat.le_of_ble_eq_true rfl) [] [0, 1, 2, 3, 4, 5, 6] ⟨rfl, by decide, rfl, by decide, by decide⟩ (fun r3 u hp => ?_)
  obtain rfl := hp
  refine g_sub (k := 0) (n := 0) (ws' := [(m, .inr (9, [.ref mh, .ref mg, .ref mt, .ref mf, .ref ms, .ref msT, .ref msF, .ref mgv, .ref mP, .ref mW, .ref mV, .ref mco, .ref men, .ref mnt, .int (nI 0), .int mse, .int (mbr + nI n), .int mwk, .int mns, .int mtp, .int mss])), (mh, .inl (ai, 42, .inl Hm)), (mg, .inl (ai, 42, .inl (upd Gm (y * 6 + x) ((Gm (y * 6 + x)) + nI n)))), (mf, .inl (ai, 168, .inl Fm)), (mt, .inl (ai, 42, .inl Tm)), (mP, .inl (az, 42, .inl Pm)), (mW, .inl (az, 168, .inl Wm))]) [0, 1, 2, 3, 4, 5, 6] (by decide) rfl ?_
  refine g_iload_n X dX9_pour_42 rfl 3 rfl ?_
  refine g_callVi (C := RX9) (As := [.int (nI (y * 6 + x)), .int (nI n)]) (rest := []) (wr := [(mg, .inl (ai, 42, .inl (upd Gm (y * 6 + x) ((Gm (y * 6 + x)) + nI n))))]) X dX9_pour_43 (c_X9_pours l D ai az al m mh mg mt mf ms msT msF mgv mP mW mV mco men mnt (nI 0) mse (mbr + nI n) mwk mns mtp mss Hm Fm Tm Pm Wm nb pl h (y * 6 + x) n (hW) (hWm) (hC) (hP) (hH) (by omega) (by omega)) gX9_pour_X9_pours rfl rfl ok_X9_pours rfl rfl (by decide) ⟨by decide, by decide⟩ (Nat.le_of_ble_eq_true rfl) [0, 1, 3, 4, 5, 6] [2] ⟨rfl, by decide, rfl, by decide, by decide⟩ 0 rfl rfl rfl (fun r4 u hp => ?_)
  obtain ⟨H5, F5, T5, h5, u5⟩ := u
  try dsimp only at hp
  obtain ⟨rfl, hS5, hH5, hF5, hT5⟩ := hp
  refine g_sub (k := 0) (n := 0) (ws' := [(m, .inr (9, [.ref mh, .ref mg, .ref mt, .ref mf, .ref ms, .ref msT, .ref msF, .ref mgv, .ref mP, .ref mW, .ref mV, .ref mco, .ref men, .ref mnt, .int (nI 0), .int (mse + nI (lostN nb u5 6)), .int (mbr + nI n), .int mwk, .int mns, .int (nI (sN u5 42)), .int mss])), (mh, .inl (ai, 42, .inl H5)), (mg, .inl (ai, 42, .inl (upd Gm (y * 6 + x) ((Gm (y * 6 + x)) + nI n)))), (mf, .inl (ai, 168, .inl F5)), (mt, .inl (ai, 42, .inl T5)), (mP, .inl (az, 42, .inl Pm)), (mW, .inl (az, 168, .inl Wm))]) [1, 2, 0, 3, 4, 5, 6] (by decide) rfl ?_
  exact g_iret X E dX9_pour_46 (⟨H5, F5, T5, h5, u5⟩) rfl (by decide) (by decide) (⟨rfl, hS5, hH5, hF5, hT5⟩)

theorem ok_X9_dig : okName yX9_dig 3 := by decide +kernel
set_option maxRecDepth 100000 in
set_option maxHeartbeats 4000000 in
theorem c_X9_dig1 (l : Launch) (D : va_G) (ai az al : ClassId) (m : Nat) (mh : Nat) (mg : Nat) (mt : Nat) (mf : Nat) (ms : Nat) (msT : Nat) (msF : Nat) (mgv : Nat) (mP : Nat) (mW : Nat) (mV : Nat) (mco : Nat) (men : Nat) (mnt : Nat) (tw : Int32) (mse : Int32) (mbr : Int32) (mwk : Int32) (mns : Int32) (mtp : Int32) (mss : Int32) (p0 : Int32) (p1 : Int32) (p2 : Int32) (hq : ¬ CP p0 p1) : CI l D (tY ai az al) yX9_dig wsX9_dig { frames := 3, cells := 0, slots := 0, locals := 66 } [.ref m, .int p0, .int p1, .int p2] [(m, .inr (9, [.ref mh, .ref mg, .ref mt, .ref mf, .ref ms, .ref msT, .ref msF, .ref mgv, .ref mP, .ref mW, .ref mV, .ref mco, .ref men, .ref mnt, .int tw, .int mse, .int mbr, .int mwk, .int mns, .int mtp, .int mss]))] (fun (r : Int32) (u : Unit) => r = nI 0) (fun (u : Unit) => [(m, .inr (9, [.ref mh, .ref mg, .ref mt, .ref mf, .ref ms, .ref msT, .ref msF, .ref mgv, .ref mP, .ref mW, .ref mV, .ref mco, .ref men, .ref mnt, .int (nI 1), .int mse, .int mbr, .int mwk, .int mns, .int mtp, .int mss]))]) := by
  refine ofG_I (cc := cX9_dig) (nL := 5) (lv0 := [(0, .ref m), (1, .int p0), (2, .int p1), (3, .int p2)]) (by decide) rfl (Nat.le_of_ble_eq_true rfl) rfl ?_
  intro Γ X E
  refine g_aload_n X dX9_dig_0 rfl 0 rfl ?_
  refine g_iload_n X dX9_dig_1 rfl 1 rfl ?_
  refine g_iload_n X dX9_dig_2 rfl 2 rfl ?_
  refine g_iload_n X dX9_dig_3 rfl 3 rfl ?_
  refine g_callVi (C := RX9) (As := [.int p0, .int p1, .int p2]) (rest := []) (wr := []) X dX9_dig_4 (c_X9_isBad1 l D ai az al m mh mg mt mf ms msT msF mgv mP mW mV mco men mnt tw mse mbr mwk mns mtp mss p0 p1 p2 (hq)) gX9_dig_X9_isBad rfl rfl ok_X9_isBad rfl rfl (by decide) ⟨by decide, by decide⟩ (Nat.le_of_ble_eq_true rfl) [0] [] ⟨rfl, by decide, rfl, by decide, by decide⟩ 0 rfl rfl rfl (fun r1 u hp => ?_)
  obtain rfl := hp
  refine g_sub (k := 0) (n := 0) (ws' := [(m, .inr (9, [.ref mh, .ref mg, .ref mt, .ref mf, .ref ms, .ref msT, .ref msF, .ref mgv, .ref mP, .ref mW, .ref mV, .ref mco, .ref men, .ref mnt, .int (nI 1), .int mse, .int mbr, .int mwk, .int mns, .int mtp, .int mss]))]) [0] (by decide) rfl ?_
  refine g_if_eqN (tgt := 12) X dX9_dig_7 (by decide) (by decide) (fun b7x => False.elim (by revert b7x; decide)) (fun b7x => ?_)
  refine g_iconst (v := nI 0) X dX9_dig_10 (by decide) ?_
  exact g_iret X E dX9_dig_11 () rfl (by decide) (by decide) (rfl)

set_option maxRecDepth 100000 in
set_option maxHeartbeats 4000000 in
theorem c_X9_dig2 (l : Launch) (D : va_G) (ai az al : ClassId) (m : Nat) (mh : Nat) (mg : Nat) (mt : Nat) (mf : Nat) (ms : Nat) (msT : Nat) (msF : Nat) (mgv : Nat) (mP : Nat) (mW : Nat) (mV : Nat) (mco : Nat) (men : Nat) (mnt : Nat) (tw : Int32) (mse : Int32) (mbr : Int32) (mwk : Int32) (mns : Int32) (mtp : Int32) (mss : Int32) (p0 : Int32) (p1 : Int32) (p2 : Int32) (hq : CP p0 p1) (hq2 : ¬ inN p2 1 60) : CI l D (tY ai az al) yX9_dig wsX9_dig { frames := 3, cells := 0, slots := 0, locals := 66 } [.ref m, .int p0, .int p1, .int p2] [(m, .inr (9, [.ref mh, .ref mg, .ref mt, .ref mf, .ref ms, .ref msT, .ref msF, .ref mgv, .ref mP, .ref mW, .ref mV, .ref mco, .ref men, .ref mnt, .int tw, .int mse, .int mbr, .int mwk, .int mns, .int mtp, .int mss]))] (fun (r : Int32) (u : Unit) => r = nI 0) (fun (u : Unit) => [(m, .inr (9, [.ref mh, .ref mg, .ref mt, .ref mf, .ref ms, .ref msT, .ref msF, .ref mgv, .ref mP, .ref mW, .ref mV, .ref mco, .ref men, .ref mnt, .int (nI 2), .int mse, .int mbr, .int mwk, .int mns, .int mtp, .int mss]))]) := by
  refine ofG_I (cc := cX9_dig) (nL := 5) (lv0 := [(0, .ref m), (1, .int p0), (2, .int p1), (3, .int p2)]) (by decide) rfl (Nat.le_of_ble_eq_true rfl) rfl ?_
  intro Γ X E
  refine g_aload_n X dX9_dig_0 rfl 0 rfl ?_
  refine g_iload_n X dX9_dig_1 rfl 1 rfl ?_
  refine g_iload_n X dX9_dig_2 rfl 2 rfl ?_
  refine g_iload_n X dX9_dig_3 rfl 3 rfl ?_
  refine g_callVi (C := RX9) (As := [.int p0, .int p1, .int p2]) (rest := []) (wr := []) X dX9_dig_4 (c_X9_isBad2 l D ai az al m mh mg mt mf ms msT msF mgv mP mW mV mco men mnt tw mse mbr mwk mns mtp mss p0 p1 p2 (hq) (hq2)) gX9_dig_X9_isBad rfl rfl ok_X9_isBad rfl rfl (by decide) ⟨by decide, by decide⟩ (Nat.le_of_ble_eq_true rfl) [0] [] ⟨rfl, by decide, rfl, by decide, by decide⟩ 0 rfl rfl rfl (fun r1 u hp => ?_)
  obtain rfl := hp
  refine g_sub (k := 0) (n := 0) (ws' := [(m, .inr (9, [.ref mh, .ref mg, .ref mt, .ref mf, .ref ms, .ref msT, .ref msF, .ref mgv, .ref mP, .ref mW, .ref mV, .ref mco, .ref men, .ref mnt, .int (nI 2), .int mse, .int mbr, .int mwk, .int mns, .int mtp, .int mss]))]) [0] (by decide) rfl ?_
  refine g_if_eqN (tgt := 12) X dX9_dig_7 (by decide) (by decide) (fun b7x => False.elim (by revert b7x; decide)) (fun b7x => ?_)
  refine g_iconst (v := nI 0) X dX9_dig_10 (by decide) ?_
  exact g_iret X E dX9_dig_11 () rfl (by decide) (by decide) (rfl)

theorem in_X9_dig_X9 : ∀ w ∈ u_ws RX9 TX9 21, w ∈ wsX9_dig := by decide +kernel
set_option maxRecDepth 100000 in
set_option maxHeartbeats 4000000 in
theorem c_X9_dig3 (l : Launch) (D : va_G) (ai az al : ClassId) (m : Nat) (mh : Nat) (mg : Nat) (mt : Nat) (mf : Nat) (ms : Nat) (msT : Nat) (msF : Nat) (mgv : Nat) (mP : Nat) (mW : Nat) (mV : Nat) (mco : Nat) (men : Nat) (mnt : Nat) (tw : Int32) (mse : Int32) (mbr : Int32) (mwk : Int32) (mns : Int32) (mtp : Int32) (mss : Int32) (Hm : Nat → Int32) (Gm : Nat → Int32) (h : Nat → Nat) (x : Nat) (y : Nat) (n : Nat) (hx : x < 6) (hy : y < 7) (hn1 : 1 ≤ n) (hn2 : n ≤ 60) (hH : HOK Hm h) (hb : ∀ c, c < 42 → h c < 2 ^ 31) (hlt : h (y * 6 + x) < n) : CI l D (tY ai az al) yX9_dig wsX9_dig { frames := 3, cells := 0, slots := 0, locals := 66 } [.ref m, .int (nI x), .int (nI y), .int (nI n)] [(m, .inr (9, [.ref mh, .ref mg, .ref mt, .ref mf, .ref ms, .ref msT, .ref msF, .ref mgv, .ref mP, .ref mW, .ref mV, .ref mco, .ref men, .ref mnt, .int tw, .int mse, .int mbr, .int mwk, .int mns, .int mtp, .int mss])), (mh, .inl (ai, 42, .inl Hm)), (mg, .inl (ai, 42, .inl Gm))] (fun (r : Int32) (u : Unit) => r = nI 0) (fun (u : Unit) => [(m, .inr (9, [.ref mh, .ref mg, .ref mt, .ref mf, .ref ms, .ref msT, .ref msF, .ref mgv, .ref mP, .ref mW, .ref mV, .ref mco, .ref men, .ref mnt, .int (nI 3), .int mse, .int mbr, .int mwk, .int mns, .int mtp, .int mss])), (mh, .inl (ai, 42, .inl Hm)), (mg, .inl (ai, 42, .inl Gm))]) := by
  refine ofG_I (cc := cX9_dig) (nL := 5) (lv0 := [(0, .ref m), (1, .int (nI x)), (2, .int (nI y)), (3, .int (nI n))]) (by decide) rfl (Nat.le_of_ble_eq_true rfl) rfl ?_
  intro Γ X E
  refine g_aload_n X dX9_dig_0 rfl 0 rfl ?_
  refine g_iload_n X dX9_dig_1 rfl 1 rfl ?_
  refine g_iload_n X dX9_dig_2 rfl 2 rfl ?_
  refine g_iload_n X dX9_dig_3 rfl 3 rfl ?_
  refine g_callVi (C := RX9) (As := [.int (nI x), .int (nI y), .int (nI n)]) (rest := []) (wr := [(mh, .inl (ai, 42, .inl Hm)), (mg, .inl (ai, 42, .inl Gm))]) X dX9_dig_4 (c_X9_isBad0 l D ai az al m mh mg mt mf ms msT msF mgv mP mW mV mco men mnt tw mse mbr mwk mns mtp mss (nI x) (nI y) (nI n) (CP_of hx hy) (⟨n, hn1, hn2, rfl⟩)) gX9_dig_X9_isBad rfl rfl ok_X9_isBad rfl rfl (by decide) ⟨by decide, by decide⟩ (Nat.le_of_ble_eq_true rfl) [0] [1, 2] ⟨rfl, by decide, rfl, by decide, by decide⟩ 0 rfl rfl rfl (fun r1 u hp => ?_)
  obtain rfl := hp
  refine g_sub (k := 0) (n := 0) (ws' := [(m, .inr (9, [.ref mh, .ref mg, .ref mt, .ref mf, .ref ms, .ref msT, .ref msF, .ref mgv, .ref mP, .ref mW, .ref mV, .ref mco, .ref men, .ref mnt, .int (nI 0), .int mse, .int mbr, .int mwk, .int mns, .int mtp, .int mss])), (mh, .inl (ai, 42, .inl Hm)), (mg, .inl (ai, 42, .inl Gm))]) [2, 0, 1] (by decide) rfl ?_
  refine g_if_eqN (tgt := 12) X dX9_dig_7 (by decide) (by decide) (fun b7x => ?_) (fun b7x => False.elim (by revert b7x; decide))
  refine g_iload_n X dX9_dig_12 rfl 1 rfl ?_
  refine g_iload_n X dX9_dig_13 rfl 2 rfl ?_
  refine g_callSi (As := [.int (nI x), .int (nI y)]) (rest := []) (wr := [(m, .inr (9, [.ref mh, .ref mg, .ref mt, .ref mf, .ref ms, .ref msT, .ref msF, .ref mgv, .ref mP, .ref mW, .ref mV, .ref mco, .ref men, .ref mnt, .int (nI 0), .int mse, .int mbr, .int mwk, .int mns, .int mtp, .int mss])), (mh, .inl (ai, 42, .inl Hm)), (mg, .inl (ai, 42, .inl Gm))]) X dX9_dig_14 (c_X9_at l D ai az al x y ) gX9_dig_X9_at rfl rfl ok_X9_at rfl rfl (by decide) ⟨by decide, by decide⟩ (Nat.le_of_ble_eq_true rfl) [] [0, 1, 2] ⟨rfl, by decide, rfl, by decide, by decide⟩ (fun r2 u hp => ?_)
  obtain rfl := hp
  refine g_sub (k := 0) (n := 0) (ws' := [(m, .inr (9, [.ref mh, .ref mg, .ref mt, .ref mf, .ref ms, .ref msT, .ref msF, .ref mgv, .ref mP, .ref mW, .ref mV, .ref mco, .ref men, .ref mnt, .int (nI 0), .int mse, .int mbr, .int mwk, .int mns, .int mtp, .int mss])), (mh, .inl (ai, 42, .inl Hm)), (mg, .inl (ai, 42, .inl Gm))]) [0, 1, 2] (by decide) rfl ?_
  refine g_istore (lv' := [(4, .int (nI (y * 6 + x))), (0, .ref m), (1, .int (nI x)), (2, .int (nI y)), (3, .int (nI n))]) X dX9_dig_17 (by decide) rfl ?_
  refine g_aload_n X dX9_dig_19 rfl 1 rfl ?_
  refine g_aload_n X dX9_dig_20 rfl 1 rfl ?_
  refine g_getf (T := TX9) (v := .ref mh) X dX9_dig_21 0 rfl rfl in_X9_dig_X9 0 (by decide) (by decide +kernel) rfl rfl ?_
  refine g_iload X dX9_dig_24 0 rfl ?_
  refine g_ialdN (v := nI (h (y * 6 + x))) X dX9_dig_26 1 0 rfl rfl (by omega) (by omega) (hH (y * 6 + x) (by omega)) ?_
  refine g_iload_n X dX9_dig_27 rfl 4 rfl ?_
  refine g_icmp_geN (tgt := 35) X dX9_dig_28 (by decide) (hb _ (by omega)) (by omega) (fun b28 => False.elim (by omega)) (fun b28 => ?_)
  refine g_iconst (v := nI 3) X dX9_dig_31 (by decide) ?_
  refine g_goto (tgt := 36) X dX9_dig_32 (by decide) ?_
  refine g_putf (T := TX9) (v := .int (nI 3)) (ty := tyX9 14) (ws' := [(m, .inr (9, [.ref mh, .ref mg, .ref mt, .ref mf, .ref ms, .ref msT, .ref msF, .ref mgv, .ref mP, .ref mW, .ref mV, .ref mco, .ref men, .ref mnt, .int (nI 3), .int mse, .int mbr, .int mwk, .int mns, .int mtp, .int mss])), (mh, .inl (ai, 42, .inl Hm)), (mg, .inl (ai, 42, .inl Gm))]) X dX9_dig_36 0 rfl rfl in_X9_dig_X9 tyX9 tyX9_ok nmX9 14 (by decide) (by decide +kernel) rfl rfl (by decide +kernel) rfl rfl (Nat.le_of_ble_eq_true rfl) rfl ?_
  refine g_aload_n X dX9_dig_39 rfl 1 rfl ?_
  refine g_getf (T := TX9) (v := .int (nI 3)) X dX9_dig_40 0 rfl rfl in_X9_dig_X9 14 (by decide) (by decide +kernel) rfl rfl ?_
  refine g_if_leN (tgt := 48) X dX9_dig_43 (by decide) (by decide) (fun b43x => False.elim (by revert b43x; decide)) (fun b43x => ?_)
  refine g_iconst (v := nI 0) X dX9_dig_46 (by decide) ?_
  exact g_iret X E dX9_dig_47 () rfl (by decide) (by decide) (rfl)

set_option maxRecDepth 100000 in
set_option maxHeartbeats 4000000 in
theorem c_X9_dig0 (l : Launch) (D : va_G) (ai az al : ClassId) (m : Nat) (mh : Nat) (mg : Nat) (mt : Nat) (mf : Nat) (ms : Nat) (msT : Nat) (msF : Nat) (mgv : Nat) (mP : Nat) (mW : Nat) (mV : Nat) (mco : Nat) (men : Nat) (mnt : Nat) (tw : Int32) (mse : Int32) (mbr : Int32) (mwk : Int32) (mns : Int32) (mtp : Int32) (mss : Int32) (Hm : Nat → Int32) (Gm : Nat → Int32) (h : Nat → Nat) (x : Nat) (y : Nat) (n : Nat) (hx : x < 6) (hy : y < 7) (hn1 : 1 ≤ n) (hn2 : n ≤ 60) (hH : HOK Hm h) (hb : ∀ c, c < 42 → h c < 2 ^ 31) (hge : n ≤ h (y * 6 + x)) : CI l D (tY ai az al) yX9_dig wsX9_dig { frames := 3, cells := 0, slots := 0, locals := 66 } [.ref m, .int (nI x), .int (nI y), .int (nI n)] [(m, .inr (9, [.ref mh, .ref mg, .ref mt, .ref mf, .ref ms, .ref msT, .ref msF, .ref mgv, .ref mP, .ref mW, .ref mV, .ref mco, .ref men, .ref mnt, .int tw, .int mse, .int mbr, .int mwk, .int mns, .int mtp, .int mss])), (mh, .inl (ai, 42, .inl Hm)), (mg, .inl (ai, 42, .inl Gm))] (fun (r : Int32) (u : (Nat → Int32)) => r = nI (h (y * 6 + x) - n) ∧ HOK u (setN h (y * 6 + x) (h (y * 6 + x) - n))) (fun (u : (Nat → Int32)) => [(m, .inr (9, [.ref mh, .ref mg, .ref mt, .ref mf, .ref ms, .ref msT, .ref msF, .ref mgv, .ref mP, .ref mW, .ref mV, .ref mco, .ref men, .ref mnt, .int (nI 0), .int mse, .int (mbr - nI n), .int mwk, .int mns, .int mtp, .int mss])), (mh, .inl (ai, 42, .inl u)), (mg, .inl (ai, 42, .inl (upd Gm (y * 6 + x) (Gm (y * 6 + x) - nI n))))]) := by
  refine ofG_I (cc := cX9_dig) (nL := 5) (lv0 := [(0, .ref m), (1, .int (nI x)), (2, .int (nI y)), (3, .int (nI n))]) (by decide) rfl (Nat.le_of_ble_eq_true rfl) rfl ?_
  intro Γ X E
  refine g_aload_n X dX9_dig_0 rfl 0 rfl ?_
  refine g_iload_n X dX9_dig_1 rfl 1 rfl ?_
  refine g_iload_n X dX9_dig_2 rfl 2 rfl ?_
  refine g_iload_n X dX9_dig_3 rfl 3 rfl ?_
  refine g_callVi (C := RX9) (As := [.int (nI x), .int (nI y), .int (nI n)]) (rest := []) (wr := [(mh, .inl (ai, 42, .inl Hm)), (mg, .inl (ai, 42, .inl Gm))]) X dX9_dig_4 (c_X9_isBad0 l D ai az al m mh mg mt mf ms msT msF mgv mP mW mV mco men mnt tw mse mbr mwk mns mtp mss (nI x) (nI y) (nI n) (CP_of hx hy) (⟨n, hn1, hn2, rfl⟩)) gX9_dig_X9_isBad rfl rfl ok_X9_isBad rfl rfl (by decide) ⟨by decide, by decide⟩ (Nat.le_of_ble_eq_true rfl) [0] [1, 2] ⟨rfl, by decide, rfl, by decide, by decide⟩ 0 rfl rfl rfl (fun r1 u hp => ?_)
  obtain rfl := hp
  refine g_sub (k := 0) (n := 0) (ws' := [(m, .inr (9, [.ref mh, .ref mg, .ref mt, .ref mf, .ref ms, .ref msT, .ref msF, .ref mgv, .ref mP, .ref mW, .ref mV, .ref mco, .ref men, .ref mnt, .int (nI 0), .int mse, .int mbr, .int mwk, .int mns, .int mtp, .int mss])), (mh, .inl (ai, 42, .inl Hm)), (mg, .inl (ai, 42, .inl Gm))]) [2, 0, 1] (by decide) rfl ?_
  refine g_if_eqN (tgt := 12) X dX9_dig_7 (by decide) (by decide) (fun b7x => ?_) (fun b7x => False.elim (by revert b7x; decide))
  refine g_iload_n X dX9_dig_12 rfl 1 rfl ?_
  refine g_iload_n X dX9_dig_13 rfl 2 rfl ?_
  refine g_callSi (As := [.int (nI x), .int (nI y)]) (rest := []) (wr := [(m, .inr (9, [.ref mh, .ref mg, .ref mt, .ref mf, .ref ms, .ref msT, .ref msF, .ref mgv, .ref mP, .ref mW, .ref mV, .ref mco, .ref men, .ref mnt, .int (nI 0), .int mse, .int mbr, .int mwk, .int mns, .int mtp, .int mss])), (mh, .inl (ai, 42, .inl Hm)), (mg, .inl (ai, 42, .inl Gm))]) X dX9_dig_14 (c_X9_at l D ai az al x y ) gX9_dig_X9_at rfl rfl ok_X9_at rfl rfl (by decide) ⟨by decide, by decide⟩ (Nat.le_of_ble_eq_true rfl) [] [0, 1, 2] ⟨rfl, by decide, rfl, by decide, by decide⟩ (fun r2 u hp => ?_)
  obtain rfl := hp
  refine g_sub (k := 0) (n := 0) (ws' := [(m, .inr (9, [.ref mh, .ref mg, .ref mt, .ref mf, .ref ms, .ref msT, .ref msF, .ref mgv, .ref mP, .ref mW, .ref mV, .ref mco, .ref men, .ref mnt, .int (nI 0), .int mse, .int mbr, .int mwk, .int mns, .int mtp, .int mss])), (mh, .inl (ai, 42, .inl Hm)), (mg, .inl (ai, 42, .inl Gm))]) [0, 1, 2] (by decide) rfl ?_
  refine g_istore (lv' := [(4, .int (nI (y * 6 + x))), (0, .ref m), (1, .int (nI x)), (2, .int (nI y)), (3, .int (nI n))]) X dX9_dig_17 (by decide) rfl ?_
  refine g_aload_n X dX9_dig_19 rfl 1 rfl ?_
  refine g_aload_n X dX9_dig_20 rfl 1 rfl ?_
  refine g_getf (T := TX9) (v := .ref mh) X dX9_dig_21 0 rfl rfl in_X9_dig_X9 0 (by decide) (by decide +kernel) rfl rfl ?_
  refine g_iload X dX9_dig_24 0 rfl ?_
  refine g_ialdN (v := nI (h (y * 6 + x))) X dX9_dig_26 1 0 rfl rfl (by omega) (by omega) (hH (y * 6 + x) (by omega)) ?_
  refine g_iload_n X dX9_dig_27 rfl 4 rfl ?_
  refine g_icmp_geN (tgt := 35) X dX9_dig_28 (by decide) (hb _ (by omega)) (by omega) (fun b28 => ?_) (fun b28 => False.elim (by omega))
  refine g_iconst (v := nI 0) X dX9_dig_35 (by decide) ?_
  refine g_putf (T := TX9) (v := .int (nI 0)) (ty := tyX9 14) (ws' := [(m, .inr (9, [.ref mh, .ref mg, .ref mt, .ref mf, .ref ms, .ref msT, .ref msF, .ref mgv, .ref mP, .ref mW, .ref mV, .ref mco, .ref men, .ref mnt, .int (nI 0), .int mse, .int mbr, .int mwk, .int mns, .int mtp, .int mss])), (mh, .inl (ai, 42, .inl Hm)), (mg, .inl (ai, 42, .inl Gm))]) X dX9_dig_36 0 rfl rfl in_X9_dig_X9 tyX9 tyX9_ok nmX9 14 (by decide) (by decide +kernel) rfl rfl (by decide +kernel) rfl rfl (Nat.le_of_ble_eq_true rfl) rfl ?_
  refine g_aload_n X dX9_dig_39 rfl 1 rfl ?_
  refine g_getf (T := TX9) (v := .int (nI 0)) X dX9_dig_40 0 rfl rfl in_X9_dig_X9 14 (by decide) (by decide +kernel) rfl rfl ?_
  refine g_if_leN (tgt := 48) X dX9_dig_43 (by decide) (by decide) (fun b43x => ?_) (fun b43x => False.elim (by revert b43x; decide))
  refine g_aload_n X dX9_dig_48 rfl 1 rfl ?_
  refine g_getf (T := TX9) (v := .ref mh) X dX9_dig_49 0 rfl rfl in_X9_dig_X9 0 (by decide) (by decide +kernel) rfl rfl ?_
  refine g_iload X dX9_dig_52 0 rfl ?_
  refine g_dup2 X dX9_dig_54 rfl rfl ?_
  refine g_ialdN (v := (Hm (y * 6 + x))) X dX9_dig_55 1 0 rfl rfl (by omega) (by omega) (rfl) ?_
  refine g_iload_n X dX9_dig_56 rfl 4 rfl ?_
  refine g_isub (v := ((Hm (y * 6 + x)) - nI n)) X dX9_dig_57 (rfl) ?_
  refine g_iastN (g' := upd Hm (y * 6 + x) ((Hm (y * 6 + x)) - nI n)) (ws' := [(m, .inr (9, [.ref mh, .ref mg, .ref mt, .ref mf, .ref ms, .ref msT, .ref msF, .ref mgv, .ref mP, .ref mW, .ref mV, .ref mco, .ref men, .ref mnt, .int (nI 0), .int mse, .int mbr, .int mwk, .int mns, .int mtp, .int mss])), (mh, .inl (ai, 42, .inl (upd Hm (y * 6 + x) ((Hm (y * 6 + x)) - nI n)))), (mg, .inl (ai, 42, .inl Gm))]) X dX9_dig_58 1 0 rfl rfl (by omega) (by omega) (rfl) rfl ?_
  refine g_aload_n X dX9_dig_59 rfl 1 rfl ?_
  refine g_getf (T := TX9) (v := .ref mg) X dX9_dig_60 0 rfl rfl in_X9_dig_X9 1 (by decide) (by decide +kernel) rfl rfl ?_
  refine g_iload X dX9_dig_63 0 rfl ?_
  refine g_dup2 X dX9_dig_65 rfl rfl ?_
  refine g_ialdN (v := (Gm (y * 6 + x))) X dX9_dig_66 2 0 rfl rfl (by omega) (by omega) (rfl) ?_
  refine g_iload_n X dX9_dig_67 rfl 4 rfl ?_
  refine g_isub (v := ((Gm (y * 6 + x)) - nI n)) X dX9_dig_68 (rfl) ?_
  refine g_iastN (g' := upd Gm (y * 6 + x) ((Gm (y * 6 + x)) - nI n)) (ws' := [(m, .inr (9, [.ref mh, .ref mg, .ref mt, .ref mf, .ref ms, .ref msT, .ref msF, .ref mgv, .ref mP, .ref mW, .ref mV, .ref mco, .ref men, .ref mnt, .int (nI 0), .int mse, .int mbr, .int mwk, .int mns, .int mtp, .int mss])), (mh, .inl (ai, 42, .inl (upd Hm (y * 6 + x) ((Hm (y * 6 + x)) - nI n)))), (mg, .inl (ai, 42, .inl (upd Gm (y * 6 + x) ((Gm (y * 6 + x)) - nI n))))]) X dX9_dig_69 2 0 rfl rfl (by omega) (by omega) (rfl) rfl ?_
  refine g_aload_n X dX9_dig_70 rfl 1 rfl ?_
  refine g_dup X dX9_dig_71 rfl ?_
  refine g_getf (T := TX9) (v := .int mbr) X dX9_dig_72 0 rfl rfl in_X9_dig_X9 16 (by decide) (by decide +kernel) rfl rfl ?_
  refine g_iload_n X dX9_dig_75 rfl 4 rfl ?_
  refine g_isub (v := (mbr - nI n)) X dX9_dig_76 (rfl) ?_
  refine g_putf (T := TX9) (v := .int (mbr - nI n)) (ty := tyX9 16) (ws' := [(m, .inr (9, [.ref mh, .ref mg, .ref mt, .ref mf, .ref ms, .ref msT, .ref msF, .ref mgv, .ref mP, .ref mW, .ref mV, .ref mco, .ref men, .ref mnt, .int (nI 0), .int mse, .int (mbr - nI n), .int mwk, .int mns, .int mtp, .int mss])), (mh, .inl (ai, 42, .inl (upd Hm (y * 6 + x) ((Hm (y * 6 + x)) - nI n)))), (mg, .inl (ai, 42, .inl (upd Gm (y * 6 + x) ((Gm (y * 6 + x)) - nI n))))]) X dX9_dig_77 0 rfl rfl in_X9_dig_X9 tyX9 tyX9_ok nmX9 16 (by decide) (by decide +kernel) rfl rfl (by decide +kernel) rfl rfl (Nat.le_of_ble_eq_true rfl) rfl ?_
  refine g_aload_n X dX9_dig_80 rfl 1 rfl ?_
  refine g_getf (T := TX9) (v := .ref mh) X dX9_dig_81 0 rfl rfl in_X9_dig_X9 0 (by decide) (by decide +kernel) rfl rfl ?_
  refine g_iload X dX9_dig_84 0 rfl ?_
  refine g_ialdN (v := ((upd Hm (y * 6 + x) ((Hm (y * 6 + x)) - nI n)) (y * 6 + x))) X dX9_dig_86 1 0 rfl rfl (by omega) (by omega) (rfl) ?_
  exact g_iret X E dX9_dig_87 (upd Hm (y * 6 + x) ((Hm (y * 6 + x)) - nI n)) rfl (by decide) (by decide) (⟨by rw [upd_at, hH (y * 6 + x) (by omega)]; exact pk_sub hge, hH.set (by rw [hH (y * 6 + x) (by omega)]; exact pk_sub hge)⟩)

theorem ok_X9_topplesIf : okName yX9_topplesIf 3 := by decide +kernel
set_option maxRecDepth 100000 in
set_option maxHeartbeats 4000000 in
theorem c_X9_topplesIf1 (l : Launch) (D : va_G) (ai az al : ClassId) (m : Nat) (mh : Nat) (mg : Nat) (mt : Nat) (mf : Nat) (ms : Nat) (msT : Nat) (msF : Nat) (mgv : Nat) (mP : Nat) (mW : Nat) (mV : Nat) (mco : Nat) (men : Nat) (mnt : Nat) (tw : Int32) (mse : Int32) (mbr : Int32) (mwk : Int32) (mns : Int32) (mtp : Int32) (mss : Int32) (p0 : Int32) (p1 : Int32) (p2 : Int32) (hq : ¬ CP p0 p1) : CI l D (tY ai az al) yX9_topplesIf wsX9_topplesIf { frames := 3, cells := 0, slots := 0, locals := 66 } [.ref m, .int p0, .int p1, .int p2] [(m, .inr (9, [.ref mh, .ref mg, .ref mt, .ref mf, .ref ms, .ref msT, .ref msF, .ref mgv, .ref mP, .ref mW, .ref mV, .ref mco, .ref men, .ref mnt, .int tw, .int mse, .int mbr, .int mwk, .int mns, .int mtp, .int mss]))] (fun (r : Int32) (u : Unit) => r = nI 0) (fun (u : Unit) => [(m, .inr (9, [.ref mh, .ref mg, .ref mt, .ref mf, .ref ms, .ref msT, .ref msF, .ref mgv, .ref mP, .ref mW, .ref mV, .ref mco, .ref men, .ref mnt, .int (nI 1), .int mse, .int mbr, .int mwk, .int mns, .int mtp, .int mss]))]) := by
  refine ofG_I (cc := cX9_topplesIf) (nL := 5) (lv0 := [(0, .ref m), (1, .int p0), (2, .int p1), (3, .int p2)]) (by decide) rfl (Nat.le_of_ble_eq_true rfl) rfl ?_
  intro Γ X E
  refine g_aload_n X dX9_topplesIf_0 rfl 0 rfl ?_
  refine g_iload_n X dX9_topplesIf_1 rfl 1 rfl ?_
  refine g_iload_n X dX9_topplesIf_2 rfl 2 rfl ?_
  refine g_iload_n X dX9_topplesIf_3 rfl 3 rfl ?_
  refine g_callVi (C := RX9) (As := [.int p0, .int p1, .int p2]) (rest := []) (wr := []) X dX9_topplesIf_4 (c_X9_isBad1 l D ai az al m mh mg mt mf ms msT msF mgv mP mW mV mco men mnt tw mse mbr mwk mns mtp mss p0 p1 p2 (hq)) gX9_topplesIf_X9_isBad rfl rfl ok_X9_isBad rfl rfl (by decide) ⟨by decide, by decide⟩ (Nat.le_of_ble_eq_true rfl) [0] [] ⟨rfl, by decide, rfl, by decide, by decide⟩ 0 rfl rfl rfl (fun r1 u hp => ?_)
  obtain rfl := hp
  refine g_sub (k := 0) (n := 0) (ws' := [(m, .inr (9, [.ref mh, .ref mg, .ref mt, .ref mf, .ref ms, .ref msT, .ref msF, .ref mgv, .ref mP, .ref mW, .ref mV, .ref mco, .ref men, .ref mnt, .int (nI 1), .int mse, .int mbr, .int mwk, .int mns, .int mtp, .int mss]))]) [0] (by decide) rfl ?_
  refine g_if_eqN (tgt := 12) X dX9_topplesIf_7 (by decide) (by decide) (fun b7x => False.elim (by revert b7x; decide)) (fun b7x => ?_)
  refine g_iconst (v := nI 0) X dX9_topplesIf_10 (by decide) ?_
  exact g_iret X E dX9_topplesIf_11 () rfl (by decide) (by decide) (rfl)

set_option maxRecDepth 100000 in
set_option maxHeartbeats 4000000 in
theorem c_X9_topplesIf2 (l : Launch) (D : va_G) (ai az al : ClassId) (m : Nat) (mh : Nat) (mg : Nat) (mt : Nat) (mf : Nat) (ms : Nat) (msT : Nat) (msF : Nat) (mgv : Nat) (mP : Nat) (mW : Nat) (mV : Nat) (mco : Nat) (men : Nat) (mnt : Nat) (tw : Int32) (mse : Int32) (mbr : Int32) (mwk : Int32) (mns : Int32) (mtp : Int32) (mss : Int32) (p0 : Int32) (p1 : Int32) (p2 : Int32) (hq : CP p0 p1) (hq2 : ¬ inN p2 1 60) : CI l D (tY ai az al) yX9_topplesIf wsX9_topplesIf { frames := 3, cells := 0, slots := 0, locals := 66 } [.ref m, .int p0, .int p1, .int p2] [(m, .inr (9, [.ref mh, .ref mg, .ref mt, .ref mf, .ref ms, .ref msT, .ref msF, .ref mgv, .ref mP, .ref mW, .ref mV, .ref mco, .ref men, .ref mnt, .int tw, .int mse, .int mbr, .int mwk, .int mns, .int mtp, .int mss]))] (fun (r : Int32) (u : Unit) => r = nI 0) (fun (u : Unit) => [(m, .inr (9, [.ref mh, .ref mg, .ref mt, .ref mf, .ref ms, .ref msT, .ref msF, .ref mgv, .ref mP, .ref mW, .ref mV, .ref mco, .ref men, .ref mnt, .int (nI 2), .int mse, .int mbr, .int mwk, .int mns, .int mtp, .int mss]))]) := by
  refine ofG_I (cc := cX9_topplesIf) (nL := 5) (lv0 := [(0, .ref m), (1, .int p0), (2, .int p1), (3, .int p2)]) (by decide) rfl (Nat.le_of_ble_eq_true rfl) rfl ?_
  intro Γ X E
  refine g_aload_n X dX9_topplesIf_0 rfl 0 rfl ?_
  refine g_iload_n X dX9_topplesIf_1 rfl 1 rfl ?_
  refine g_iload_n X dX9_topplesIf_2 rfl 2 rfl ?_
  refine g_iload_n X dX9_topplesIf_3 rfl 3 rfl ?_
  refine g_callVi (C := RX9) (As := [.int p0, .int p1, .int p2]) (rest := []) (wr := []) X dX9_topplesIf_4 (c_X9_isBad2 l D ai az al m mh mg mt mf ms msT msF mgv mP mW mV mco men mnt tw mse mbr mwk mns mtp mss p0 p1 p2 (hq) (hq2)) gX9_topplesIf_X9_isBad rfl rfl ok_X9_isBad rfl rfl (by decide) ⟨by decide, by decide⟩ (Nat.le_of_ble_eq_true rfl) [0] [] ⟨rfl, by decide, rfl, by decide, by decide⟩ 0 rfl rfl rfl (fun r1 u hp => ?_)
  obtain rfl := hp
  refine g_sub (k := 0) (n := 0) (ws' := [(m, .inr (9, [.ref mh, .ref mg, .ref mt, .ref mf, .ref ms, .ref msT, .ref msF, .ref mgv, .ref mP, .ref mW, .ref mV, .ref mco, .ref men, .ref mnt, .int (nI 2), .int mse, .int mbr, .int mwk, .int mns, .int mtp, .int mss]))]) [0] (by decide) rfl ?_
  refine g_if_eqN (tgt := 12) X dX9_topplesIf_7 (by decide) (by decide) (fun b7x => False.elim (by revert b7x; decide)) (fun b7x => ?_)
  refine g_iconst (v := nI 0) X dX9_topplesIf_10 (by decide) ?_
  exact g_iret X E dX9_topplesIf_11 () rfl (by decide) (by decide) (rfl)

set_option maxRecDepth 100000 in
set_option maxHeartbeats 4000000 in
theorem c_X9_topplesIf0 (l : Launch) (D : va_G) (ai az al : ClassId) (m : Nat) (mh : Nat) (mg : Nat) (mt : Nat) (mf : Nat) (ms : Nat) (msT : Nat) (msF : Nat) (mgv : Nat) (mP : Nat) (mW : Nat) (mV : Nat) (mco : Nat) (men : Nat) (mnt : Nat) (tw : Int32) (mse : Int32) (mbr : Int32) (mwk : Int32) (mns : Int32) (mtp : Int32) (mss : Int32) (Hm : Nat → Int32) (Fm : Nat → Int32) (Tm : Nat → Int32) (Pm : Nat → Int32) (Wm : Nat → Int32) (Sm : Nat → Int32) (STm : Nat → Int32) (SFm : Nat → Int32) (nb : Nat → Nat → Nat) (pl : Nat → Bool) (h : Nat → Nat) (x : Nat) (y : Nat) (n : Nat) (hW : NW nb) (hWm : WOK Wm nb) (hC : Cn nb) (hP : POK Pm pl) (hH : HOK Hm h) (hx : x < 6) (hy : y < 7) (hn1 : 1 ≤ n) (hn2 : n ≤ 60) (hn : sN h 42 ≤ 440) : CI l D (tY ai az al) yX9_topplesIf wsX9_topplesIf { frames := 5, cells := 0, slots := 0, locals := 112 } [.ref m, .int (nI x), .int (nI y), .int (nI n)] [(m, .inr (9, [.ref mh, .ref mg, .ref mt, .ref mf, .ref ms, .ref msT, .ref msF, .ref mgv, .ref mP, .ref mW, .ref mV, .ref mco, .ref men, .ref mnt, .int tw, .int mse, .int mbr, .int mwk, .int mns, .int mtp, .int mss])), (mh, .inl (ai, 42, .inl Hm)), (mf, .inl (ai, 168, .inl Fm)), (mt, .inl (ai, 42, .inl Tm)), (mP, .inl (az, 42, .inl Pm)), (mW, .inl (az, 168, .inl Wm)), (ms, .inl (ai, 42, .inl Sm)), (msT, .inl (ai, 42, .inl STm)), (msF, .inl (ai, 168, .inl SFm))] (fun (r : Int32) (u : (Nat → Nat) × (Nat → Nat)) => r = nI (sN u.2 42) ∧ Stl nb pl (addN h (y * 6 + x) n) u.1 u.2) (fun (u : (Nat → Nat) × (Nat → Nat)) => [(m, .inr (9, [.ref mh, .ref mg, .ref mt, .ref mf, .ref ms, .ref msT, .ref msF, .ref mgv, .ref mP, .ref mW, .ref mV, .ref mco, .ref men, .ref mnt, .int (nI 0), .int mse, .int mbr, .int mwk, .int mns, .int (nI (sN u.2 42)), .int mse])), (mh, .inl (ai, 42, .inl Hm)), (mf, .inl (ai, 168, .inl Fm)), (mt, .inl (ai, 42, .inl Tm)), (mP, .inl (az, 42, .inl Pm)), (mW, .inl (az, 168, .inl Wm)), (ms, .inl (ai, 42, .inl Hm)), (msT, .inl (ai, 42, .inl Tm)), (msF, .inl (ai, 168, .inl Fm))]) := by
  refine ofG_I (cc := cX9_topplesIf) (nL := 5) (lv0 := [(0, .ref m), (1, .int (nI x)), (2, .int (nI y)), (3, .int (nI n))]) (by decide) rfl (Nat.le_of_ble_eq_true rfl) rfl ?_
  intro Γ X E
  refine g_aload_n X dX9_topplesIf_0 rfl 0 rfl ?_
  refine g_iload_n X dX9_topplesIf_1 rfl 1 rfl ?_
  refine g_iload_n X dX9_topplesIf_2 rfl 2 rfl ?_
  refine g_iload_n X dX9_topplesIf_3 rfl 3 rfl ?_
  refine g_callVi (C := RX9) (As := [.int (nI x), .int (nI y), .int (nI n)]) (rest := []) (wr := [(mh, .inl (ai, 42, .inl Hm)), (mf, .inl (ai, 168, .inl Fm)), (mt, .inl (ai, 42, .inl Tm)), (mP, .inl (az, 42, .inl Pm)), (mW, .inl (az, 168, .inl Wm)), (ms, .inl (ai, 42, .inl Sm)), (msT, .inl (ai, 42, .inl STm)), (msF, .inl (ai, 168, .inl SFm))]) X dX9_topplesIf_4 (c_X9_isBad0 l D ai az al m mh mg mt mf ms msT msF mgv mP mW mV mco men mnt tw mse mbr mwk mns mtp mss (nI x) (nI y) (nI n) (CP_of hx hy) (⟨n, hn1, hn2, rfl⟩)) gX9_topplesIf_X9_isBad rfl rfl ok_X9_isBad rfl rfl (by decide) ⟨by decide, by decide⟩ (Nat.le_of_ble_eq_true rfl) [0] [1, 2, 3, 4, 5, 6, 7, 8] ⟨rfl, by decide, rfl, by decide, by decide⟩ 0 rfl rfl rfl (fun r1 u hp => ?_)
  obtain rfl := hp
  refine g_sub (k := 0) (n := 0) (ws' := [(m, .inr (9, [.ref mh, .ref mg, .ref mt, .ref mf, .ref ms, .ref msT, .ref msF, .ref mgv, .ref mP, .ref mW, .ref mV, .ref mco, .ref men, .ref mnt, .int (nI 0), .int mse, .int mbr, .int mwk, .int mns, .int mtp, .int mss])), (mh, .inl (ai, 42, .inl Hm)), (mf, .inl (ai, 168, .inl Fm)), (mt, .inl (ai, 42, .inl Tm)), (mP, .inl (az, 42, .inl Pm)), (mW, .inl (az, 168, .inl Wm)), (ms, .inl (ai, 42, .inl Sm)), (msT, .inl (ai, 42, .inl STm)), (msF, .inl (ai, 168, .inl SFm))]) [8, 0, 1, 2, 3, 4, 5, 6, 7] (by decide) rfl ?_
  refine g_if_eqN (tgt := 12) X dX9_topplesIf_7 (by decide) (by decide) (fun b7x => ?_) (fun b7x => False.elim (by revert b7x; decide))
  refine g_aload_n X dX9_topplesIf_12 rfl 0 rfl ?_
  refine g_callVv (C := RX9) (As := []) (rest := []) (wr := [(mP, .inl (az, 42, .inl Pm)), (mW, .inl (az, 168, .inl Wm))]) X dX9_topplesIf_13 (c_X9_saves l D ai az al m mh mg mt mf ms msT msF mgv mP mW mV mco men mnt (nI 0) mse mbr mwk mns mtp mss Hm Tm Fm Sm STm SFm ) gX9_topplesIf_X9_saves rfl rfl ok_X9_saves rfl rfl (by decide) ⟨by decide, by decide⟩ (Nat.le_of_ble_eq_true rfl) [0, 1, 3, 2, 6, 7, 8] [4, 5] ⟨rfl, by decide, rfl, by decide, by decide⟩ 0 rfl rfl rfl (fun u hp => ?_)
  refine g_sub (k := 0) (n := 0) (ws' := [(m, .inr (9, [.ref mh, .ref mg, .ref mt, .ref mf, .ref ms, .ref msT, .ref msF, .ref mgv, .ref mP, .ref mW, .ref mV, .ref mco, .ref men, .ref mnt, .int (nI 0), .int mse, .int mbr, .int mwk, .int mns, .int mtp, .int mse])), (mh, .inl (ai, 42, .inl Hm)), (mf, .inl (ai, 168, .inl Fm)), (mt, .inl (ai, 42, .inl Tm)), (mP, .inl (az, 42, .inl Pm)), (mW, .inl (az, 168, .inl Wm)), (ms, .inl (ai, 42, .inl Hm)), (msT, .inl (ai, 42, .inl Tm)), (msF, .inl (ai, 168, .inl Fm))]) [2, 3, 5, 4, 0, 1, 6, 7, 8] (by decide) rfl ?_
  refine g_aload_n X dX9_topplesIf_16 rfl 0 rfl ?_
  refine g_iload_n X dX9_topplesIf_17 rfl 1 rfl ?_
  refine g_iload_n X dX9_topplesIf_18 rfl 2 rfl ?_
  refine g_callSi (As := [.int (nI x), .int (nI y)]) (rest := [.ref m]) (wr := [(m, .inr (9, [.ref mh, .ref mg, .ref mt, .ref mf, .ref ms, .ref msT, .ref msF, .ref mgv, .ref mP, .ref mW, .ref mV, .ref mco, .ref men, .ref mnt, .int (nI 0), .int mse, .int mbr, .int mwk, .int mns, .int mtp, .int mse])), (mh, .inl (ai, 42, .inl Hm)), (mf, .inl (ai, 168, .inl Fm)), (mt, .inl (ai, 42, .inl Tm)), (mP, .inl (az, 42, .inl Pm)), (mW, .inl (az, 168, .inl Wm)), (ms, .inl (ai, 42, .inl Hm)), (msT, .inl (ai, 42, .inl Tm)), (msF, .inl (ai, 168, .inl Fm))]) X dX9_topplesIf_19 (c_X9_at l D ai az al x y ) gX9_topplesIf_X9_at rfl rfl ok_X9_at rfl rfl (by decide) ⟨by decide, by decide⟩ (Nat.le_of_ble_eq_true rfl) [] [0, 1, 2, 3, 4, 5, 6, 7, 8] ⟨rfl, by decide, rfl, by decide, by decide⟩ (fun r2 u hp => ?_)
  obtain rfl := hp
  refine g_sub (k := 0) (n := 0) (ws' := [(m, .inr (9, [.ref mh, .ref mg, .ref mt, .ref mf, .ref ms, .ref msT, .ref msF, .ref mgv, .ref mP, .ref mW, .ref mV, .ref mco, .ref men, .ref mnt, .int (nI 0), .int mse, .int mbr, .int mwk, .int mns, .int mtp, .int mse])), (mh, .inl (ai, 42, .inl Hm)), (mf, .inl (ai, 168, .inl Fm)), (mt, .inl (ai, 42, .inl Tm)), (mP, .inl (az, 42, .inl Pm)), (mW, .inl (az, 168, .inl Wm)), (ms, .inl (ai, 42, .inl Hm)), (msT, .inl (ai, 42, .inl Tm)), (msF, .inl (ai, 168, .inl Fm))]) [0, 1, 2, 3, 4, 5, 6, 7, 8] (by decide) rfl ?_
  refine g_iload_n X dX9_topplesIf_22 rfl 3 rfl ?_
  refine g_callVi (C := RX9) (As := [.int (nI (y * 6 + x)), .int (nI n)]) (rest := []) (wr := [(ms, .inl (ai, 42, .inl Hm)), (msT, .inl (ai, 42, .inl Tm)), (msF, .inl (ai, 168, .inl Fm))]) X dX9_topplesIf_23 (c_X9_pours l D ai az al m mh mg mt mf ms msT msF mgv mP mW mV mco men mnt (nI 0) mse mbr mwk mns mtp mse Hm Fm Tm Pm Wm nb pl h (y * 6 + x) n (hW) (hWm) (hC) (hP) (hH) (by omega) (by omega)) gX9_topplesIf_X9_pours rfl rfl ok_X9_pours rfl rfl (by decide) ⟨by decide, by decide⟩ (Nat.le_of_ble_eq_true rfl) [0, 1, 2, 3, 4, 5] [6, 7, 8] ⟨rfl, by decide, rfl, by decide, by decide⟩ 0 rfl rfl rfl (fun r3 u hp => ?_)
  obtain ⟨H5, F5, T5, h5, u5⟩ := u
  try dsimp only at hp
  obtain ⟨rfl, hS5, hH5, hF5, hT5⟩ := hp
  refine g_sub (k := 0) (n := 0) (ws' := [(m, .inr (9, [.ref mh, .ref mg, .ref mt, .ref mf, .ref ms, .ref msT, .ref msF, .ref mgv, .ref mP, .ref mW, .ref mV, .ref mco, .ref men, .ref mnt, .int (nI 0), .int (mse + nI (lostN nb u5 6)), .int mbr, .int mwk, .int mns, .int (nI (sN u5 42)), .int mse])), (mh, .inl (ai, 42, .inl H5)), (mf, .inl (ai, 168, .inl F5)), (mt, .inl (ai, 42, .inl T5)), (mP, .inl (az, 42, .inl Pm)), (mW, .inl (az, 168, .inl Wm)), (ms, .inl (ai, 42, .inl Hm)), (msT, .inl (ai, 42, .inl Tm)), (msF, .inl (ai, 168, .inl Fm))]) [3, 4, 5, 6, 7, 8, 0, 1, 2] (by decide) rfl ?_
  refine g_istore (lv' := [(4, .int (nI (sN u5 42))), (0, .ref m), (1, .int (nI x)), (2, .int (nI y)), (3, .int (nI n))]) X dX9_topplesIf_26 (by decide) rfl ?_
  refine g_aload_n X dX9_topplesIf_28 rfl 1 rfl ?_
  refine g_callVv (C := RX9) (As := []) (rest := []) (wr := [(mP, .inl (az, 42, .inl Pm)), (mW, .inl (az, 168, .inl Wm))]) X dX9_topplesIf_29 (c_X9_restores l D ai az al m mh mg mt mf ms msT msF mgv mP mW mV mco men mnt (nI 0) (mse + nI (lostN nb u5 6)) mbr mwk mns (nI (sN u5 42)) mse H5 T5 F5 Hm Tm Fm ) gX9_topplesIf_X9_restores rfl rfl ok_X9_restores rfl rfl (by decide) ⟨by decide, by decide⟩ (Nat.le_of_ble_eq_true rfl) [0, 1, 3, 2, 6, 7, 8] [4, 5] ⟨rfl, by decide, rfl, by decide, by decide⟩ 0 rfl rfl rfl (fun u hp => ?_)
  refine g_sub (k := 0) (n := 0) (ws' := [(m, .inr (9, [.ref mh, .ref mg, .ref mt, .ref mf, .ref ms, .ref msT, .ref msF, .ref mgv, .ref mP, .ref mW, .ref mV, .ref mco, .ref men, .ref mnt, .int (nI 0), .int mse, .int mbr, .int mwk, .int mns, .int (nI (sN u5 42)), .int mse])), (mh, .inl (ai, 42, .inl Hm)), (mf, .inl (ai, 168, .inl Fm)), (mt, .inl (ai, 42, .inl Tm)), (mP, .inl (az, 42, .inl Pm)), (mW, .inl (az, 168, .inl Wm)), (ms, .inl (ai, 42, .inl Hm)), (msT, .inl (ai, 42, .inl Tm)), (msF, .inl (ai, 168, .inl Fm))]) [2, 3, 5, 4, 0, 1, 6, 7, 8] (by decide) rfl ?_
  refine g_iload X dX9_topplesIf_32 0 rfl ?_
  exact g_iret X E dX9_topplesIf_34 (⟨h5, u5⟩) rfl (by decide) (by decide) (⟨rfl, hS5⟩)

theorem ok_X9_topplesIfBySweeps : okName yX9_topplesIfBySweeps 3 := by decide +kernel
set_option maxRecDepth 100000 in
set_option maxHeartbeats 4000000 in
theorem c_X9_topplesIfBySweeps1 (l : Launch) (D : va_G) (ai az al : ClassId) (m : Nat) (mh : Nat) (mg : Nat) (mt : Nat) (mf : Nat) (ms : Nat) (msT : Nat) (msF : Nat) (mgv : Nat) (mP : Nat) (mW : Nat) (mV : Nat) (mco : Nat) (men : Nat) (mnt : Nat) (tw : Int32) (mse : Int32) (mbr : Int32) (mwk : Int32) (mns : Int32) (mtp : Int32) (mss : Int32) (p0 : Int32) (p1 : Int32) (p2 : Int32) (hq : ¬ CP p0 p1) : CI l D (tY ai az al) yX9_topplesIfBySweeps wsX9_topplesIfBySweeps { frames := 4, cells := 0, slots := 0, locals := 90 } [.ref m, .int p0, .int p1, .int p2] [(m, .inr (9, [.ref mh, .ref mg, .ref mt, .ref mf, .ref ms, .ref msT, .ref msF, .ref mgv, .ref mP, .ref mW, .ref mV, .ref mco, .ref men, .ref mnt, .int tw, .int mse, .int mbr, .int mwk, .int mns, .int mtp, .int mss]))] (fun (r : Int32) (u : Unit) => r = nI 0) (fun (u : Unit) => [(m, .inr (9, [.ref mh, .ref mg, .ref mt, .ref mf, .ref ms, .ref msT, .ref msF, .ref mgv, .ref mP, .ref mW, .ref mV, .ref mco, .ref men, .ref mnt, .int (nI 1), .int mse, .int mbr, .int mwk, .int mns, .int mtp, .int mss]))]) := by
  refine ofG_I (cc := cX9_topplesIfBySweeps) (nL := 4) (lv0 := [(0, .ref m), (1, .int p0), (2, .int p1), (3, .int p2)]) (by decide) rfl (Nat.le_of_ble_eq_true rfl) rfl ?_
  intro Γ X E
  refine g_aload_n X dX9_topplesIfBySweeps_0 rfl 0 rfl ?_
  refine g_iload_n X dX9_topplesIfBySweeps_1 rfl 1 rfl ?_
  refine g_iload_n X dX9_topplesIfBySweeps_2 rfl 2 rfl ?_
  refine g_iload_n X dX9_topplesIfBySweeps_3 rfl 3 rfl ?_
  refine g_callVi (C := RX9) (As := [.int p0, .int p1, .int p2]) (rest := []) (wr := []) X dX9_topplesIfBySweeps_4 (c_X9_topplesIf1 l D ai az al m mh mg mt mf ms msT msF mgv mP mW mV mco men mnt tw mse mbr mwk mns mtp mss p0 p1 p2 (hq)) gX9_topplesIfBySweeps_X9_topplesIf rfl rfl ok_X9_topplesIf rfl rfl (by decide) ⟨by decide, by decide⟩ (Nat.le_of_ble_eq_true rfl) [0] [] ⟨rfl, by decide, rfl, by decide, by decide⟩ 0 rfl rfl rfl (fun r1 u hp => ?_)
  obtain rfl := hp
  refine g_sub (k := 0) (n := 0) (ws' := [(m, .inr (9, [.ref mh, .ref mg, .ref mt, .ref mf, .ref ms, .ref msT, .ref msF, .ref mgv, .ref mP, .ref mW, .ref mV, .ref mco, .ref men, .ref mnt, .int (nI 1), .int mse, .int mbr, .int mwk, .int mns, .int mtp, .int mss]))]) [0] (by decide) rfl ?_
  exact g_iret X E dX9_topplesIfBySweeps_7 () rfl (by decide) (by decide) (rfl)

set_option maxRecDepth 100000 in
set_option maxHeartbeats 4000000 in
theorem c_X9_topplesIfBySweeps2 (l : Launch) (D : va_G) (ai az al : ClassId) (m : Nat) (mh : Nat) (mg : Nat) (mt : Nat) (mf : Nat) (ms : Nat) (msT : Nat) (msF : Nat) (mgv : Nat) (mP : Nat) (mW : Nat) (mV : Nat) (mco : Nat) (men : Nat) (mnt : Nat) (tw : Int32) (mse : Int32) (mbr : Int32) (mwk : Int32) (mns : Int32) (mtp : Int32) (mss : Int32) (p0 : Int32) (p1 : Int32) (p2 : Int32) (hq : CP p0 p1) (hq2 : ¬ inN p2 1 60) : CI l D (tY ai az al) yX9_topplesIfBySweeps wsX9_topplesIfBySweeps { frames := 4, cells := 0, slots := 0, locals := 90 } [.ref m, .int p0, .int p1, .int p2] [(m, .inr (9, [.ref mh, .ref mg, .ref mt, .ref mf, .ref ms, .ref msT, .ref msF, .ref mgv, .ref mP, .ref mW, .ref mV, .ref mco, .ref men, .ref mnt, .int tw, .int mse, .int mbr, .int mwk, .int mns, .int mtp, .int mss]))] (fun (r : Int32) (u : Unit) => r = nI 0) (fun (u : Unit) => [(m, .inr (9, [.ref mh, .ref mg, .ref mt, .ref mf, .ref ms, .ref msT, .ref msF, .ref mgv, .ref mP, .ref mW, .ref mV, .ref mco, .ref men, .ref mnt, .int (nI 2), .int mse, .int mbr, .int mwk, .int mns, .int mtp, .int mss]))]) := by
  refine ofG_I (cc := cX9_topplesIfBySweeps) (nL := 4) (lv0 := [(0, .ref m), (1, .int p0), (2, .int p1), (3, .int p2)]) (by decide) rfl (Nat.le_of_ble_eq_true rfl) rfl ?_
  intro Γ X E
  refine g_aload_n X dX9_topplesIfBySweeps_0 rfl 0 rfl ?_
  refine g_iload_n X dX9_topplesIfBySweeps_1 rfl 1 rfl ?_
  refine g_iload_n X dX9_topplesIfBySweeps_2 rfl 2 rfl ?_
  refine g_iload_n X dX9_topplesIfBySweeps_3 rfl 3 rfl ?_
  refine g_callVi (C := RX9) (As := [.int p0, .int p1, .int p2]) (rest := []) (wr := []) X dX9_topplesIfBySweeps_4 (c_X9_topplesIf2 l D ai az al m mh mg mt mf ms msT msF mgv mP mW mV mco men mnt tw mse mbr mwk mns mtp mss p0 p1 p2 (hq) (hq2)) gX9_topplesIfBySweeps_X9_topplesIf rfl rfl ok_X9_topplesIf rfl rfl (by decide) ⟨by decide, by decide⟩ (Nat.le_of_ble_eq_true rfl) [0] [] ⟨rfl, by decide, rfl, by decide, by decide⟩ 0 rfl rfl rfl (fun r1 u hp => ?_)
  obtain rfl := hp
  refine g_sub (k := 0) (n := 0) (ws' := [(m, .inr (9, [.ref mh, .ref mg, .ref mt, .ref mf, .ref ms, .ref msT, .ref msF, .ref mgv, .ref mP, .ref mW, .ref mV, .ref mco, .ref men, .ref mnt, .int (nI 2), .int mse, .int mbr, .int mwk, .int mns, .int mtp, .int mss]))]) [0] (by decide) rfl ?_
  exact g_iret X E dX9_topplesIfBySweeps_7 () rfl (by decide) (by decide) (rfl)

set_option maxRecDepth 100000 in
set_option maxHeartbeats 4000000 in
theorem c_X9_topplesIfBySweeps0 (l : Launch) (D : va_G) (ai az al : ClassId) (m : Nat) (mh : Nat) (mg : Nat) (mt : Nat) (mf : Nat) (ms : Nat) (msT : Nat) (msF : Nat) (mgv : Nat) (mP : Nat) (mW : Nat) (mV : Nat) (mco : Nat) (men : Nat) (mnt : Nat) (tw : Int32) (mse : Int32) (mbr : Int32) (mwk : Int32) (mns : Int32) (mtp : Int32) (mss : Int32) (Hm : Nat → Int32) (Fm : Nat → Int32) (Tm : Nat → Int32) (Pm : Nat → Int32) (Wm : Nat → Int32) (Sm : Nat → Int32) (STm : Nat → Int32) (SFm : Nat → Int32) (nb : Nat → Nat → Nat) (pl : Nat → Bool) (h : Nat → Nat) (x : Nat) (y : Nat) (n : Nat) (hW : NW nb) (hWm : WOK Wm nb) (hC : Cn nb) (hP : POK Pm pl) (hH : HOK Hm h) (hx : x < 6) (hy : y < 7) (hn1 : 1 ≤ n) (hn2 : n ≤ 60) (hn : sN h 42 ≤ 440) : CI l D (tY ai az al) yX9_topplesIfBySweeps wsX9_topplesIfBySweeps { frames := 6, cells := 0, slots := 0, locals := 136 } [.ref m, .int (nI x), .int (nI y), .int (nI n)] [(m, .inr (9, [.ref mh, .ref mg, .ref mt, .ref mf, .ref ms, .ref msT, .ref msF, .ref mgv, .ref mP, .ref mW, .ref mV, .ref mco, .ref men, .ref mnt, .int tw, .int mse, .int mbr, .int mwk, .int mns, .int mtp, .int mss])), (mh, .inl (ai, 42, .inl Hm)), (mf, .inl (ai, 168, .inl Fm)), (mt, .inl (ai, 42, .inl Tm)), (mP, .inl (az, 42, .inl Pm)), (mW, .inl (az, 168, .inl Wm)), (ms, .inl (ai, 42, .inl Sm)), (msT, .inl (ai, 42, .inl STm)), (msF, .inl (ai, 168, .inl SFm))] (fun (r : Int32) (u : (Nat → Nat) × (Nat → Nat)) => r = nI (sN u.2 42) ∧ Stl nb pl (addN h (y * 6 + x) n) u.1 u.2) (fun (u : (Nat → Nat) × (Nat → Nat)) => [(m, .inr (9, [.ref mh, .ref mg, .ref mt, .ref mf, .ref ms, .ref msT, .ref msF, .ref mgv, .ref mP, .ref mW, .ref mV, .ref mco, .ref men, .ref mnt, .int (nI 0), .int mse, .int mbr, .int mwk, .int mns, .int (nI (sN u.2 42)), .int mse])), (mh, .inl (ai, 42, .inl Hm)), (mf, .inl (ai, 168, .inl Fm)), (mt, .inl (ai, 42, .inl Tm)), (mP, .inl (az, 42, .inl Pm)), (mW, .inl (az, 168, .inl Wm)), (ms, .inl (ai, 42, .inl Hm)), (msT, .inl (ai, 42, .inl Tm)), (msF, .inl (ai, 168, .inl Fm))]) := by
  refine ofG_I (cc := cX9_topplesIfBySweeps) (nL := 4) (lv0 := [(0, .ref m), (1, .int (nI x)), (2, .int (nI y)), (3, .int (nI n))]) (by decide) rfl (Nat.le_of_ble_eq_true rfl) rfl ?_
  intro Γ X E
  refine g_aload_n X dX9_topplesIfBySweeps_0 rfl 0 rfl ?_
  refine g_iload_n X dX9_topplesIfBySweeps_1 rfl 1 rfl ?_
  refine g_iload_n X dX9_topplesIfBySweeps_2 rfl 2 rfl ?_
  refine g_iload_n X dX9_topplesIfBySweeps_3 rfl 3 rfl ?_
  refine g_callVi (C := RX9) (As := [.int (nI x), .int (nI y), .int (nI n)]) (rest := []) (wr := []) X dX9_topplesIfBySweeps_4 (c_X9_topplesIf0 l D ai az al m mh mg mt mf ms msT msF mgv mP mW mV mco men mnt tw mse mbr mwk mns mtp mss Hm Fm Tm Pm Wm Sm STm SFm nb pl h x y n (hW) (hWm) (hC) (hP) (hH) (hx) (hy) (hn1) (hn2) (hn)) gX9_topplesIfBySweeps_X9_topplesIf rfl rfl ok_X9_topplesIf rfl rfl (by decide) ⟨by decide, by decide⟩ (Nat.le_of_ble_eq_true rfl) [0, 1, 2, 3, 4, 5, 6, 7, 8] [] ⟨rfl, by decide, rfl, by decide, by decide⟩ 0 rfl rfl rfl (fun r1 u hp => ?_)
  obtain ⟨h5, u5⟩ := u
  try dsimp only at hp
  obtain ⟨rfl, hS5⟩ := hp
  refine g_sub (k := 0) (n := 0) (ws' := [(m, .inr (9, [.ref mh, .ref mg, .ref mt, .ref mf, .ref ms, .ref msT, .ref msF, .ref mgv, .ref mP, .ref mW, .ref mV, .ref mco, .ref men, .ref mnt, .int (nI 0), .int mse, .int mbr, .int mwk, .int mns, .int (nI (sN u5 42)), .int mse])), (mh, .inl (ai, 42, .inl Hm)), (mf, .inl (ai, 168, .inl Fm)), (mt, .inl (ai, 42, .inl Tm)), (mP, .inl (az, 42, .inl Pm)), (mW, .inl (az, 168, .inl Wm)), (ms, .inl (ai, 42, .inl Hm)), (msT, .inl (ai, 42, .inl Tm)), (msF, .inl (ai, 168, .inl Fm))]) [0, 1, 2, 3, 4, 5, 6, 7, 8] (by decide) rfl ?_
  exact g_iret X E dX9_topplesIfBySweeps_7 (⟨h5, u5⟩) rfl (by decide) (by decide) (⟨rfl, hS5⟩)

theorem ok_X9_lostIf : okName yX9_lostIf 3 := by decide +kernel
set_option maxRecDepth 100000 in
set_option maxHeartbeats 4000000 in
theorem c_X9_lostIf1 (l : Launch) (D : va_G) (ai az al : ClassId) (m : Nat) (mh : Nat) (mg : Nat) (mt : Nat) (mf : Nat) (ms : Nat) (msT : Nat) (msF : Nat) (mgv : Nat) (mP : Nat) (mW : Nat) (mV : Nat) (mco : Nat) (men : Nat) (mnt : Nat) (tw : Int32) (mse : Int32) (mbr : Int32) (mwk : Int32) (mns : Int32) (mtp : Int32) (mss : Int32) (p0 : Int32) (p1 : Int32) (p2 : Int32) (hq : ¬ CP p0 p1) : CI l D (tY ai az al) yX9_lostIf wsX9_lostIf { frames := 3, cells := 0, slots := 0, locals := 66 } [.ref m, .int p0, .int p1, .int p2] [(m, .inr (9, [.ref mh, .ref mg, .ref mt, .ref mf, .ref ms, .ref msT, .ref msF, .ref mgv, .ref mP, .ref mW, .ref mV, .ref mco, .ref men, .ref mnt, .int tw, .int mse, .int mbr, .int mwk, .int mns, .int mtp, .int mss]))] (fun (r : Int32) (u : Unit) => r = nI 0) (fun (u : Unit) => [(m, .inr (9, [.ref mh, .ref mg, .ref mt, .ref mf, .ref ms, .ref msT, .ref msF, .ref mgv, .ref mP, .ref mW, .ref mV, .ref mco, .ref men, .ref mnt, .int (nI 1), .int mse, .int mbr, .int mwk, .int mns, .int mtp, .int mss]))]) := by
  refine ofG_I (cc := cX9_lostIf) (nL := 6) (lv0 := [(0, .ref m), (1, .int p0), (2, .int p1), (3, .int p2)]) (by decide) rfl (Nat.le_of_ble_eq_true rfl) rfl ?_
  intro Γ X E
  refine g_aload_n X dX9_lostIf_0 rfl 0 rfl ?_
  refine g_iload_n X dX9_lostIf_1 rfl 1 rfl ?_
  refine g_iload_n X dX9_lostIf_2 rfl 2 rfl ?_
  refine g_iload_n X dX9_lostIf_3 rfl 3 rfl ?_
  refine g_callVi (C := RX9) (As := [.int p0, .int p1, .int p2]) (rest := []) (wr := []) X dX9_lostIf_4 (c_X9_isBad1 l D ai az al m mh mg mt mf ms msT msF mgv mP mW mV mco men mnt tw mse mbr mwk mns mtp mss p0 p1 p2 (hq)) gX9_lostIf_X9_isBad rfl rfl ok_X9_isBad rfl rfl (by decide) ⟨by decide, by decide⟩ (Nat.le_of_ble_eq_true rfl) [0] [] ⟨rfl, by decide, rfl, by decide, by decide⟩ 0 rfl rfl rfl (fun r1 u hp => ?_)
  obtain rfl := hp
  refine g_sub (k := 0) (n := 0) (ws' := [(m, .inr (9, [.ref mh, .ref mg, .ref mt, .ref mf, .ref ms, .ref msT, .ref msF, .ref mgv, .ref mP, .ref mW, .ref mV, .ref mco, .ref men, .ref mnt, .int (nI 1), .int mse, .int mbr, .int mwk, .int mns, .int mtp, .int mss]))]) [0] (by decide) rfl ?_
  refine g_if_eqN (tgt := 12) X dX9_lostIf_7 (by decide) (by decide) (fun b7x => False.elim (by revert b7x; decide)) (fun b7x => ?_)
  refine g_iconst (v := nI 0) X dX9_lostIf_10 (by decide) ?_
  exact g_iret X E dX9_lostIf_11 () rfl (by decide) (by decide) (rfl)

set_option maxRecDepth 100000 in
set_option maxHeartbeats 4000000 in
theorem c_X9_lostIf2 (l : Launch) (D : va_G) (ai az al : ClassId) (m : Nat) (mh : Nat) (mg : Nat) (mt : Nat) (mf : Nat) (ms : Nat) (msT : Nat) (msF : Nat) (mgv : Nat) (mP : Nat) (mW : Nat) (mV : Nat) (mco : Nat) (men : Nat) (mnt : Nat) (tw : Int32) (mse : Int32) (mbr : Int32) (mwk : Int32) (mns : Int32) (mtp : Int32) (mss : Int32) (p0 : Int32) (p1 : Int32) (p2 : Int32) (hq : CP p0 p1) (hq2 : ¬ inN p2 1 60) : CI l D (tY ai az al) yX9_lostIf wsX9_lostIf { frames := 3, cells := 0, slots := 0, locals := 66 } [.ref m, .int p0, .int p1, .int p2] [(m, .inr (9, [.ref mh, .ref mg, .ref mt, .ref mf, .ref ms, .ref msT, .ref msF, .ref mgv, .ref mP, .ref mW, .ref mV, .ref mco, .ref men, .ref mnt, .int tw, .int mse, .int mbr, .int mwk, .int mns, .int mtp, .int mss]))] (fun (r : Int32) (u : Unit) => r = nI 0) (fun (u : Unit) => [(m, .inr (9, [.ref mh, .ref mg, .ref mt, .ref mf, .ref ms, .ref msT, .ref msF, .ref mgv, .ref mP, .ref mW, .ref mV, .ref mco, .ref men, .ref mnt, .int (nI 2), .int mse, .int mbr, .int mwk, .int mns, .int mtp, .int mss]))]) := by
  refine ofG_I (cc := cX9_lostIf) (nL := 6) (lv0 := [(0, .ref m), (1, .int p0), (2, .int p1), (3, .int p2)]) (by decide) rfl (Nat.le_of_ble_eq_true rfl) rfl ?_
  intro Γ X E
  refine g_aload_n X dX9_lostIf_0 rfl 0 rfl ?_
  refine g_iload_n X dX9_lostIf_1 rfl 1 rfl ?_
  refine g_iload_n X dX9_lostIf_2 rfl 2 rfl ?_
  refine g_iload_n X dX9_lostIf_3 rfl 3 rfl ?_
  refine g_callVi (C := RX9) (As := [.int p0, .int p1, .int p2]) (rest := []) (wr := []) X dX9_lostIf_4 (c_X9_isBad2 l D ai az al m mh mg mt mf ms msT msF mgv mP mW mV mco men mnt tw mse mbr mwk mns mtp mss p0 p1 p2 (hq) (hq2)) gX9_lostIf_X9_isBad rfl rfl ok_X9_isBad rfl rfl (by decide) ⟨by decide, by decide⟩ (Nat.le_of_ble_eq_true rfl) [0] [] ⟨rfl, by decide, rfl, by decide, by decide⟩ 0 rfl rfl rfl (fun r1 u hp => ?_)
  obtain rfl := hp
  refine g_sub (k := 0) (n := 0) (ws' := [(m, .inr (9, [.ref mh, .ref mg, .ref mt, .ref mf, .ref ms, .ref msT, .ref msF, .ref mgv, .ref mP, .ref mW, .ref mV, .ref mco, .ref men, .ref mnt, .int (nI 2), .int mse, .int mbr, .int mwk, .int mns, .int mtp, .int mss]))]) [0] (by decide) rfl ?_
  refine g_if_eqN (tgt := 12) X dX9_lostIf_7 (by decide) (by decide) (fun b7x => False.elim (by revert b7x; decide)) (fun b7x => ?_)
  refine g_iconst (v := nI 0) X dX9_lostIf_10 (by decide) ?_
  exact g_iret X E dX9_lostIf_11 () rfl (by decide) (by decide) (rfl)

theorem in_X9_lostIf_X9 : ∀ w ∈ u_ws RX9 TX9 21, w ∈ wsX9_lostIf := by decide +kernel
set_option maxRecDepth 100000 in
set_option maxHeartbeats 4000000 in
theorem c_X9_lostIf0 (l : Launch) (D : va_G) (ai az al : ClassId) (m : Nat) (mh : Nat) (mg : Nat) (mt : Nat) (mf : Nat) (ms : Nat) (msT : Nat) (msF : Nat) (mgv : Nat) (mP : Nat) (mW : Nat) (mV : Nat) (mco : Nat) (men : Nat) (mnt : Nat) (tw : Int32) (mse : Int32) (mbr : Int32) (mwk : Int32) (mns : Int32) (mtp : Int32) (mss : Int32) (Hm : Nat → Int32) (Fm : Nat → Int32) (Tm : Nat → Int32) (Pm : Nat → Int32) (Wm : Nat → Int32) (Sm : Nat → Int32) (STm : Nat → Int32) (SFm : Nat → Int32) (nb : Nat → Nat → Nat) (pl : Nat → Bool) (h : Nat → Nat) (x : Nat) (y : Nat) (n : Nat) (hW : NW nb) (hWm : WOK Wm nb) (hC : Cn nb) (hP : POK Pm pl) (hH : HOK Hm h) (hx : x < 6) (hy : y < 7) (hn1 : 1 ≤ n) (hn2 : n ≤ 60) (hn : sN h 42 ≤ 440) : CI l D (tY ai az al) yX9_lostIf wsX9_lostIf { frames := 5, cells := 0, slots := 0, locals := 112 } [.ref m, .int (nI x), .int (nI y), .int (nI n)] [(m, .inr (9, [.ref mh, .ref mg, .ref mt, .ref mf, .ref ms, .ref msT, .ref msF, .ref mgv, .ref mP, .ref mW, .ref mV, .ref mco, .ref men, .ref mnt, .int tw, .int mse, .int mbr, .int mwk, .int mns, .int mtp, .int mss])), (mh, .inl (ai, 42, .inl Hm)), (mf, .inl (ai, 168, .inl Fm)), (mt, .inl (ai, 42, .inl Tm)), (mP, .inl (az, 42, .inl Pm)), (mW, .inl (az, 168, .inl Wm)), (ms, .inl (ai, 42, .inl Sm)), (msT, .inl (ai, 42, .inl STm)), (msF, .inl (ai, 168, .inl SFm))] (fun (r : Int32) (u : (Nat → Nat) × (Nat → Nat)) => r = nI (lostN nb u.2 6) ∧ Stl nb pl (addN h (y * 6 + x) n) u.1 u.2) (fun (u : (Nat → Nat) × (Nat → Nat)) => [(m, .inr (9, [.ref mh, .ref mg, .ref mt, .ref mf, .ref ms, .ref msT, .ref msF, .ref mgv, .ref mP, .ref mW, .ref mV, .ref mco, .ref men, .ref mnt, .int (nI 0), .int mse, .int mbr, .int mwk, .int mns, .int (nI (sN u.2 42)), .int mse])), (mh, .inl (ai, 42, .inl Hm)), (mf, .inl (ai, 168, .inl Fm)), (mt, .inl (ai, 42, .inl Tm)), (mP, .inl (az, 42, .inl Pm)), (mW, .inl (az, 168, .inl Wm)), (ms, .inl (ai, 42, .inl Hm)), (msT, .inl (ai, 42, .inl Tm)), (msF, .inl (ai, 168, .inl Fm))]) := by
  refine ofG_I (cc := cX9_lostIf) (nL := 6) (lv0 := [(0, .ref m), (1, .int (nI x)), (2, .int (nI y)), (3, .int (nI n))]) (by decide) rfl (Nat.le_of_ble_eq_true rfl) rfl ?_
  intro Γ X E
  refine g_aload_n X dX9_lostIf_0 rfl 0 rfl ?_
  refine g_iload_n X dX9_lostIf_1 rfl 1 rfl ?_
  refine g_iload_n X dX9_lostIf_2 rfl 2 rfl ?_
  refine g_iload_n X dX9_lostIf_3 rfl 3 rfl ?_
  refine g_callVi (C := RX9) (As := [.int (nI x), .int (nI y), .int (nI n)]) (rest := []) (wr := [(mh, .inl (ai, 42, .inl Hm)), (mf, .inl (ai, 168, .inl Fm)), (mt, .inl (ai, 42, .inl Tm)), (mP, .inl (az, 42, .inl Pm)), (mW, .inl (az, 168, .inl Wm)), (ms, .inl (ai, 42, .inl Sm)), (msT, .inl (ai, 42, .inl STm)), (msF, .inl (ai, 168, .inl SFm))]) X dX9_lostIf_4 (c_X9_isBad0 l D ai az al m mh mg mt mf ms msT msF mgv mP mW mV mco men mnt tw mse mbr mwk mns mtp mss (nI x) (nI y) (nI n) (CP_of hx hy) (⟨n, hn1, hn2, rfl⟩)) gX9_lostIf_X9_isBad rfl rfl ok_X9_isBad rfl rfl (by decide) ⟨by decide, by decide⟩ (Nat.le_of_ble_eq_true rfl) [0] [1, 2, 3, 4, 5, 6, 7, 8] ⟨rfl, by decide, rfl, by decide, by decide⟩ 0 rfl rfl rfl (fun r1 u hp => ?_)
  obtain rfl := hp
  refine g_sub (k := 0) (n := 0) (ws' := [(m, .inr (9, [.ref mh, .ref mg, .ref mt, .ref mf, .ref ms, .ref msT, .ref msF, .ref mgv, .ref mP, .ref mW, .ref mV, .ref mco, .ref men, .ref mnt, .int (nI 0), .int mse, .int mbr, .int mwk, .int mns, .int mtp, .int mss])), (mh, .inl (ai, 42, .inl Hm)), (mf, .inl (ai, 168, .inl Fm)), (mt, .inl (ai, 42, .inl Tm)), (mP, .inl (az, 42, .inl Pm)), (mW, .inl (az, 168, .inl Wm)), (ms, .inl (ai, 42, .inl Sm)), (msT, .inl (ai, 42, .inl STm)), (msF, .inl (ai, 168, .inl SFm))]) [8, 0, 1, 2, 3, 4, 5, 6, 7] (by decide) rfl ?_
  refine g_if_eqN (tgt := 12) X dX9_lostIf_7 (by decide) (by decide) (fun b7x => ?_) (fun b7x => False.elim (by revert b7x; decide))
  refine g_aload_n X dX9_lostIf_12 rfl 0 rfl ?_
  refine g_callVv (C := RX9) (As := []) (rest := []) (wr := [(mP, .inl (az, 42, .inl Pm)), (mW, .inl (az, 168, .inl Wm))]) X dX9_lostIf_13 (c_X9_saves l D ai az al m mh mg mt mf ms msT msF mgv mP mW mV mco men mnt (nI 0) mse mbr mwk mns mtp mss Hm Tm Fm Sm STm SFm ) gX9_lostIf_X9_saves rfl rfl ok_X9_saves rfl rfl (by decide) ⟨by decide, by decide⟩ (Nat.le_of_ble_eq_true rfl) [0, 1, 3, 2, 6, 7, 8] [4, 5] ⟨rfl, by decide, rfl, by decide, by decide⟩ 0 rfl rfl rfl (fun u hp => ?_)
  refine g_sub (k := 0) (n := 0) (ws' := [(m, .inr (9, [.ref mh, .ref mg, .ref mt, .ref mf, .ref ms, .ref msT, .ref msF, .ref mgv, .ref mP, .ref mW, .ref mV, .ref mco, .ref men, .ref mnt, .int (nI 0), .int mse, .int mbr, .int mwk, .int mns, .int mtp, .int mse])), (mh, .inl (ai, 42, .inl Hm)), (mf, .inl (ai, 168, .inl Fm)), (mt, .inl (ai, 42, .inl Tm)), (mP, .inl (az, 42, .inl Pm)), (mW, .inl (az, 168, .inl Wm)), (ms, .inl (ai, 42, .inl Hm)), (msT, .inl (ai, 42, .inl Tm)), (msF, .inl (ai, 168, .inl Fm))]) [2, 3, 5, 4, 0, 1, 6, 7, 8] (by decide) rfl ?_
  refine g_aload_n X dX9_lostIf_16 rfl 0 rfl ?_
  refine g_iload_n X dX9_lostIf_17 rfl 1 rfl ?_
  refine g_iload_n X dX9_lostIf_18 rfl 2 rfl ?_
  refine g_callSi (As := [.int (nI x), .int (nI y)]) (rest := [.ref m]) (wr := [(m, .inr (9, [.ref mh, .ref mg, .ref mt, .ref mf, .ref ms, .ref msT, .ref msF, .ref mgv, .ref mP, .ref mW, .ref mV, .ref mco, .ref men, .ref mnt, .int (nI 0), .int mse, .int mbr, .int mwk, .int mns, .int mtp, .int mse])), (mh, .inl (ai, 42, .inl Hm)), (mf, .inl (ai, 168, .inl Fm)), (mt, .inl (ai, 42, .inl Tm)), (mP, .inl (az, 42, .inl Pm)), (mW, .inl (az, 168, .inl Wm)), (ms, .inl (ai, 42, .inl Hm)), (msT, .inl (ai, 42, .inl Tm)), (msF, .inl (ai, 168, .inl Fm))]) X dX9_lostIf_19 (c_X9_at l D ai az al x y ) gX9_lostIf_X9_at rfl rfl ok_X9_at rfl rfl (by decide) ⟨by decide, by decide⟩ (Nat.le_of_ble_eq_true rfl) [] [0, 1, 2, 3, 4, 5, 6, 7, 8] ⟨rfl, by decide, rfl, by decide, by decide⟩ (fun r2 u hp => ?_)
  obtain rfl := hp
  refine g_sub (k := 0) (n := 0) (ws' := [(m, .inr (9, [.ref mh, .ref mg, .ref mt, .ref mf, .ref ms, .ref msT, .ref msF, .ref mgv, .ref mP, .ref mW, .ref mV, .ref mco, .ref men, .ref mnt, .int (nI 0), .int mse, .int mbr, .int mwk, .int mns, .int mtp, .int mse])), (mh, .inl (ai, 42, .inl Hm)), (mf, .inl (ai, 168, .inl Fm)), (mt, .inl (ai, 42, .inl Tm)), (mP, .inl (az, 42, .inl Pm)), (mW, .inl (az, 168, .inl Wm)), (ms, .inl (ai, 42, .inl Hm)), (msT, .inl (ai, 42, .inl Tm)), (msF, .inl (ai, 168, .inl Fm))]) [0, 1, 2, 3, 4, 5, 6, 7, 8] (by decide) rfl ?_
  refine g_iload_n X dX9_lostIf_22 rfl 3 rfl ?_
  refine g_callVi (C := RX9) (As := [.int (nI (y * 6 + x)), .int (nI n)]) (rest := []) (wr := [(ms, .inl (ai, 42, .inl Hm)), (msT, .inl (ai, 42, .inl Tm)), (msF, .inl (ai, 168, .inl Fm))]) X dX9_lostIf_23 (c_X9_pours l D ai az al m mh mg mt mf ms msT msF mgv mP mW mV mco men mnt (nI 0) mse mbr mwk mns mtp mse Hm Fm Tm Pm Wm nb pl h (y * 6 + x) n (hW) (hWm) (hC) (hP) (hH) (by omega) (by omega)) gX9_lostIf_X9_pours rfl rfl ok_X9_pours rfl rfl (by decide) ⟨by decide, by decide⟩ (Nat.le_of_ble_eq_true rfl) [0, 1, 2, 3, 4, 5] [6, 7, 8] ⟨rfl, by decide, rfl, by decide, by decide⟩ 0 rfl rfl rfl (fun r3 u hp => ?_)
  obtain ⟨H5, F5, T5, h5, u5⟩ := u
  try dsimp only at hp
  obtain ⟨rfl, hS5, hH5, hF5, hT5⟩ := hp
  refine g_sub (k := 0) (n := 0) (ws' := [(m, .inr (9, [.ref mh, .ref mg, .ref mt, .ref mf, .ref ms, .ref msT, .ref msF, .ref mgv, .ref mP, .ref mW, .ref mV, .ref mco, .ref men, .ref mnt, .int (nI 0), .int (mse + nI (lostN nb u5 6)), .int mbr, .int mwk, .int mns, .int (nI (sN u5 42)), .int mse])), (mh, .inl (ai, 42, .inl H5)), (mf, .inl (ai, 168, .inl F5)), (mt, .inl (ai, 42, .inl T5)), (mP, .inl (az, 42, .inl Pm)), (mW, .inl (az, 168, .inl Wm)), (ms, .inl (ai, 42, .inl Hm)), (msT, .inl (ai, 42, .inl Tm)), (msF, .inl (ai, 168, .inl Fm))]) [3, 4, 5, 6, 7, 8, 0, 1, 2] (by decide) rfl ?_
  refine g_istore (lv' := [(4, .int (nI (sN u5 42))), (0, .ref m), (1, .int (nI x)), (2, .int (nI y)), (3, .int (nI n))]) X dX9_lostIf_26 (by decide) rfl ?_
  refine g_aload_n X dX9_lostIf_28 rfl 1 rfl ?_
  refine g_getf (T := TX9) (v := .int (mse + nI (lostN nb u5 6))) X dX9_lostIf_29 0 rfl rfl in_X9_lostIf_X9 15 (by decide) (by decide +kernel) rfl rfl ?_
  refine g_aload_n X dX9_lostIf_32 rfl 1 rfl ?_
  refine g_getf (T := TX9) (v := .int mse) X dX9_lostIf_33 0 rfl rfl in_X9_lostIf_X9 20 (by decide) (by decide +kernel) rfl rfl ?_
  refine g_isub (v := nI (lostN nb u5 6)) X dX9_lostIf_36 (add_sub_l _ _) ?_
  refine g_istore (lv' := [(5, .int (nI (lostN nb u5 6))), (4, .int (nI (sN u5 42))), (0, .ref m), (1, .int (nI x)), (2, .int (nI y)), (3, .int (nI n))]) X dX9_lostIf_37 (by decide) rfl ?_
  refine g_aload_n X dX9_lostIf_39 rfl 2 rfl ?_
  refine g_callVv (C := RX9) (As := []) (rest := []) (wr := [(mP, .inl (az, 42, .inl Pm)), (mW, .inl (az, 168, .inl Wm))]) X dX9_lostIf_40 (c_X9_restores l D ai az al m mh mg mt mf ms msT msF mgv mP mW mV mco men mnt (nI 0) (mse + nI (lostN nb u5 6)) mbr mwk mns (nI (sN u5 42)) mse H5 T5 F5 Hm Tm Fm ) gX9_lostIf_X9_restores rfl rfl ok_X9_restores rfl rfl (by decide) ⟨by decide, by decide⟩ (Nat.le_of_ble_eq_true rfl) [0, 1, 3, 2, 6, 7, 8] [4, 5] ⟨rfl, by decide, rfl, by decide, by decide⟩ 0 rfl rfl rfl (fun u hp => ?_)
  refine g_sub (k := 0) (n := 0) (ws' := [(m, .inr (9, [.ref mh, .ref mg, .ref mt, .ref mf, .ref ms, .ref msT, .ref msF, .ref mgv, .ref mP, .ref mW, .ref mV, .ref mco, .ref men, .ref mnt, .int (nI 0), .int mse, .int mbr, .int mwk, .int mns, .int (nI (sN u5 42)), .int mse])), (mh, .inl (ai, 42, .inl Hm)), (mf, .inl (ai, 168, .inl Fm)), (mt, .inl (ai, 42, .inl Tm)), (mP, .inl (az, 42, .inl Pm)), (mW, .inl (az, 168, .inl Wm)), (ms, .inl (ai, 42, .inl Hm)), (msT, .inl (ai, 42, .inl Tm)), (msF, .inl (ai, 168, .inl Fm))]) [2, 3, 5, 4, 0, 1, 6, 7, 8] (by decide) rfl ?_
  refine g_iload X dX9_lostIf_43 0 rfl ?_
  exact g_iret X E dX9_lostIf_45 (⟨h5, u5⟩) rfl (by decide) (by decide) (⟨rfl, hS5⟩)

theorem ok_X9_lostIfBySweeps : okName yX9_lostIfBySweeps 3 := by decide +kernel
set_option maxRecDepth 100000 in
set_option maxHeartbeats 4000000 in
theorem c_X9_lostIfBySweeps1 (l : Launch) (D : va_G) (ai az al : ClassId) (m : Nat) (mh : Nat) (mg : Nat) (mt : Nat) (mf : Nat) (ms : Nat) (msT : Nat) (msF : Nat) (mgv : Nat) (mP : Nat) (mW : Nat) (mV : Nat) (mco : Nat) (men : Nat) (mnt : Nat) (tw : Int32) (mse : Int32) (mbr : Int32) (mwk : Int32) (mns : Int32) (mtp : Int32) (mss : Int32) (p0 : Int32) (p1 : Int32) (p2 : Int32) (hq : ¬ CP p0 p1) : CI l D (tY ai az al) yX9_lostIfBySweeps wsX9_lostIfBySweeps { frames := 4, cells := 0, slots := 0, locals := 91 } [.ref m, .int p0, .int p1, .int p2] [(m, .inr (9, [.ref mh, .ref mg, .ref mt, .ref mf, .ref ms, .ref msT, .ref msF, .ref mgv, .ref mP, .ref mW, .ref mV, .ref mco, .ref men, .ref mnt, .int tw, .int mse, .int mbr, .int mwk, .int mns, .int mtp, .int mss]))] (fun (r : Int32) (u : Unit) => r = nI 0) (fun (u : Unit) => [(m, .inr (9, [.ref mh, .ref mg, .ref mt, .ref mf, .ref ms, .ref msT, .ref msF, .ref mgv, .ref mP, .ref mW, .ref mV, .ref mco, .ref men, .ref mnt, .int (nI 1), .int mse, .int mbr, .int mwk, .int mns, .int mtp, .int mss]))]) := by
  refine ofG_I (cc := cX9_lostIfBySweeps) (nL := 4) (lv0 := [(0, .ref m), (1, .int p0), (2, .int p1), (3, .int p2)]) (by decide) rfl (Nat.le_of_ble_eq_true rfl) rfl ?_
  intro Γ X E
  refine g_aload_n X dX9_lostIfBySweeps_0 rfl 0 rfl ?_
  refine g_iload_n X dX9_lostIfBySweeps_1 rfl 1 rfl ?_
  refine g_iload_n X dX9_lostIfBySweeps_2 rfl 2 rfl ?_
  refine g_iload_n X dX9_lostIfBySweeps_3 rfl 3 rfl ?_
  refine g_callVi (C := RX9) (As := [.int p0, .int p1, .int p2]) (rest := []) (wr := []) X dX9_lostIfBySweeps_4 (c_X9_lostIf1 l D ai az al m mh mg mt mf ms msT msF mgv mP mW mV mco men mnt tw mse mbr mwk mns mtp mss p0 p1 p2 (hq)) gX9_lostIfBySweeps_X9_lostIf rfl rfl ok_X9_lostIf rfl rfl (by decide) ⟨by decide, by decide⟩ (Nat.le_of_ble_eq_true rfl) [0] [] ⟨rfl, by decide, rfl, by decide, by decide⟩ 0 rfl rfl rfl (fun r1 u hp => ?_)
  obtain rfl := hp
  refine g_sub (k := 0) (n := 0) (ws' := [(m, .inr (9, [.ref mh, .ref mg, .ref mt, .ref mf, .ref ms, .ref msT, .ref msF, .ref mgv, .ref mP, .ref mW, .ref mV, .ref mco, .ref men, .ref mnt, .int (nI 1), .int mse, .int mbr, .int mwk, .int mns, .int mtp, .int mss]))]) [0] (by decide) rfl ?_
  exact g_iret X E dX9_lostIfBySweeps_7 () rfl (by decide) (by decide) (rfl)

set_option maxRecDepth 100000 in
set_option maxHeartbeats 4000000 in
theorem c_X9_lostIfBySweeps2 (l : Launch) (D : va_G) (ai az al : ClassId) (m : Nat) (mh : Nat) (mg : Nat) (mt : Nat) (mf : Nat) (ms : Nat) (msT : Nat) (msF : Nat) (mgv : Nat) (mP : Nat) (mW : Nat) (mV : Nat) (mco : Nat) (men : Nat) (mnt : Nat) (tw : Int32) (mse : Int32) (mbr : Int32) (mwk : Int32) (mns : Int32) (mtp : Int32) (mss : Int32) (p0 : Int32) (p1 : Int32) (p2 : Int32) (hq : CP p0 p1) (hq2 : ¬ inN p2 1 60) : CI l D (tY ai az al) yX9_lostIfBySweeps wsX9_lostIfBySweeps { frames := 4, cells := 0, slots := 0, locals := 91 } [.ref m, .int p0, .int p1, .int p2] [(m, .inr (9, [.ref mh, .ref mg, .ref mt, .ref mf, .ref ms, .ref msT, .ref msF, .ref mgv, .ref mP, .ref mW, .ref mV, .ref mco, .ref men, .ref mnt, .int tw, .int mse, .int mbr, .int mwk, .int mns, .int mtp, .int mss]))] (fun (r : Int32) (u : Unit) => r = nI 0) (fun (u : Unit) => [(m, .inr (9, [.ref mh, .ref mg, .ref mt, .ref mf, .ref ms, .ref msT, .ref msF, .ref mgv, .ref mP, .ref mW, .ref mV, .ref mco, .ref men, .ref mnt, .int (nI 2), .int mse, .int mbr, .int mwk, .int mns, .int mtp, .int mss]))]) := by
  refine ofG_I (cc := cX9_lostIfBySweeps) (nL := 4) (lv0 := [(0, .ref m), (1, .int p0), (2, .int p1), (3, .int p2)]) (by decide) rfl (Nat.le_of_ble_eq_true rfl) rfl ?_
  intro Γ X E
  refine g_aload_n X dX9_lostIfBySweeps_0 rfl 0 rfl ?_
  refine g_iload_n X dX9_lostIfBySweeps_1 rfl 1 rfl ?_
  refine g_iload_n X dX9_lostIfBySweeps_2 rfl 2 rfl ?_
  refine g_iload_n X dX9_lostIfBySweeps_3 rfl 3 rfl ?_
  refine g_callVi (C := RX9) (As := [.int p0, .int p1, .int p2]) (rest := []) (wr := []) X dX9_lostIfBySweeps_4 (c_X9_lostIf2 l D ai az al m mh mg mt mf ms msT msF mgv mP mW mV mco men mnt tw mse mbr mwk mns mtp mss p0 p1 p2 (hq) (hq2)) gX9_lostIfBySweeps_X9_lostIf rfl rfl ok_X9_lostIf rfl rfl (by decide) ⟨by decide, by decide⟩ (Nat.le_of_ble_eq_true rfl) [0] [] ⟨rfl, by decide, rfl, by decide, by decide⟩ 0 rfl rfl rfl (fun r1 u hp => ?_)
  obtain rfl := hp
  refine g_sub (k := 0) (n := 0) (ws' := [(m, .inr (9, [.ref mh, .ref mg, .ref mt, .ref mf, .ref ms, .ref msT, .ref msF, .ref mgv, .ref mP, .ref mW, .ref mV, .ref mco, .ref men, .ref mnt, .int (nI 2), .int mse, .int mbr, .int mwk, .int mns, .int mtp, .int mss]))]) [0] (by decide) rfl ?_
  exact g_iret X E dX9_lostIfBySweeps_7 () rfl (by decide) (by decide) (rfl)

set_option maxRecDepth 100000 in
set_option maxHeartbeats 4000000 in
theorem c_X9_lostIfBySweeps0 (l : Launch) (D : va_G) (ai az al : ClassId) (m : Nat) (mh : Nat) (mg : Nat) (mt : Nat) (mf : Nat) (ms : Nat) (msT : Nat) (msF : Nat) (mgv : Nat) (mP : Nat) (mW : Nat) (mV : Nat) (mco : Nat) (men : Nat) (mnt : Nat) (tw : Int32) (mse : Int32) (mbr : Int32) (mwk : Int32) (mns : Int32) (mtp : Int32) (mss : Int32) (Hm : Nat → Int32) (Fm : Nat → Int32) (Tm : Nat → Int32) (Pm : Nat → Int32) (Wm : Nat → Int32) (Sm : Nat → Int32) (STm : Nat → Int32) (SFm : Nat → Int32) (nb : Nat → Nat → Nat) (pl : Nat → Bool) (h : Nat → Nat) (x : Nat) (y : Nat) (n : Nat) (hW : NW nb) (hWm : WOK Wm nb) (hC : Cn nb) (hP : POK Pm pl) (hH : HOK Hm h) (hx : x < 6) (hy : y < 7) (hn1 : 1 ≤ n) (hn2 : n ≤ 60) (hn : sN h 42 ≤ 440) : CI l D (tY ai az al) yX9_lostIfBySweeps wsX9_lostIfBySweeps { frames := 6, cells := 0, slots := 0, locals := 137 } [.ref m, .int (nI x), .int (nI y), .int (nI n)] [(m, .inr (9, [.ref mh, .ref mg, .ref mt, .ref mf, .ref ms, .ref msT, .ref msF, .ref mgv, .ref mP, .ref mW, .ref mV, .ref mco, .ref men, .ref mnt, .int tw, .int mse, .int mbr, .int mwk, .int mns, .int mtp, .int mss])), (mh, .inl (ai, 42, .inl Hm)), (mf, .inl (ai, 168, .inl Fm)), (mt, .inl (ai, 42, .inl Tm)), (mP, .inl (az, 42, .inl Pm)), (mW, .inl (az, 168, .inl Wm)), (ms, .inl (ai, 42, .inl Sm)), (msT, .inl (ai, 42, .inl STm)), (msF, .inl (ai, 168, .inl SFm))] (fun (r : Int32) (u : (Nat → Nat) × (Nat → Nat)) => r = nI (lostN nb u.2 6) ∧ Stl nb pl (addN h (y * 6 + x) n) u.1 u.2) (fun (u : (Nat → Nat) × (Nat → Nat)) => [(m, .inr (9, [.ref mh, .ref mg, .ref mt, .ref mf, .ref ms, .ref msT, .ref msF, .ref mgv, .ref mP, .ref mW, .ref mV, .ref mco, .ref men, .ref mnt, .int (nI 0), .int mse, .int mbr, .int mwk, .int mns, .int (nI (sN u.2 42)), .int mse])), (mh, .inl (ai, 42, .inl Hm)), (mf, .inl (ai, 168, .inl Fm)), (mt, .inl (ai, 42, .inl Tm)), (mP, .inl (az, 42, .inl Pm)), (mW, .inl (az, 168, .inl Wm)), (ms, .inl (ai, 42, .inl Hm)), (msT, .inl (ai, 42, .inl Tm)), (msF, .inl (ai, 168, .inl Fm))]) := by
  refine ofG_I (cc := cX9_lostIfBySweeps) (nL := 4) (lv0 := [(0, .ref m), (1, .int (nI x)), (2, .int (nI y)), (3, .int (nI n))]) (by decide) rfl (Nat.le_of_ble_eq_true rfl) rfl ?_
  intro Γ X E
  refine g_aload_n X dX9_lostIfBySweeps_0 rfl 0 rfl ?_
  refine g_iload_n X dX9_lostIfBySweeps_1 rfl 1 rfl ?_
  refine g_iload_n X dX9_lostIfBySweeps_2 rfl 2 rfl ?_
  refine g_iload_n X dX9_lostIfBySweeps_3 rfl 3 rfl ?_
  refine g_callVi (C := RX9) (As := [.int (nI x), .int (nI y), .int (nI n)]) (rest := []) (wr := []) X dX9_lostIfBySweeps_4 (c_X9_lostIf0 l D ai az al m mh mg mt mf ms msT msF mgv mP mW mV mco men mnt tw mse mbr mwk mns mtp mss Hm Fm Tm Pm Wm Sm STm SFm nb pl h x y n (hW) (hWm) (hC) (hP) (hH) (hx) (hy) (hn1) (hn2) (hn)) gX9_lostIfBySweeps_X9_lostIf rfl rfl ok_X9_lostIf rfl rfl (by decide) ⟨by decide, by decide⟩ (Nat.le_of_ble_eq_true rfl) [0, 1, 2, 3, 4, 5, 6, 7, 8] [] ⟨rfl, by decide, rfl, by decide, by decide⟩ 0 rfl rfl rfl (fun r1 u hp => ?_)
  obtain ⟨h5, u5⟩ := u
  try dsimp only at hp
  obtain ⟨rfl, hS5⟩ := hp
  refine g_sub (k := 0) (n := 0) (ws' := [(m, .inr (9, [.ref mh, .ref mg, .ref mt, .ref mf, .ref ms, .ref msT, .ref msF, .ref mgv, .ref mP, .ref mW, .ref mV, .ref mco, .ref men, .ref mnt, .int (nI 0), .int mse, .int mbr, .int mwk, .int mns, .int (nI (sN u5 42)), .int mse])), (mh, .inl (ai, 42, .inl Hm)), (mf, .inl (ai, 168, .inl Fm)), (mt, .inl (ai, 42, .inl Tm)), (mP, .inl (az, 42, .inl Pm)), (mW, .inl (az, 168, .inl Wm)), (ms, .inl (ai, 42, .inl Hm)), (msT, .inl (ai, 42, .inl Tm)), (msF, .inl (ai, 168, .inl Fm))]) [0, 1, 2, 3, 4, 5, 6, 7, 8] (by decide) rfl ?_
  exact g_iret X E dX9_lostIfBySweeps_7 (⟨h5, u5⟩) rfl (by decide) (by decide) (⟨rfl, hS5⟩)

theorem ok_X9_plant : okName yX9_plant 2 := by decide +kernel
theorem in_X9_plant_X9 : ∀ w ∈ u_ws RX9 TX9 21, w ∈ wsX9_plant := by decide +kernel
set_option maxRecDepth 100000 in
set_option maxHeartbeats 4000000 in
theorem c_X9_plant1 (l : Launch) (D : va_G) (ai az al : ClassId) (m : Nat) (mh : Nat) (mg : Nat) (mt : Nat) (mf : Nat) (ms : Nat) (msT : Nat) (msF : Nat) (mgv : Nat) (mP : Nat) (mW : Nat) (mV : Nat) (mco : Nat) (men : Nat) (mnt : Nat) (tw : Int32) (mse : Int32) (mbr : Int32) (mwk : Int32) (mns : Int32) (mtp : Int32) (mss : Int32) (p0 : Int32) (p1 : Int32) (hq : ¬ CP p0 p1) : CI l D (tY ai az al) yX9_plant wsX9_plant { frames := 2, cells := 0, slots := 0, locals := 43 } [.ref m, .int p0, .int p1] [(m, .inr (9, [.ref mh, .ref mg, .ref mt, .ref mf, .ref ms, .ref msT, .ref msF, .ref mgv, .ref mP, .ref mW, .ref mV, .ref mco, .ref men, .ref mnt, .int tw, .int mse, .int mbr, .int mwk, .int mns, .int mtp, .int mss]))] (fun (r : Int32) (u : Unit) => r = nI 0) (fun (u : Unit) => [(m, .inr (9, [.ref mh, .ref mg, .ref mt, .ref mf, .ref ms, .ref msT, .ref msF, .ref mgv, .ref mP, .ref mW, .ref mV, .ref mco, .ref men, .ref mnt, .int (nI 1), .int mse, .int mbr, .int mwk, .int mns, .int mtp, .int mss]))]) := by
  refine ofG_I (cc := cX9_plant) (nL := 5) (lv0 := [(0, .ref m), (1, .int p0), (2, .int p1)]) (by decide) rfl (Nat.le_of_ble_eq_true rfl) rfl ?_
  intro Γ X E
  refine g_aload_n X dX9_plant_0 rfl 0 rfl ?_
  refine g_iload_n X dX9_plant_1 rfl 1 rfl ?_
  refine g_iload_n X dX9_plant_2 rfl 2 rfl ?_
  refine g_callSi (As := [.int p0, .int p1]) (rest := [.ref m]) (wr := [(m, .inr (9, [.ref mh, .ref mg, .ref mt, .ref mf, .ref ms, .ref msT, .ref msF, .ref mgv, .ref mP, .ref mW, .ref mV, .ref mco, .ref men, .ref mnt, .int tw, .int mse, .int mbr, .int mwk, .int mns, .int mtp, .int mss]))]) X dX9_plant_3 (c_X9_isCellF l D ai az al p0 p1 (hq)) gX9_plant_X9_isCell rfl rfl ok_X9_isCell rfl rfl (by decide) ⟨by decide, by decide⟩ (Nat.le_of_ble_eq_true rfl) [] [0] ⟨rfl, by decide, rfl, by decide, by decide⟩ (fun r1 u hp => ?_)
  obtain rfl := hp
  refine g_sub (k := 0) (n := 0) (ws' := [(m, .inr (9, [.ref mh, .ref mg, .ref mt, .ref mf, .ref ms, .ref msT, .ref msF, .ref mgv, .ref mP, .ref mW, .ref mV, .ref mco, .ref men, .ref mnt, .int tw, .int mse, .int mbr, .int mwk, .int mns, .int mtp, .int mss]))]) [0] (by decide) rfl ?_
  refine g_if_neN (tgt := 13) X dX9_plant_6 (by decide) (by decide) (fun b6x => False.elim (by revert b6x; decide)) (fun b6x => ?_)
  refine g_iconst (v := nI 1) X dX9_plant_9 (by decide) ?_
  refine g_goto (tgt := 31) X dX9_plant_10 (by decide) ?_
  refine g_putf (T := TX9) (v := .int (nI 1)) (ty := tyX9 14) (ws' := [(m, .inr (9, [.ref mh, .ref mg, .ref mt, .ref mf, .ref ms, .ref msT, .ref msF, .ref mgv, .ref mP, .ref mW, .ref mV, .ref mco, .ref men, .ref mnt, .int (nI 1), .int mse, .int mbr, .int mwk, .int mns, .int mtp, .int mss]))]) X dX9_plant_31 0 rfl rfl in_X9_plant_X9 tyX9 tyX9_ok nmX9 14 (by decide) (by decide +kernel) rfl rfl (by decide +kernel) rfl rfl (Nat.le_of_ble_eq_true rfl) rfl ?_
  refine g_aload_n X dX9_plant_34 rfl 0 rfl ?_
  refine g_getf (T := TX9) (v := .int (nI 1)) X dX9_plant_35 0 rfl rfl in_X9_plant_X9 14 (by decide) (by decide +kernel) rfl rfl ?_
  refine g_if_leN (tgt := 43) X dX9_plant_38 (by decide) (by decide) (fun b38x => False.elim (by revert b38x; decide)) (fun b38x => ?_)
  refine g_iconst (v := nI 0) X dX9_plant_41 (by decide) ?_
  exact g_iret X E dX9_plant_42 () rfl (by decide) (by decide) (rfl)

set_option maxRecDepth 100000 in
set_option maxHeartbeats 4000000 in
theorem c_X9_plant2 (l : Launch) (D : va_G) (ai az al : ClassId) (m : Nat) (mh : Nat) (mg : Nat) (mt : Nat) (mf : Nat) (ms : Nat) (msT : Nat) (msF : Nat) (mgv : Nat) (mP : Nat) (mW : Nat) (mV : Nat) (mco : Nat) (men : Nat) (mnt : Nat) (tw : Int32) (mse : Int32) (mbr : Int32) (mwk : Int32) (mns : Int32) (mtp : Int32) (mss : Int32) (Pm : Nat → Int32) (pl : Nat → Bool) (x : Nat) (y : Nat) (hx : x < 6) (hy : y < 7) (hP : POK Pm pl) (hpl : pl (y * 6 + x) = true) : CI l D (tY ai az al) yX9_plant wsX9_plant { frames := 2, cells := 0, slots := 0, locals := 43 } [.ref m, .int (nI x), .int (nI y)] [(m, .inr (9, [.ref mh, .ref mg, .ref mt, .ref mf, .ref ms, .ref msT, .ref msF, .ref mgv, .ref mP, .ref mW, .ref mV, .ref mco, .ref men, .ref mnt, .int tw, .int mse, .int mbr, .int mwk, .int mns, .int mtp, .int mss])), (mP, .inl (az, 42, .inl Pm))] (fun (r : Int32) (u : Unit) => r = nI 0) (fun (u : Unit) => [(m, .inr (9, [.ref mh, .ref mg, .ref mt, .ref mf, .ref ms, .ref msT, .ref msF, .ref mgv, .ref mP, .ref mW, .ref mV, .ref mco, .ref men, .ref mnt, .int (nI 2), .int mse, .int mbr, .int mwk, .int mns, .int mtp, .int mss])), (mP, .inl (az, 42, .inl Pm))]) := by
  refine ofG_I (cc := cX9_plant) (nL := 5) (lv0 := [(0, .ref m), (1, .int (nI x)), (2, .int (nI y))]) (by decide) rfl (Nat.le_of_ble_eq_true rfl) rfl ?_
  intro Γ X E
  refine g_aload_n X dX9_plant_0 rfl 0 rfl ?_
  refine g_iload_n X dX9_plant_1 rfl 1 rfl ?_
  refine g_iload_n X dX9_plant_2 rfl 2 rfl ?_
  refine g_callSi (As := [.int (nI x), .int (nI y)]) (rest := [.ref m]) (wr := [(m, .inr (9, [.ref mh, .ref mg, .ref mt, .ref mf, .ref ms, .ref msT, .ref msF, .ref mgv, .ref mP, .ref mW, .ref mV, .ref mco, .ref men, .ref mnt, .int tw, .int mse, .int mbr, .int mwk, .int mns, .int mtp, .int mss])), (mP, .inl (az, 42, .inl Pm))]) X dX9_plant_3 (c_X9_isCellT l D ai az al (nI x) (nI y) (CP_of hx hy)) gX9_plant_X9_isCell rfl rfl ok_X9_isCell rfl rfl (by decide) ⟨by decide, by decide⟩ (Nat.le_of_ble_eq_true rfl) [] [0, 1] ⟨rfl, by decide, rfl, by decide, by decide⟩ (fun r1 u hp => ?_)
  obtain rfl := hp
  refine g_sub (k := 0) (n := 0) (ws' := [(m, .inr (9, [.ref mh, .ref mg, .ref mt, .ref mf, .ref ms, .ref msT, .ref msF, .ref mgv, .ref mP, .ref mW, .ref mV, .ref mco, .ref men, .ref mnt, .int tw, .int mse, .int mbr, .int mwk, .int mns, .int mtp, .int mss])), (mP, .inl (az, 42, .inl Pm))]) [0, 1] (by decide) rfl ?_
  refine g_if_neN (tgt := 13) X dX9_plant_6 (by decide) (by decide) (fun b6x => ?_) (fun b6x => False.elim (by revert b6x; decide))
  refine g_aload_n X dX9_plant_13 rfl 0 rfl ?_
  refine g_getf (T := TX9) (v := .ref mP) X dX9_plant_14 0 rfl rfl in_X9_plant_X9 8 (by decide) (by decide +kernel) rfl rfl ?_
  refine g_iload_n X dX9_plant_17 rfl 1 rfl ?_
  refine g_iload_n X dX9_plant_18 rfl 2 rfl ?_
  refine g_callSi (As := [.int (nI x), .int (nI y)]) (rest := [.ref mP, .ref m]) (wr := [(m, .inr (9, [.ref mh, .ref mg, .ref mt, .ref mf, .ref ms, .ref msT, .ref msF, .ref mgv, .ref mP, .ref mW, .ref mV, .ref mco, .ref men, .ref mnt, .int tw, .int mse, .int mbr, .int mwk, .int mns, .int mtp, .int mss])), (mP, .inl (az, 42, .inl Pm))]) X dX9_plant_19 (c_X9_at l D ai az al x y ) gX9_plant_X9_at rfl rfl ok_X9_at rfl rfl (by decide) ⟨by decide, by decide⟩ (Nat.le_of_ble_eq_true rfl) [] [0, 1] ⟨rfl, by decide, rfl, by decide, by decide⟩ (fun r2 u hp => ?_)
  obtain rfl := hp
  refine g_sub (k := 0) (n := 0) (ws' := [(m, .inr (9, [.ref mh, .ref mg, .ref mt, .ref mf, .ref ms, .ref msT, .ref msF, .ref mgv, .ref mP, .ref mW, .ref mV, .ref mco, .ref men, .ref mnt, .int tw, .int mse, .int mbr, .int mwk, .int mns, .int mtp, .int mss])), (mP, .inl (az, 42, .inl Pm))]) [0, 1] (by decide) rfl ?_
  refine g_zaldN (v := nI 1) X dX9_plant_22 1 1 rfl rfl (by omega) (by omega) (by rw [hP (y * 6 + x) (by omega), hpl]; rfl) ?_
  refine g_if_eqN (tgt := 30) X dX9_plant_23 (by decide) (by decide) (fun b23x => False.elim (by revert b23x; decide)) (fun b23x => ?_)
  refine g_iconst (v := nI 2) X dX9_plant_26 (by decide) ?_
  refine g_goto (tgt := 31) X dX9_plant_27 (by decide) ?_
  refine g_putf (T := TX9) (v := .int (nI 2)) (ty := tyX9 14) (ws' := [(m, .inr (9, [.ref mh, .ref mg, .ref mt, .ref mf, .ref ms, .ref msT, .ref msF, .ref mgv, .ref mP, .ref mW, .ref mV, .ref mco, .ref men, .ref mnt, .int (nI 2), .int mse, .int mbr, .int mwk, .int mns, .int mtp, .int mss])), (mP, .inl (az, 42, .inl Pm))]) X dX9_plant_31 0 rfl rfl in_X9_plant_X9 tyX9 tyX9_ok nmX9 14 (by decide) (by decide +kernel) rfl rfl (by decide +kernel) rfl rfl (Nat.le_of_ble_eq_true rfl) rfl ?_
  refine g_aload_n X dX9_plant_34 rfl 0 rfl ?_
  refine g_getf (T := TX9) (v := .int (nI 2)) X dX9_plant_35 0 rfl rfl in_X9_plant_X9 14 (by decide) (by decide +kernel) rfl rfl ?_
  refine g_if_leN (tgt := 43) X dX9_plant_38 (by decide) (by decide) (fun b38x => False.elim (by revert b38x; decide)) (fun b38x => ?_)
  refine g_iconst (v := nI 0) X dX9_plant_41 (by decide) ?_
  exact g_iret X E dX9_plant_42 () rfl (by decide) (by decide) (rfl)

set_option maxRecDepth 100000 in
set_option maxHeartbeats 4000000 in
theorem c_X9_plant0 (l : Launch) (D : va_G) (ai az al : ClassId) (m : Nat) (mh : Nat) (mg : Nat) (mt : Nat) (mf : Nat) (ms : Nat) (msT : Nat) (msF : Nat) (mgv : Nat) (mP : Nat) (mW : Nat) (mV : Nat) (mco : Nat) (men : Nat) (mnt : Nat) (tw : Int32) (mse : Int32) (mbr : Int32) (mwk : Int32) (mns : Int32) (mtp : Int32) (mss : Int32) (Pm : Nat → Int32) (pl : Nat → Bool) (x : Nat) (y : Nat) (hx : x < 6) (hy : y < 7) (hP : POK Pm pl) (hpl : pl (y * 6 + x) = false) : CI l D (tY ai az al) yX9_plant wsX9_plant { frames := 2, cells := 0, slots := 0, locals := 43 } [.ref m, .int (nI x), .int (nI y)] [(m, .inr (9, [.ref mh, .ref mg, .ref mt, .ref mf, .ref ms, .ref msT, .ref msF, .ref mgv, .ref mP, .ref mW, .ref mV, .ref mco, .ref men, .ref mnt, .int tw, .int mse, .int mbr, .int mwk, .int mns, .int mtp, .int mss])), (mP, .inl (az, 42, .inl Pm))] (fun (r : Int32) (u : Unit) => r = nI (cB (adB pl (y * 6 + x)) 42)) (fun (u : Unit) => [(m, .inr (9, [.ref mh, .ref mg, .ref mt, .ref mf, .ref ms, .ref msT, .ref msF, .ref mgv, .ref mP, .ref mW, .ref mV, .ref mco, .ref men, .ref mnt, .int (nI 0), .int mse, .int mbr, .int mwk, .int mns, .int mtp, .int mss])), (mP, .inl (az, 42, .inl (upd Pm (y * 6 + x) (nI 1))))]) := by
  refine ofG_I (cc := cX9_plant) (nL := 5) (lv0 := [(0, .ref m), (1, .int (nI x)), (2, .int (nI y))]) (by decide) rfl (Nat.le_of_ble_eq_true rfl) rfl ?_
  intro Γ X E
  refine g_aload_n X dX9_plant_0 rfl 0 rfl ?_
  refine g_iload_n X dX9_plant_1 rfl 1 rfl ?_
  refine g_iload_n X dX9_plant_2 rfl 2 rfl ?_
  refine g_callSi (As := [.int (nI x), .int (nI y)]) (rest := [.ref m]) (wr := [(m, .inr (9, [.ref mh, .ref mg, .ref mt, .ref mf, .ref ms, .ref msT, .ref msF, .ref mgv, .ref mP, .ref mW, .ref mV, .ref mco, .ref men, .ref mnt, .int tw, .int mse, .int mbr, .int mwk, .int mns, .int mtp, .int mss])), (mP, .inl (az, 42, .inl Pm))]) X dX9_plant_3 (c_X9_isCellT l D ai az al (nI x) (nI y) (CP_of hx hy)) gX9_plant_X9_isCell rfl rfl ok_X9_isCell rfl rfl (by decide) ⟨by decide, by decide⟩ (Nat.le_of_ble_eq_true rfl) [] [0, 1] ⟨rfl, by decide, rfl, by decide, by decide⟩ (fun r1 u hp => ?_)
  obtain rfl := hp
  refine g_sub (k := 0) (n := 0) (ws' := [(m, .inr (9, [.ref mh, .ref mg, .ref mt, .ref mf, .ref ms, .ref msT, .ref msF, .ref mgv, .ref mP, .ref mW, .ref mV, .ref mco, .ref men, .ref mnt, .int tw, .int mse, .int mbr, .int mwk, .int mns, .int mtp, .int mss])), (mP, .inl (az, 42, .inl Pm))]) [0, 1] (by decide) rfl ?_
  refine g_if_neN (tgt := 13) X dX9_plant_6 (by decide) (by decide) (fun b6x => ?_) (fun b6x => False.elim (by revert b6x; decide))
  refine g_aload_n X dX9_plant_13 rfl 0 rfl ?_
  refine g_getf (T := TX9) (v := .ref mP) X dX9_plant_14 0 rfl rfl in_X9_plant_X9 8 (by decide) (by decide +kernel) rfl rfl ?_
  refine g_iload_n X dX9_plant_17 rfl 1 rfl ?_
  refine g_iload_n X dX9_plant_18 rfl 2 rfl ?_
  refine g_callSi (As := [.int (nI x), .int (nI y)]) (rest := [.ref mP, .ref m]) (wr := [(m, .inr (9, [.ref mh, .ref mg, .ref mt, .ref mf, .ref ms, .ref msT, .ref msF, .ref mgv, .ref mP, .ref mW, .ref mV, .ref mco, .ref men, .ref mnt, .int tw, .int mse, .int mbr, .int mwk, .int mns, .int mtp, .int mss])), (mP, .inl (az, 42, .inl Pm))]) X dX9_plant_19 (c_X9_at l D ai az al x y ) gX9_plant_X9_at rfl rfl ok_X9_at rfl rfl (by decide) ⟨by decide, by decide⟩ (Nat.le_of_ble_eq_true rfl) [] [0, 1] ⟨rfl, by decide, rfl, by decide, by decide⟩ (fun r2 u hp => ?_)
  obtain rfl := hp
  refine g_sub (k := 0) (n := 0) (ws' := [(m, .inr (9, [.ref mh, .ref mg, .ref mt, .ref mf, .ref ms, .ref msT, .ref msF, .ref mgv, .ref mP, .ref mW, .ref mV, .ref mco, .ref men, .ref mnt, .int tw, .int mse, .int mbr, .int mwk, .int mns, .int mtp, .int mss])), (mP, .inl (az, 42, .inl Pm))]) [0, 1] (by decide) rfl ?_
  refine g_zaldN (v := nI 0) X dX9_plant_22 1 1 rfl rfl (by omega) (by omega) (by rw [hP (y * 6 + x) (by omega), hpl]; rfl) ?_
  refine g_if_eqN (tgt := 30) X dX9_plant_23 (by decide) (by decide) (fun b23x => ?_) (fun b23x => False.elim (by revert b23x; decide))
  refine g_iconst (v := nI 0) X dX9_plant_30 (by decide) ?_
  refine g_putf (T := TX9) (v := .int (nI 0)) (ty := tyX9 14) (ws' := [(m, .inr (9, [.ref mh, .ref mg, .ref mt, .ref mf, .ref ms, .ref msT, .ref msF, .ref mgv, .ref mP, .ref mW, .ref mV, .ref mco, .ref men, .ref mnt, .int (nI 0), .int mse, .int mbr, .int mwk, .int mns, .int mtp, .int mss])), (mP, .inl (az, 42, .inl Pm))]) X dX9_plant_31 0 rfl rfl in_X9_plant_X9 tyX9 tyX9_ok nmX9 14 (by decide) (by decide +kernel) rfl rfl (by decide +kernel) rfl rfl (Nat.le_of_ble_eq_true rfl) rfl ?_
  refine g_aload_n X dX9_plant_34 rfl 0 rfl ?_
  refine g_getf (T := TX9) (v := .int (nI 0)) X dX9_plant_35 0 rfl rfl in_X9_plant_X9 14 (by decide) (by decide +kernel) rfl rfl ?_
  refine g_if_leN (tgt := 43) X dX9_plant_38 (by decide) (by decide) (fun b38x => ?_) (fun b38x => False.elim (by revert b38x; decide))
  refine g_aload_n X dX9_plant_43 rfl 0 rfl ?_
  refine g_getf (T := TX9) (v := .ref mP) X dX9_plant_44 0 rfl rfl in_X9_plant_X9 8 (by decide) (by decide +kernel) rfl rfl ?_
  refine g_iload_n X dX9_plant_47 rfl 1 rfl ?_
  refine g_iload_n X dX9_plant_48 rfl 2 rfl ?_
  refine g_callSi (As := [.int (nI x), .int (nI y)]) (rest := [.ref mP]) (wr := [(m, .inr (9, [.ref mh, .ref mg, .ref mt, .ref mf, .ref ms, .ref msT, .ref msF, .ref mgv, .ref mP, .ref mW, .ref mV, .ref mco, .ref men, .ref mnt, .int (nI 0), .int mse, .int mbr, .int mwk, .int mns, .int mtp, .int mss])), (mP, .inl (az, 42, .inl Pm))]) X dX9_plant_49 (c_X9_at l D ai az al x y ) gX9_plant_X9_at rfl rfl ok_X9_at rfl rfl (by decide) ⟨by decide, by decide⟩ (Nat.le_of_ble_eq_true rfl) [] [0, 1] ⟨rfl, by decide, rfl, by decide, by decide⟩ (fun r3 u hp => ?_)
  obtain rfl := hp
  refine g_sub (k := 0) (n := 0) (ws' := [(m, .inr (9, [.ref mh, .ref mg, .ref mt, .ref mf, .ref ms, .ref msT, .ref msF, .ref mgv, .ref mP, .ref mW, .ref mV, .ref mco, .ref men, .ref mnt, .int (nI 0), .int mse, .int mbr, .int mwk, .int mns, .int mtp, .int mss])), (mP, .inl (az, 42, .inl Pm))]) [0, 1] (by decide) rfl ?_
  refine g_iconst (v := nI 1) X dX9_plant_52 (by decide) ?_
  refine g_zastN (g' := upd Pm (y * 6 + x) (nI 1)) (ws' := [(m, .inr (9, [.ref mh, .ref mg, .ref mt, .ref mf, .ref ms, .ref msT, .ref msF, .ref mgv, .ref mP, .ref mW, .ref mV, .ref mco, .ref men, .ref mnt, .int (nI 0), .int mse, .int mbr, .int mwk, .int mns, .int mtp, .int mss])), (mP, .inl (az, 42, .inl (upd Pm (y * 6 + x) (nI 1))))]) X dX9_plant_53 1 1 rfl rfl (by omega) (by omega) (rfl) (rfl) rfl ?_
  have hPa := hP.ad (d := (y * 6 + x))
  refine g_iconst (v := nI 0) X dX9_plant_54 (by decide) ?_
  refine g_istore_n (lv' := [(3, .int (nI 0)), (0, .ref m), (1, .int (nI x)), (2, .int (nI y))]) X dX9_plant_55 rfl (by decide) rfl ?_
  refine g_iconst (v := nI 0) X dX9_plant_56 (by decide) ?_
  refine g_istore (lv' := [(4, .int (nI 0)), (3, .int (nI 0)), (0, .ref m), (1, .int (nI x)), (2, .int (nI y))]) X dX9_plant_57 (by decide) rfl ?_
  have L59 : ∀ (fl : Nat) (i : Nat) (o : Nat), (i ≤ 42) → (o = cB (adB pl (y * 6 + x)) i) → (43 ≤ i + fl) → G Γ 5 0 0 [(m, .inr (9, [.ref mh, .ref mg, .ref mt, .ref mf, .ref ms, .ref msT, .ref msF, .ref mgv, .ref mP, .ref mW, .ref mV, .ref mco, .ref men, .ref mnt, .int (nI 0), .int mse, .int mbr, .int mwk, .int mns, .int mtp, .int mss])), (mP, .inl (az, 42, .inl (upd Pm (y * 6 + x) (nI 1))))] [(0, .ref m), (1, .int (nI x)), (2, .int (nI y)), (3, .int (nI o)), (4, .int (nI i))] 59 [] := by
    intro fl
    induction fl with
    | zero => intro i o hi ho hm; exact absurd hm (by omega)
    | succ fl ih59 =>
      intro i o hi ho hm
      refine g_iload X dX9_plant_59 4 rfl ?_
      refine g_bipush (v := nI 42) X dX9_plant_61 (by decide) ?_
      refine g_icmp_geN (tgt := 90) X dX9_plant_63 (by decide) (by omega) (by omega) (fun b63 => ?_) (fun b63 => ?_)
      · refine g_iload_n X dX9_plant_90 rfl 3 rfl ?_
        exact g_iret X E dX9_plant_91 () rfl (by decide) (by decide) (by rw [ho, show i = 42 by omega])
      · refine g_iload_n X dX9_plant_66 rfl 3 rfl ?_
        refine g_aload_n X dX9_plant_67 rfl 0 rfl ?_
        refine g_getf (T := TX9) (v := .ref mP) X dX9_plant_68 0 rfl rfl in_X9_plant_X9 8 (by decide) (by decide +kernel) rfl rfl ?_
        refine g_iload X dX9_plant_71 4 rfl ?_
        refine g_zaldN (v := ((upd Pm (y * 6 + x) (nI 1)) i)) X dX9_plant_73 1 1 rfl rfl (by omega) (by omega) (rfl) ?_
        refine g_if_eq (tgt := 81) X dX9_plant_74 (by decide) (fun b74 => ?_) (fun b74 => ?_)
        · refine g_iconst (v := nI 0) X dX9_plant_81 (by decide) ?_
          refine g_iadd (v := nI (o + 0)) X dX9_plant_82 (nI_add _ _) ?_
          refine g_istore_n (lv' := [(3, .int (nI (o + 0))), (0, .ref m), (1, .int (nI x)), (2, .int (nI y)), (4, .int (nI i))]) X dX9_plant_83 rfl (by decide) rfl ?_
          refine g_iinc (v := nI (i + 1)) (lv' := [(4, .int (nI (i + 1))), (3, .int (nI (o + 0))), (0, .ref m), (1, .int (nI x)), (2, .int (nI y))]) X dX9_plant_84 4 rfl (nI_inc _) (by decide) rfl ?_
          refine g_goto (tgt := 59) X dX9_plant_87 (by decide) ?_
          refine g_lv (lv' := [(0, .ref m), (1, .int (nI x)), (2, .int (nI y)), (3, .int (nI (o + 0))), (4, .int (nI (i + 1)))]) [2, 3, 4, 1, 0] rfl ?_
          exact ih59 (i + 1) (o + 0) (by omega) (by rw [cB_s, ho]; first | (rw [(hPa.z (c := i) (by omega)).mp b74]; rfl) | (rw [hPa.n (c := i) (by omega) b74]; rfl)) (by omega)
        · refine g_iconst (v := nI 1) X dX9_plant_77 (by decide) ?_
          refine g_goto (tgt := 82) X dX9_plant_78 (by decide) ?_
          refine g_iadd (v := nI (o + 1)) X dX9_plant_82 (nI_add _ _) ?_
          refine g_istore_n (lv' := [(3, .int (nI (o + 1))), (0, .ref m), (1, .int (nI x)), (2, .int (nI y)), (4, .int (nI i))]) X dX9_plant_83 rfl (by decide) rfl ?_
          refine g_iinc (v := nI (i + 1)) (lv' := [(4, .int (nI (i + 1))), (3, .int (nI (o + 1))), (0, .ref m), (1, .int (nI x)), (2, .int (nI y))]) X dX9_plant_84 4 rfl (nI_inc _) (by decide) rfl ?_
          refine g_goto (tgt := 59) X dX9_plant_87 (by decide) ?_
          refine g_lv (lv' := [(0, .ref m), (1, .int (nI x)), (2, .int (nI y)), (3, .int (nI (o + 1))), (4, .int (nI (i + 1)))]) [2, 3, 4, 1, 0] rfl ?_
          exact ih59 (i + 1) (o + 1) (by omega) (by rw [cB_s, ho]; first | (rw [(hPa.z (c := i) (by omega)).mp b74]; rfl) | (rw [hPa.n (c := i) (by omega) b74]; rfl)) (by omega)
  refine g_lv (lv' := [(0, .ref m), (1, .int (nI x)), (2, .int (nI y)), (3, .int (nI 0)), (4, .int (nI 0))]) [2, 3, 4, 1, 0] rfl ?_
  exact L59 43 0 0 (by decide) (rfl) (by decide)

theorem ok_X9_uproot : okName yX9_uproot 2 := by decide +kernel
theorem in_X9_uproot_X9 : ∀ w ∈ u_ws RX9 TX9 21, w ∈ wsX9_uproot := by decide +kernel
set_option maxRecDepth 100000 in
set_option maxHeartbeats 4000000 in
theorem c_X9_uproot1 (l : Launch) (D : va_G) (ai az al : ClassId) (m : Nat) (mh : Nat) (mg : Nat) (mt : Nat) (mf : Nat) (ms : Nat) (msT : Nat) (msF : Nat) (mgv : Nat) (mP : Nat) (mW : Nat) (mV : Nat) (mco : Nat) (men : Nat) (mnt : Nat) (tw : Int32) (mse : Int32) (mbr : Int32) (mwk : Int32) (mns : Int32) (mtp : Int32) (mss : Int32) (p0 : Int32) (p1 : Int32) (hq : ¬ CP p0 p1) : CI l D (tY ai az al) yX9_uproot wsX9_uproot { frames := 2, cells := 0, slots := 0, locals := 43 } [.ref m, .int p0, .int p1] [(m, .inr (9, [.ref mh, .ref mg, .ref mt, .ref mf, .ref ms, .ref msT, .ref msF, .ref mgv, .ref mP, .ref mW, .ref mV, .ref mco, .ref men, .ref mnt, .int tw, .int mse, .int mbr, .int mwk, .int mns, .int mtp, .int mss]))] (fun (r : Int32) (u : Unit) => r = nI 0) (fun (u : Unit) => [(m, .inr (9, [.ref mh, .ref mg, .ref mt, .ref mf, .ref ms, .ref msT, .ref msF, .ref mgv, .ref mP, .ref mW, .ref mV, .ref mco, .ref men, .ref mnt, .int (nI 1), .int mse, .int mbr, .int mwk, .int mns, .int mtp, .int mss]))]) := by
  refine ofG_I (cc := cX9_uproot) (nL := 3) (lv0 := [(0, .ref m), (1, .int p0), (2, .int p1)]) (by decide) rfl (Nat.le_of_ble_eq_true rfl) rfl ?_
  intro Γ X E
  refine g_aload_n X dX9_uproot_0 rfl 0 rfl ?_
  refine g_iload_n X dX9_uproot_1 rfl 1 rfl ?_
  refine g_iload_n X dX9_uproot_2 rfl 2 rfl ?_
  refine g_callSi (As := [.int p0, .int p1]) (rest := [.ref m]) (wr := [(m, .inr (9, [.ref mh, .ref mg, .ref mt, .ref mf, .ref ms, .ref msT, .ref msF, .ref mgv, .ref mP, .ref mW, .ref mV, .ref mco, .ref men, .ref mnt, .int tw, .int mse, .int mbr, .int mwk, .int mns, .int mtp, .int mss]))]) X dX9_uproot_3 (c_X9_isCellF l D ai az al p0 p1 (hq)) gX9_uproot_X9_isCell rfl rfl ok_X9_isCell rfl rfl (by decide) ⟨by decide, by decide⟩ (Nat.le_of_ble_eq_true rfl) [] [0] ⟨rfl, by decide, rfl, by decide, by decide⟩ (fun r1 u hp => ?_)
  obtain rfl := hp
  refine g_sub (k := 0) (n := 0) (ws' := [(m, .inr (9, [.ref mh, .ref mg, .ref mt, .ref mf, .ref ms, .ref msT, .ref msF, .ref mgv, .ref mP, .ref mW, .ref mV, .ref mco, .ref men, .ref mnt, .int tw, .int mse, .int mbr, .int mwk, .int mns, .int mtp, .int mss]))]) [0] (by decide) rfl ?_
  refine g_if_neN (tgt := 13) X dX9_uproot_6 (by decide) (by decide) (fun b6x => False.elim (by revert b6x; decide)) (fun b6x => ?_)
  refine g_iconst (v := nI 1) X dX9_uproot_9 (by decide) ?_
  refine g_goto (tgt := 31) X dX9_uproot_10 (by decide) ?_
  refine g_putf (T := TX9) (v := .int (nI 1)) (ty := tyX9 14) (ws' := [(m, .inr (9, [.ref mh, .ref mg, .ref mt, .ref mf, .ref ms, .ref msT, .ref msF, .ref mgv, .ref mP, .ref mW, .ref mV, .ref mco, .ref men, .ref mnt, .int (nI 1), .int mse, .int mbr, .int mwk, .int mns, .int mtp, .int mss]))]) X dX9_uproot_31 0 rfl rfl in_X9_uproot_X9 tyX9 tyX9_ok nmX9 14 (by decide) (by decide +kernel) rfl rfl (by decide +kernel) rfl rfl (Nat.le_of_ble_eq_true rfl) rfl ?_
  refine g_aload_n X dX9_uproot_34 rfl 0 rfl ?_
  refine g_getf (T := TX9) (v := .int (nI 1)) X dX9_uproot_35 0 rfl rfl in_X9_uproot_X9 14 (by decide) (by decide +kernel) rfl rfl ?_
  refine g_if_leN (tgt := 43) X dX9_uproot_38 (by decide) (by decide) (fun b38x => False.elim (by revert b38x; decide)) (fun b38x => ?_)
  refine g_iconst (v := nI 0) X dX9_uproot_41 (by decide) ?_
  exact g_iret X E dX9_uproot_42 () rfl (by decide) (by decide) (rfl)

set_option maxRecDepth 100000 in
set_option maxHeartbeats 4000000 in
theorem c_X9_uproot2 (l : Launch) (D : va_G) (ai az al : ClassId) (m : Nat) (mh : Nat) (mg : Nat) (mt : Nat) (mf : Nat) (ms : Nat) (msT : Nat) (msF : Nat) (mgv : Nat) (mP : Nat) (mW : Nat) (mV : Nat) (mco : Nat) (men : Nat) (mnt : Nat) (tw : Int32) (mse : Int32) (mbr : Int32) (mwk : Int32) (mns : Int32) (mtp : Int32) (mss : Int32) (Pm : Nat → Int32) (pl : Nat → Bool) (x : Nat) (y : Nat) (hx : x < 6) (hy : y < 7) (hP : POK Pm pl) (hpl : pl (y * 6 + x) = false) : CI l D (tY ai az al) yX9_uproot wsX9_uproot { frames := 2, cells := 0, slots := 0, locals := 43 } [.ref m, .int (nI x), .int (nI y)] [(m, .inr (9, [.ref mh, .ref mg, .ref mt, .ref mf, .ref ms, .ref msT, .ref msF, .ref mgv, .ref mP, .ref mW, .ref mV, .ref mco, .ref men, .ref mnt, .int tw, .int mse, .int mbr, .int mwk, .int mns, .int mtp, .int mss])), (mP, .inl (az, 42, .inl Pm))] (fun (r : Int32) (u : Unit) => r = nI 0) (fun (u : Unit) => [(m, .inr (9, [.ref mh, .ref mg, .ref mt, .ref mf, .ref ms, .ref msT, .ref msF, .ref mgv, .ref mP, .ref mW, .ref mV, .ref mco, .ref men, .ref mnt, .int (nI 2), .int mse, .int mbr, .int mwk, .int mns, .int mtp, .int mss])), (mP, .inl (az, 42, .inl Pm))]) := by
  refine ofG_I (cc := cX9_uproot) (nL := 3) (lv0 := [(0, .ref m), (1, .int (nI x)), (2, .int (nI y))]) (by decide) rfl (Nat.le_of_ble_eq_true rfl) rfl ?_
  intro Γ X E
  refine g_aload_n X dX9_uproot_0 rfl 0 rfl ?_
  refine g_iload_n X dX9_uproot_1 rfl 1 rfl ?_
  refine g_iload_n X dX9_uproot_2 rfl 2 rfl ?_
  refine g_callSi (As := [.int (nI x), .int (nI y)]) (rest := [.ref m]) (wr := [(m, .inr (9, [.ref mh, .ref mg, .ref mt, .ref mf, .ref ms, .ref msT, .ref msF, .ref mgv, .ref mP, .ref mW, .ref mV, .ref mco, .ref men, .ref mnt, .int tw, .int mse, .int mbr, .int mwk, .int mns, .int mtp, .int mss])), (mP, .inl (az, 42, .inl Pm))]) X dX9_uproot_3 (c_X9_isCellT l D ai az al (nI x) (nI y) (CP_of hx hy)) gX9_uproot_X9_isCell rfl rfl ok_X9_isCell rfl rfl (by decide) ⟨by decide, by decide⟩ (Nat.le_of_ble_eq_true rfl) [] [0, 1] ⟨rfl, by decide, rfl, by decide, by decide⟩ (fun r1 u hp => ?_)
  obtain rfl := hp
  refine g_sub (k := 0) (n := 0) (ws' := [(m, .inr (9, [.ref mh, .ref mg, .ref mt, .ref mf, .ref ms, .ref msT, .ref msF, .ref mgv, .ref mP, .ref mW, .ref mV, .ref mco, .ref men, .ref mnt, .int tw, .int mse, .int mbr, .int mwk, .int mns, .int mtp, .int mss])), (mP, .inl (az, 42, .inl Pm))]) [0, 1] (by decide) rfl ?_
  refine g_if_neN (tgt := 13) X dX9_uproot_6 (by decide) (by decide) (fun b6x => ?_) (fun b6x => False.elim (by revert b6x; decide))
  refine g_aload_n X dX9_uproot_13 rfl 0 rfl ?_
  refine g_getf (T := TX9) (v := .ref mP) X dX9_uproot_14 0 rfl rfl in_X9_uproot_X9 8 (by decide) (by decide +kernel) rfl rfl ?_
  refine g_iload_n X dX9_uproot_17 rfl 1 rfl ?_
  refine g_iload_n X dX9_uproot_18 rfl 2 rfl ?_
  refine g_callSi (As := [.int (nI x), .int (nI y)]) (rest := [.ref mP, .ref m]) (wr := [(m, .inr (9, [.ref mh, .ref mg, .ref mt, .ref mf, .ref ms, .ref msT, .ref msF, .ref mgv, .ref mP, .ref mW, .ref mV, .ref mco, .ref men, .ref mnt, .int tw, .int mse, .int mbr, .int mwk, .int mns, .int mtp, .int mss])), (mP, .inl (az, 42, .inl Pm))]) X dX9_uproot_19 (c_X9_at l D ai az al x y ) gX9_uproot_X9_at rfl rfl ok_X9_at rfl rfl (by decide) ⟨by decide, by decide⟩ (Nat.le_of_ble_eq_true rfl) [] [0, 1] ⟨rfl, by decide, rfl, by decide, by decide⟩ (fun r2 u hp => ?_)
  obtain rfl := hp
  refine g_sub (k := 0) (n := 0) (ws' := [(m, .inr (9, [.ref mh, .ref mg, .ref mt, .ref mf, .ref ms, .ref msT, .ref msF, .ref mgv, .ref mP, .ref mW, .ref mV, .ref mco, .ref men, .ref mnt, .int tw, .int mse, .int mbr, .int mwk, .int mns, .int mtp, .int mss])), (mP, .inl (az, 42, .inl Pm))]) [0, 1] (by decide) rfl ?_
  refine g_zaldN (v := nI 0) X dX9_uproot_22 1 1 rfl rfl (by omega) (by omega) (by rw [hP (y * 6 + x) (by omega), hpl]; rfl) ?_
  refine g_if_neN (tgt := 30) X dX9_uproot_23 (by decide) (by decide) (fun b23x => False.elim (by revert b23x; decide)) (fun b23x => ?_)
  refine g_iconst (v := nI 2) X dX9_uproot_26 (by decide) ?_
  refine g_goto (tgt := 31) X dX9_uproot_27 (by decide) ?_
  refine g_putf (T := TX9) (v := .int (nI 2)) (ty := tyX9 14) (ws' := [(m, .inr (9, [.ref mh, .ref mg, .ref mt, .ref mf, .ref ms, .ref msT, .ref msF, .ref mgv, .ref mP, .ref mW, .ref mV, .ref mco, .ref men, .ref mnt, .int (nI 2), .int mse, .int mbr, .int mwk, .int mns, .int mtp, .int mss])), (mP, .inl (az, 42, .inl Pm))]) X dX9_uproot_31 0 rfl rfl in_X9_uproot_X9 tyX9 tyX9_ok nmX9 14 (by decide) (by decide +kernel) rfl rfl (by decide +kernel) rfl rfl (Nat.le_of_ble_eq_true rfl) rfl ?_
  refine g_aload_n X dX9_uproot_34 rfl 0 rfl ?_
  refine g_getf (T := TX9) (v := .int (nI 2)) X dX9_uproot_35 0 rfl rfl in_X9_uproot_X9 14 (by decide) (by decide +kernel) rfl rfl ?_
  refine g_if_leN (tgt := 43) X dX9_uproot_38 (by decide) (by decide) (fun b38x => False.elim (by revert b38x; decide)) (fun b38x => ?_)
  refine g_iconst (v := nI 0) X dX9_uproot_41 (by decide) ?_
  exact g_iret X E dX9_uproot_42 () rfl (by decide) (by decide) (rfl)

set_option maxRecDepth 100000 in
set_option maxHeartbeats 4000000 in
theorem c_X9_uproot0 (l : Launch) (D : va_G) (ai az al : ClassId) (m : Nat) (mh : Nat) (mg : Nat) (mt : Nat) (mf : Nat) (ms : Nat) (msT : Nat) (msF : Nat) (mgv : Nat) (mP : Nat) (mW : Nat) (mV : Nat) (mco : Nat) (men : Nat) (mnt : Nat) (tw : Int32) (mse : Int32) (mbr : Int32) (mwk : Int32) (mns : Int32) (mtp : Int32) (mss : Int32) (Hm : Nat → Int32) (Fm : Nat → Int32) (Tm : Nat → Int32) (Pm : Nat → Int32) (Wm : Nat → Int32) (nb : Nat → Nat → Nat) (pl : Nat → Bool) (h : Nat → Nat) (x : Nat) (y : Nat) (hW : NW nb) (hWm : WOK Wm nb) (hC : Cn nb) (hP : POK Pm pl) (hH : HOK Hm h) (hx : x < 6) (hy : y < 7) (hpl : pl (y * 6 + x) = true) (hn : sN h 42 ≤ 440) : CI l D (tY ai az al) yX9_uproot wsX9_uproot { frames := 4, cells := 0, slots := 0, locals := 90 } [.ref m, .int (nI x), .int (nI y)] [(m, .inr (9, [.ref mh, .ref mg, .ref mt, .ref mf, .ref ms, .ref msT, .ref msF, .ref mgv, .ref mP, .ref mW, .ref mV, .ref mco, .ref men, .ref mnt, .int tw, .int mse, .int mbr, .int mwk, .int mns, .int mtp, .int mss])), (mh, .inl (ai, 42, .inl Hm)), (mf, .inl (ai, 168, .inl Fm)), (mt, .inl (ai, 42, .inl Tm)), (mP, .inl (az, 42, .inl Pm)), (mW, .inl (az, 168, .inl Wm))] (fun (r : Int32) (u : (Nat → Int32) × (Nat → Int32) × (Nat → Int32) × (Nat → Nat) × (Nat → Nat)) => r = nI (sN u.2.2.2.2 42) ∧ Stl nb (clB pl (y * 6 + x)) (h) u.2.2.2.1 u.2.2.2.2 ∧ HOK u.1 u.2.2.2.1 ∧ FlowTo nb u.2.2.2.2 Fm u.2.1 ∧ (∀ c, c < 42 → u.2.2.1 c = Tm c + nI (u.2.2.2.2 c))) (fun (u : (Nat → Int32) × (Nat → Int32) × (Nat → Int32) × (Nat → Nat) × (Nat → Nat)) => [(m, .inr (9, [.ref mh, .ref mg, .ref mt, .ref mf, .ref ms, .ref msT, .ref msF, .ref mgv, .ref mP, .ref mW, .ref mV, .ref mco, .ref men, .ref mnt, .int (nI 0), .int (mse + nI (lostN nb u.2.2.2.2 6)), .int mbr, .int mwk, .int mns, .int (nI (sN u.2.2.2.2 42)), .int mss])), (mh, .inl (ai, 42, .inl u.1)), (mf, .inl (ai, 168, .inl u.2.1)), (mt, .inl (ai, 42, .inl u.2.2.1)), (mP, .inl (az, 42, .inl (upd Pm (y * 6 + x) (nI 0)))), (mW, .inl (az, 168, .inl Wm))]) := by
  refine ofG_I (cc := cX9_uproot) (nL := 3) (lv0 := [(0, .ref m), (1, .int (nI x)), (2, .int (nI y))]) (by decide) rfl (Nat.le_of_ble_eq_true rfl) rfl ?_
  intro Γ X E
  refine g_aload_n X dX9_uproot_0 rfl 0 rfl ?_
  refine g_iload_n X dX9_uproot_1 rfl 1 rfl ?_
  refine g_iload_n X dX9_uproot_2 rfl 2 rfl ?_
  refine g_callSi (As := [.int (nI x), .int (nI y)]) (rest := [.ref m]) (wr := [(m, .inr (9, [.ref mh, .ref mg, .ref mt, .ref mf, .ref ms, .ref msT, .ref msF, .ref mgv, .ref mP, .ref mW, .ref mV, .ref mco, .ref men, .ref mnt, .int tw, .int mse, .int mbr, .int mwk, .int mns, .int mtp, .int mss])), (mh, .inl (ai, 42, .inl Hm)), (mf, .inl (ai, 168, .inl Fm)), (mt, .inl (ai, 42, .inl Tm)), (mP, .inl (az, 42, .inl Pm)), (mW, .inl (az, 168, .inl Wm))]) X dX9_uproot_3 (c_X9_isCellT l D ai az al (nI x) (nI y) (CP_of hx hy)) gX9_uproot_X9_isCell rfl rfl ok_X9_isCell rfl rfl (by decide) ⟨by decide, by decide⟩ (Nat.le_of_ble_eq_true rfl) [] [0, 1, 2, 3, 4, 5] ⟨rfl, by decide, rfl, by decide, by decide⟩ (fun r1 u hp => ?_)
  obtain rfl := hp
  refine g_sub (k := 0) (n := 0) (ws' := [(m, .inr (9, [.ref mh, .ref mg, .ref mt, .ref mf, .ref ms, .ref msT, .ref msF, .ref mgv, .ref mP, .ref mW, .ref mV, .ref mco, .ref men, .ref mnt, .int tw, .int mse, .int mbr, .int mwk, .int mns, .int mtp, .int mss])), (mh, .inl (ai, 42, .inl Hm)), (mf, .inl (ai, 168, .inl Fm)), (mt, .inl (ai, 42, .inl Tm)), (mP, .inl (az, 42, .inl Pm)), (mW, .inl (az, 168, .inl Wm))]) [0, 1, 2, 3, 4, 5] (by decide) rfl ?_
  refine g_if_neN (tgt := 13) X dX9_uproot_6 (by decide) (by decide) (fun b6x => ?_) (fun b6x => False.elim (by revert b6x; decide))
  refine g_aload_n X dX9_uproot_13 rfl 0 rfl ?_
  refine g_getf (T := TX9) (v := .ref mP) X dX9_uproot_14 0 rfl rfl in_X9_uproot_X9 8 (by decide) (by decide +kernel) rfl rfl ?_
  refine g_iload_n X dX9_uproot_17 rfl 1 rfl ?_
  refine g_iload_n X dX9_uproot_18 rfl 2 rfl ?_
  refine g_callSi (As := [.int (nI x), .int (nI y)]) (rest := [.ref mP, .ref m]) (wr := [(m, .inr (9, [.ref mh, .ref mg, .ref mt, .ref mf, .ref ms, .ref msT, .ref msF, .ref mgv, .ref mP, .ref mW, .ref mV, .ref mco, .ref men, .ref mnt, .int tw, .int mse, .int mbr, .int mwk, .int mns, .int mtp, .int mss])), (mh, .inl (ai, 42, .inl Hm)), (mf, .inl (ai, 168, .inl Fm)), (mt, .inl (ai, 42, .inl Tm)), (mP, .inl (az, 42, .inl Pm)), (mW, .inl (az, 168, .inl Wm))]) X dX9_uproot_19 (c_X9_at l D ai az al x y ) gX9_uproot_X9_at rfl rfl ok_X9_at rfl rfl (by decide) ⟨by decide, by decide⟩ (Nat.le_of_ble_eq_true rfl) [] [0, 1, 2, 3, 4, 5] ⟨rfl, by decide, rfl, by decide, by decide⟩ (fun r2 u hp => ?_)
  obtain rfl := hp
  refine g_sub (k := 0) (n := 0) (ws' := [(m, .inr (9, [.ref mh, .ref mg, .ref mt, .ref mf, .ref ms, .ref msT, .ref msF, .ref mgv, .ref mP, .ref mW, .ref mV, .ref mco, .ref men, .ref mnt, .int tw, .int mse, .int mbr, .int mwk, .int mns, .int mtp, .int mss])), (mh, .inl (ai, 42, .inl Hm)), (mf, .inl (ai, 168, .inl Fm)), (mt, .inl (ai, 42, .inl Tm)), (mP, .inl (az, 42, .inl Pm)), (mW, .inl (az, 168, .inl Wm))]) [0, 1, 2, 3, 4, 5] (by decide) rfl ?_
  refine g_zaldN (v := nI 1) X dX9_uproot_22 4 1 rfl rfl (by omega) (by omega) (by rw [hP (y * 6 + x) (by omega), hpl]; rfl) ?_
  refine g_if_neN (tgt := 30) X dX9_uproot_23 (by decide) (by decide) (fun b23x => ?_) (fun b23x => False.elim (by revert b23x; decide))
  refine g_iconst (v := nI 0) X dX9_uproot_30 (by decide) ?_
  refine g_putf (T := TX9) (v := .int (nI 0)) (ty := tyX9 14) (ws' := [(m, .inr (9, [.ref mh, .ref mg, .ref mt, .ref mf, .ref ms, .ref msT, .ref msF, .ref mgv, .ref mP, .ref mW, .ref mV, .ref mco, .ref men, .ref mnt, .int (nI 0), .int mse, .int mbr, .int mwk, .int mns, .int mtp, .int mss])), (mh, .inl (ai, 42, .inl Hm)), (mf, .inl (ai, 168, .inl Fm)), (mt, .inl (ai, 42, .inl Tm)), (mP, .inl (az, 42, .inl Pm)), (mW, .inl (az, 168, .inl Wm))]) X dX9_uproot_31 0 rfl rfl in_X9_uproot_X9 tyX9 tyX9_ok nmX9 14 (by decide) (by decide +kernel) rfl rfl (by decide +kernel) rfl rfl (Nat.le_of_ble_eq_true rfl) rfl ?_
  refine g_aload_n X dX9_uproot_34 rfl 0 rfl ?_
  refine g_getf (T := TX9) (v := .int (nI 0)) X dX9_uproot_35 0 rfl rfl in_X9_uproot_X9 14 (by decide) (by decide +kernel) rfl rfl ?_
  refine g_if_leN (tgt := 43) X dX9_uproot_38 (by decide) (by decide) (fun b38x => ?_) (fun b38x => False.elim (by revert b38x; decide))
  refine g_aload_n X dX9_uproot_43 rfl 0 rfl ?_
  refine g_getf (T := TX9) (v := .ref mP) X dX9_uproot_44 0 rfl rfl in_X9_uproot_X9 8 (by decide) (by decide +kernel) rfl rfl ?_
  refine g_iload_n X dX9_uproot_47 rfl 1 rfl ?_
  refine g_iload_n X dX9_uproot_48 rfl 2 rfl ?_
  refine g_callSi (As := [.int (nI x), .int (nI y)]) (rest := [.ref mP]) (wr := [(m, .inr (9, [.ref mh, .ref mg, .ref mt, .ref mf, .ref ms, .ref msT, .ref msF, .ref mgv, .ref mP, .ref mW, .ref mV, .ref mco, .ref men, .ref mnt, .int (nI 0), .int mse, .int mbr, .int mwk, .int mns, .int mtp, .int mss])), (mh, .inl (ai, 42, .inl Hm)), (mf, .inl (ai, 168, .inl Fm)), (mt, .inl (ai, 42, .inl Tm)), (mP, .inl (az, 42, .inl Pm)), (mW, .inl (az, 168, .inl Wm))]) X dX9_uproot_49 (c_X9_at l D ai az al x y ) gX9_uproot_X9_at rfl rfl ok_X9_at rfl rfl (by decide) ⟨by decide, by decide⟩ (Nat.le_of_ble_eq_true rfl) [] [0, 1, 2, 3, 4, 5] ⟨rfl, by decide, rfl, by decide, by decide⟩ (fun r3 u hp => ?_)
  obtain rfl := hp
  refine g_sub (k := 0) (n := 0) (ws' := [(m, .inr (9, [.ref mh, .ref mg, .ref mt, .ref mf, .ref ms, .ref msT, .ref msF, .ref mgv, .ref mP, .ref mW, .ref mV, .ref mco, .ref men, .ref mnt, .int (nI 0), .int mse, .int mbr, .int mwk, .int mns, .int mtp, .int mss])), (mh, .inl (ai, 42, .inl Hm)), (mf, .inl (ai, 168, .inl Fm)), (mt, .inl (ai, 42, .inl Tm)), (mP, .inl (az, 42, .inl Pm)), (mW, .inl (az, 168, .inl Wm))]) [0, 1, 2, 3, 4, 5] (by decide) rfl ?_
  refine g_iconst (v := nI 0) X dX9_uproot_52 (by decide) ?_
  refine g_zastN (g' := upd Pm (y * 6 + x) (nI 0)) (ws' := [(m, .inr (9, [.ref mh, .ref mg, .ref mt, .ref mf, .ref ms, .ref msT, .ref msF, .ref mgv, .ref mP, .ref mW, .ref mV, .ref mco, .ref men, .ref mnt, .int (nI 0), .int mse, .int mbr, .int mwk, .int mns, .int mtp, .int mss])), (mh, .inl (ai, 42, .inl Hm)), (mf, .inl (ai, 168, .inl Fm)), (mt, .inl (ai, 42, .inl Tm)), (mP, .inl (az, 42, .inl (upd Pm (y * 6 + x) (nI 0)))), (mW, .inl (az, 168, .inl Wm))]) X dX9_uproot_53 4 1 rfl rfl (by omega) (by omega) (rfl) (rfl) rfl ?_
  refine g_aload_n X dX9_uproot_54 rfl 0 rfl ?_
  refine g_callVi (C := RX9) (As := []) (rest := []) (wr := []) X dX9_uproot_55 (c_X9_settles l D ai az al m mh mg mt mf ms msT msF mgv mP mW mV mco men mnt (nI 0) mse mbr mwk mns mtp mss Hm Fm Tm (upd Pm (y * 6 + x) (nI 0)) Wm nb (clB pl (y * 6 + x)) h (hW) (hWm) (hC) (hP.cl) (hH) (by omega)) gX9_uproot_X9_settles rfl rfl ok_X9_settles rfl rfl (by decide) ⟨by decide, by decide⟩ (Nat.le_of_ble_eq_true rfl) [0, 1, 2, 3, 4, 5] [] ⟨rfl, by decide, rfl, by decide, by decide⟩ 0 rfl rfl rfl (fun r4 u hp => ?_)
  obtain ⟨H5, F5, T5, h5, u5⟩ := u
  try dsimp only at hp
  obtain ⟨rfl, hS5, hH5, hF5, hT5⟩ := hp
  refine g_sub (k := 0) (n := 0) (ws' := [(m, .inr (9, [.ref mh, .ref mg, .ref mt, .ref mf, .ref ms, .ref msT, .ref msF, .ref mgv, .ref mP, .ref mW, .ref mV, .ref mco, .ref men, .ref mnt, .int (nI 0), .int (mse + nI (lostN nb u5 6)), .int mbr, .int mwk, .int mns, .int (nI (sN u5 42)), .int mss])), (mh, .inl (ai, 42, .inl H5)), (mf, .inl (ai, 168, .inl F5)), (mt, .inl (ai, 42, .inl T5)), (mP, .inl (az, 42, .inl (upd Pm (y * 6 + x) (nI 0)))), (mW, .inl (az, 168, .inl Wm))]) [0, 1, 2, 3, 4, 5] (by decide) rfl ?_
  exact g_iret X E dX9_uproot_58 (⟨H5, F5, T5, h5, u5⟩) rfl (by decide) (by decide) (⟨rfl, hS5, hH5, hF5, hT5⟩)

theorem ok_X9_lay : okName yX9_lay 3 := by decide +kernel
theorem in_X9_lay_X9 : ∀ w ∈ u_ws RX9 TX9 21, w ∈ wsX9_lay := by decide +kernel
set_option maxRecDepth 100000 in
set_option maxHeartbeats 4000000 in
theorem c_X9_layT (l : Launch) (D : va_G) (ai az al : ClassId) (m : Nat) (mh : Nat) (mg : Nat) (mt : Nat) (mf : Nat) (ms : Nat) (msT : Nat) (msF : Nat) (mgv : Nat) (mP : Nat) (mW : Nat) (mV : Nat) (mco : Nat) (men : Nat) (mnt : Nat) (tw : Int32) (mse : Int32) (mbr : Int32) (mwk : Int32) (mns : Int32) (mtp : Int32) (mss : Int32) (Wm : Nat → Int32) (nb : Nat → Nat → Nat) (c : Nat) (s : Nat) (hc : c < 42) (hs : s < 4) (hWm : WOK Wm nb) (hb43 : bN c s ≠ 43) : CV l D (tY ai az al) yX9_lay wsX9_lay { frames := 1, cells := 0, slots := 0, locals := 23 } [.ref m, .int (nI c), .int (nI s), .int (nI 1)] [(m, .inr (9, [.ref mh, .ref mg, .ref mt, .ref mf, .ref ms, .ref msT, .ref msF, .ref mgv, .ref mP, .ref mW, .ref mV, .ref mco, .ref men, .ref mnt, .int tw, .int mse, .int mbr, .int mwk, .int mns, .int mtp, .int mss])), (mW, .inl (az, 168, .inl Wm))] (fun (u : (Nat → Int32)) => WOK u (setS nb c s true)) (fun (u : (Nat → Int32)) => [(m, .inr (9, [.ref mh, .ref mg, .ref mt, .ref mf, .ref ms, .ref msT, .ref msF, .ref mgv, .ref mP, .ref mW, .ref mV, .ref mco, .ref men, .ref mnt, .int tw, .int mse, .int mbr, .int (mwk + nI 1), .int mns, .int mtp, .int mss])), (mW, .inl (az, 168, .inl u))]) := by
  refine ofG_V (cc := cX9_lay) (nL := 5) (lv0 := [(0, .ref m), (1, .int (nI c)), (2, .int (nI s)), (3, .int (nI 1))]) (by decide) rfl (Nat.le_of_ble_eq_true rfl) rfl ?_
  intro Γ X E hinit
  refine g_iload_n X dX9_lay_0 rfl 1 rfl ?_
  refine g_iload_n X dX9_lay_1 rfl 2 rfl ?_
  refine g_callSi (As := [.int (nI c), .int (nI s)]) (rest := []) (wr := [(m, .inr (9, [.ref mh, .ref mg, .ref mt, .ref mf, .ref ms, .ref msT, .ref msF, .ref mgv, .ref mP, .ref mW, .ref mV, .ref mco, .ref men, .ref mnt, .int tw, .int mse, .int mbr, .int mwk, .int mns, .int mtp, .int mss])), (mW, .inl (az, 168, .inl Wm))]) X dX9_lay_2 (c_X9_behind l D ai az al c s (hc) (hs)) gX9_lay_X9_behind rfl rfl ok_X9_behind rfl rfl (by decide) ⟨by decide, by decide⟩ (Nat.le_of_ble_eq_true rfl) [] [0, 1] ⟨rfl, by decide, rfl, by decide, by decide⟩ (fun r1 u hp => ?_)
  obtain rfl := hp
  refine g_sub (k := 0) (n := 0) (ws' := [(m, .inr (9, [.ref mh, .ref mg, .ref mt, .ref mf, .ref ms, .ref msT, .ref msF, .ref mgv, .ref mP, .ref mW, .ref mV, .ref mco, .ref men, .ref mnt, .int tw, .int mse, .int mbr, .int mwk, .int mns, .int mtp, .int mss])), (mW, .inl (az, 168, .inl Wm))]) [0, 1] (by decide) rfl ?_
  refine g_istore (lv' := [(4, .int (cd (bN c s))), (0, .ref m), (1, .int (nI c)), (2, .int (nI s)), (3, .int (nI 1))]) X dX9_lay_5 (by decide) rfl ?_
  refine g_aload_n X dX9_lay_7 rfl 1 rfl ?_
  refine g_getf (T := TX9) (v := .ref mW) X dX9_lay_8 0 rfl rfl in_X9_lay_X9 9 (by decide) (by decide +kernel) rfl rfl ?_
  refine g_iconst (v := nI 4) X dX9_lay_11 (by decide) ?_
  refine g_iload_n X dX9_lay_12 rfl 2 rfl ?_
  refine g_imul (v := nI (c * 4)) X dX9_lay_13 (m4 _) ?_
  refine g_iload_n X dX9_lay_14 rfl 3 rfl ?_
  refine g_iadd (v := nI ((c * 4) + s)) X dX9_lay_15 (nI_add _ _) ?_
  refine g_iload_n X dX9_lay_16 rfl 4 rfl ?_
  refine g_zastN (g' := upd Wm ((c * 4) + s) (nI 1)) (ws' := [(m, .inr (9, [.ref mh, .ref mg, .ref mt, .ref mf, .ref ms, .ref msT, .ref msF, .ref mgv, .ref mP, .ref mW, .ref mV, .ref mco, .ref men, .ref mnt, .int tw, .int mse, .int mbr, .int mwk, .int mns, .int mtp, .int mss])), (mW, .inl (az, 168, .inl (upd Wm ((c * 4) + s) (nI 1))))]) X dX9_lay_17 1 1 rfl rfl (by omega) (by omega) (rfl) (rfl) rfl ?_
  refine g_iload X dX9_lay_18 0 rfl ?_
  refine g_if_lt (tgt := 38) X dX9_lay_20 (by decide) (fun b20 => ?_) (fun b20 => ?_)
  · refine g_aload_n X dX9_lay_38 rfl 1 rfl ?_
    refine g_dup X dX9_lay_39 rfl ?_
    refine g_getf (T := TX9) (v := .int mwk) X dX9_lay_40 0 rfl rfl in_X9_lay_X9 17 (by decide) (by decide +kernel) rfl rfl ?_
    refine g_iload_n X dX9_lay_43 rfl 4 rfl ?_
    refine g_if_eqN (tgt := 51) X dX9_lay_44 (by decide) (by decide) (fun b44x => False.elim (by revert b44x; decide)) (fun b44x => ?_)
    refine g_iconst (v := nI 1) X dX9_lay_47 (by decide) ?_
    refine g_goto (tgt := 52) X dX9_lay_48 (by decide) ?_
    refine g_iadd (v := (mwk + nI 1)) X dX9_lay_52 (rfl) ?_
    refine g_putf (T := TX9) (v := .int (mwk + nI 1)) (ty := tyX9 17) (ws' := [(m, .inr (9, [.ref mh, .ref mg, .ref mt, .ref mf, .ref ms, .ref msT, .ref msF, .ref mgv, .ref mP, .ref mW, .ref mV, .ref mco, .ref men, .ref mnt, .int tw, .int mse, .int mbr, .int (mwk + nI 1), .int mns, .int mtp, .int mss])), (mW, .inl (az, 168, .inl (upd Wm ((c * 4) + s) (nI 1))))]) X dX9_lay_53 0 rfl rfl in_X9_lay_X9 tyX9 tyX9_ok nmX9 17 (by decide) (by decide +kernel) rfl rfl (by decide +kernel) rfl rfl (Nat.le_of_ble_eq_true rfl) rfl ?_
    exact g_vret X E dX9_lay_56 (upd Wm ((c * 4) + s) (nI 1)) rfl (by decide) (by decide) (by first
          | (have hd : ¬ bN c s < 42 := (cd_neg (bN_le hc)).mp b20
             exact hWm.set hc hs true hb43 upd_at (fun q => absurd q hd) (fun k h1 _ => upd_ne h1))
          | (have hd : bN c s < 42 := Classical.byContradiction (fun q => b20 ((cd_neg (bN_le hc)).mpr q))
             have hbk := bN_back c hc s hs hd
             exact hWm.set hc hs true hb43 ((upd_ne (by omega)).trans upd_at) (fun _ => upd_at) (fun k h1 h2 => (upd_ne (h2 hd)).trans (upd_ne h1))))
  · have hd : bN c s < 42 := Classical.byContradiction (fun q => b20 ((cd_neg (bN_le hc)).mpr q))
    have hbk := bN_back c hc s hs hd
    have ho4 := opp_lt hs
    refine g_lv (lv' := [(4, .int (nI (bN c s))), (0, .ref m), (1, .int (nI c)), (2, .int (nI s)), (3, .int (nI 1))]) [0, 1, 2, 3, 4] (by rw [cd_lt hd]; rfl) ?_
    refine g_aload_n X dX9_lay_23 rfl 1 rfl ?_
    refine g_getf (T := TX9) (v := .ref mW) X dX9_lay_24 0 rfl rfl in_X9_lay_X9 9 (by decide) (by decide +kernel) rfl rfl ?_
    refine g_iconst (v := nI 4) X dX9_lay_27 (by decide) ?_
    refine g_iload X dX9_lay_28 0 rfl ?_
    refine g_imul (v := nI (bN c s * 4)) X dX9_lay_30 (m4 _) ?_
    refine g_iload_n X dX9_lay_31 rfl 3 rfl ?_
    refine g_callSi (As := [.int (nI s)]) (rest := [.int (nI (bN c s * 4)), .ref mW]) (wr := [(m, .inr (9, [.ref mh, .ref mg, .ref mt, .ref mf, .ref ms, .ref msT, .ref msF, .ref mgv, .ref mP, .ref mW, .ref mV, .ref mco, .ref men, .ref mnt, .int tw, .int mse, .int mbr, .int mwk, .int mns, .int mtp, .int mss])), (mW, .inl (az, 168, .inl (upd Wm ((c * 4) + s) (nI 1))))]) X dX9_lay_32 (c_X9_opposite l D ai az al s (hs)) gX9_lay_X9_opposite rfl rfl ok_X9_opposite rfl rfl (by decide) ⟨by decide, by decide⟩ (Nat.le_of_ble_eq_true rfl) [] [0, 1] ⟨rfl, by decide, rfl, by decide, by decide⟩ (fun r2 u hp => ?_)
    obtain rfl := hp
    refine g_sub (k := 0) (n := 0) (ws' := [(m, .inr (9, [.ref mh, .ref mg, .ref mt, .ref mf, .ref ms, .ref msT, .ref msF, .ref mgv, .ref mP, .ref mW, .ref mV, .ref mco, .ref men, .ref mnt, .int tw, .int mse, .int mbr, .int mwk, .int mns, .int mtp, .int mss])), (mW, .inl (az, 168, .inl (upd Wm ((c * 4) + s) (nI 1))))]) [0, 1] (by decide) rfl ?_
    refine g_iadd (v := nI ((bN c s * 4) + (opp s))) X dX9_lay_35 (nI_add _ _) ?_
    refine g_iload_n X dX9_lay_36 rfl 4 rfl ?_
    refine g_zastN (g' := upd (upd Wm ((c * 4) + s) (nI 1)) ((bN c s * 4) + (opp s)) (nI 1)) (ws' := [(m, .inr (9, [.ref mh, .ref mg, .ref mt, .ref mf, .ref ms, .ref msT, .ref msF, .ref mgv, .ref mP, .ref mW, .ref mV, .ref mco, .ref men, .ref mnt, .int tw, .int mse, .int mbr, .int mwk, .int mns, .int mtp, .int mss])), (mW, .inl (az, 168, .inl (upd (upd Wm ((c * 4) + s) (nI 1)) ((bN c s * 4) + (opp s)) (nI 1))))]) X dX9_lay_37 1 1 rfl rfl (by omega) (by omega) (rfl) (rfl) rfl ?_
    refine g_aload_n X dX9_lay_38 rfl 1 rfl ?_
    refine g_dup X dX9_lay_39 rfl ?_
    refine g_getf (T := TX9) (v := .int mwk) X dX9_lay_40 0 rfl rfl in_X9_lay_X9 17 (by decide) (by decide +kernel) rfl rfl ?_
    refine g_iload_n X dX9_lay_43 rfl 4 rfl ?_
    refine g_if_eqN (tgt := 51) X dX9_lay_44 (by decide) (by decide) (fun b44x => False.elim (by revert b44x; decide)) (fun b44x => ?_)
    refine g_iconst (v := nI 1) X dX9_lay_47 (by decide) ?_
    refine g_goto (tgt := 52) X dX9_lay_48 (by decide) ?_
    refine g_iadd (v := (mwk + nI 1)) X dX9_lay_52 (rfl) ?_
    refine g_putf (T := TX9) (v := .int (mwk + nI 1)) (ty := tyX9 17) (ws' := [(m, .inr (9, [.ref mh, .ref mg, .ref mt, .ref mf, .ref ms, .ref msT, .ref msF, .ref mgv, .ref mP, .ref mW, .ref mV, .ref mco, .ref men, .ref mnt, .int tw, .int mse, .int mbr, .int (mwk + nI 1), .int mns, .int mtp, .int mss])), (mW, .inl (az, 168, .inl (upd (upd Wm ((c * 4) + s) (nI 1)) ((bN c s * 4) + (opp s)) (nI 1))))]) X dX9_lay_53 0 rfl rfl in_X9_lay_X9 tyX9 tyX9_ok nmX9 17 (by decide) (by decide +kernel) rfl rfl (by decide +kernel) rfl rfl (Nat.le_of_ble_eq_true rfl) rfl ?_
    exact g_vret X E dX9_lay_56 (upd (upd Wm ((c * 4) + s) (nI 1)) ((bN c s * 4) + (opp s)) (nI 1)) rfl (by decide) (by decide) (by first
          | (have hd : ¬ bN c s < 42 := (cd_neg (bN_le hc)).mp b20
             exact hWm.set hc hs true hb43 upd_at (fun q => absurd q hd) (fun k h1 _ => upd_ne h1))
          | (have hd : bN c s < 42 := Classical.byContradiction (fun q => b20 ((cd_neg (bN_le hc)).mpr q))
             have hbk := bN_back c hc s hs hd
             exact hWm.set hc hs true hb43 ((upd_ne (by omega)).trans upd_at) (fun _ => upd_at) (fun k h1 h2 => (upd_ne (h2 hd)).trans (upd_ne h1))))

set_option maxRecDepth 100000 in
set_option maxHeartbeats 4000000 in
theorem c_X9_layF (l : Launch) (D : va_G) (ai az al : ClassId) (m : Nat) (mh : Nat) (mg : Nat) (mt : Nat) (mf : Nat) (ms : Nat) (msT : Nat) (msF : Nat) (mgv : Nat) (mP : Nat) (mW : Nat) (mV : Nat) (mco : Nat) (men : Nat) (mnt : Nat) (tw : Int32) (mse : Int32) (mbr : Int32) (mwk : Int32) (mns : Int32) (mtp : Int32) (mss : Int32) (Wm : Nat → Int32) (nb : Nat → Nat → Nat) (c : Nat) (s : Nat) (hc : c < 42) (hs : s < 4) (hWm : WOK Wm nb) (hb43 : bN c s ≠ 43) : CV l D (tY ai az al) yX9_lay wsX9_lay { frames := 1, cells := 0, slots := 0, locals := 23 } [.ref m, .int (nI c), .int (nI s), .int (nI 0)] [(m, .inr (9, [.ref mh, .ref mg, .ref mt, .ref mf, .ref ms, .ref msT, .ref msF, .ref mgv, .ref mP, .ref mW, .ref mV, .ref mco, .ref men, .ref mnt, .int tw, .int mse, .int mbr, .int mwk, .int mns, .int mtp, .int mss])), (mW, .inl (az, 168, .inl Wm))] (fun (u : (Nat → Int32)) => WOK u (setS nb c s false)) (fun (u : (Nat → Int32)) => [(m, .inr (9, [.ref mh, .ref mg, .ref mt, .ref mf, .ref ms, .ref msT, .ref msF, .ref mgv, .ref mP, .ref mW, .ref mV, .ref mco, .ref men, .ref mnt, .int tw, .int mse, .int mbr, .int (mwk + (-1)), .int mns, .int mtp, .int mss])), (mW, .inl (az, 168, .inl u))]) := by
  refine ofG_V (cc := cX9_lay) (nL := 5) (lv0 := [(0, .ref m), (1, .int (nI c)), (2, .int (nI s)), (3, .int (nI 0))]) (by decide) rfl (Nat.le_of_ble_eq_true rfl) rfl ?_
  intro Γ X E hinit
  refine g_iload_n X dX9_lay_0 rfl 1 rfl ?_
  refine g_iload_n X dX9_lay_1 rfl 2 rfl ?_
  refine g_callSi (As := [.int (nI c), .int (nI s)]) (rest := []) (wr := [(m, .inr (9, [.ref mh, .ref mg, .ref mt, .ref mf, .ref ms, .ref msT, .ref msF, .ref mgv, .ref mP, .ref mW, .ref mV, .ref mco, .ref men, .ref mnt, .int tw, .int mse, .int mbr, .int mwk, .int mns, .int mtp, .int mss])), (mW, .inl (az, 168, .inl Wm))]) X dX9_lay_2 (c_X9_behind l D ai az al c s (hc) (hs)) gX9_lay_X9_behind rfl rfl ok_X9_behind rfl rfl (by decide) ⟨by decide, by decide⟩ (Nat.le_of_ble_eq_true rfl) [] [0, 1] ⟨rfl, by decide, rfl, by decide, by decide⟩ (fun r1 u hp => ?_)
  obtain rfl := hp
  refine g_sub (k := 0) (n := 0) (ws' := [(m, .inr (9, [.ref mh, .ref mg, .ref mt, .ref mf, .ref ms, .ref msT, .ref msF, .ref mgv, .ref mP, .ref mW, .ref mV, .ref mco, .ref men, .ref mnt, .int tw, .int mse, .int mbr, .int mwk, .int mns, .int mtp, .int mss])), (mW, .inl (az, 168, .inl Wm))]) [0, 1] (by decide) rfl ?_
  refine g_istore (lv' := [(4, .int (cd (bN c s))), (0, .ref m), (1, .int (nI c)), (2, .int (nI s)), (3, .int (nI 0))]) X dX9_lay_5 (by decide) rfl ?_
  refine g_aload_n X dX9_lay_7 rfl 1 rfl ?_
  refine g_getf (T := TX9) (v := .ref mW) X dX9_lay_8 0 rfl rfl in_X9_lay_X9 9 (by decide) (by decide +kernel) rfl rfl ?_
  refine g_iconst (v := nI 4) X dX9_lay_11 (by decide) ?_
  refine g_iload_n X dX9_lay_12 rfl 2 rfl ?_
  refine g_imul (v := nI (c * 4)) X dX9_lay_13 (m4 _) ?_
  refine g_iload_n X dX9_lay_14 rfl 3 rfl ?_
  refine g_iadd (v := nI ((c * 4) + s)) X dX9_lay_15 (nI_add _ _) ?_
  refine g_iload_n X dX9_lay_16 rfl 4 rfl ?_
  refine g_zastN (g' := upd Wm ((c * 4) + s) (nI 0)) (ws' := [(m, .inr (9, [.ref mh, .ref mg, .ref mt, .ref mf, .ref ms, .ref msT, .ref msF, .ref mgv, .ref mP, .ref mW, .ref mV, .ref mco, .ref men, .ref mnt, .int tw, .int mse, .int mbr, .int mwk, .int mns, .int mtp, .int mss])), (mW, .inl (az, 168, .inl (upd Wm ((c * 4) + s) (nI 0))))]) X dX9_lay_17 1 1 rfl rfl (by omega) (by omega) (rfl) (rfl) rfl ?_
  refine g_iload X dX9_lay_18 0 rfl ?_
  refine g_if_lt (tgt := 38) X dX9_lay_20 (by decide) (fun b20 => ?_) (fun b20 => ?_)
  · refine g_aload_n X dX9_lay_38 rfl 1 rfl ?_
    refine g_dup X dX9_lay_39 rfl ?_
    refine g_getf (T := TX9) (v := .int mwk) X dX9_lay_40 0 rfl rfl in_X9_lay_X9 17 (by decide) (by decide +kernel) rfl rfl ?_
    refine g_iload_n X dX9_lay_43 rfl 4 rfl ?_
    refine g_if_eqN (tgt := 51) X dX9_lay_44 (by decide) (by decide) (fun b44x => ?_) (fun b44x => False.elim (by revert b44x; decide))
    refine g_iconst (v := (-1)) X dX9_lay_51 (by decide) ?_
    refine g_iadd (v := (mwk + (-1))) X dX9_lay_52 (rfl) ?_
    refine g_putf (T := TX9) (v := .int (mwk + (-1))) (ty := tyX9 17) (ws' := [(m, .inr (9, [.ref mh, .ref mg, .ref mt, .ref mf, .ref ms, .ref msT, .ref msF, .ref mgv, .ref mP, .ref mW, .ref mV, .ref mco, .ref men, .ref mnt, .int tw, .int mse, .int mbr, .int (mwk + (-1)), .int mns, .int mtp, .int mss])), (mW, .inl (az, 168, .inl (upd Wm ((c * 4) + s) (nI 0))))]) X dX9_lay_53 0 rfl rfl in_X9_lay_X9 tyX9 tyX9_ok nmX9 17 (by decide) (by decide +kernel) rfl rfl (by decide +kernel) rfl rfl (Nat.le_of_ble_eq_true rfl) rfl ?_
    exact g_vret X E dX9_lay_56 (upd Wm ((c * 4) + s) (nI 0)) rfl (by decide) (by decide) (by first
          | (have hd : ¬ bN c s < 42 := (cd_neg (bN_le hc)).mp b20
             exact hWm.set hc hs false hb43 upd_at (fun q => absurd q hd) (fun k h1 _ => upd_ne h1))
          | (have hd : bN c s < 42 := Classical.byContradiction (fun q => b20 ((cd_neg (bN_le hc)).mpr q))
             have hbk := bN_back c hc s hs hd
             exact hWm.set hc hs false hb43 ((upd_ne (by omega)).trans upd_at) (fun _ => upd_at) (fun k h1 h2 => (upd_ne (h2 hd)).trans (upd_ne h1))))
  · have hd : bN c s < 42 := Classical.byContradiction (fun q => b20 ((cd_neg (bN_le hc)).mpr q))
    have hbk := bN_back c hc s hs hd
    have ho4 := opp_lt hs
    refine g_lv (lv' := [(4, .int (nI (bN c s))), (0, .ref m), (1, .int (nI c)), (2, .int (nI s)), (3, .int (nI 0))]) [0, 1, 2, 3, 4] (by rw [cd_lt hd]; rfl) ?_
    refine g_aload_n X dX9_lay_23 rfl 1 rfl ?_
    refine g_getf (T := TX9) (v := .ref mW) X dX9_lay_24 0 rfl rfl in_X9_lay_X9 9 (by decide) (by decide +kernel) rfl rfl ?_
    refine g_iconst (v := nI 4) X dX9_lay_27 (by decide) ?_
    refine g_iload X dX9_lay_28 0 rfl ?_
    refine g_imul (v := nI (bN c s * 4)) X dX9_lay_30 (m4 _) ?_
    refine g_iload_n X dX9_lay_31 rfl 3 rfl ?_
    refine g_callSi (As := [.int (nI s)]) (rest := [.int (nI (bN c s * 4)), .ref mW]) (wr := [(m, .inr (9, [.ref mh, .ref mg, .ref mt, .ref mf, .ref ms, .ref msT, .ref msF, .ref mgv, .ref mP, .ref mW, .ref mV, .ref mco, .ref men, .ref mnt, .int tw, .int mse, .int mbr, .int mwk, .int mns, .int mtp, .int mss])), (mW, .inl (az, 168, .inl (upd Wm ((c * 4) + s) (nI 0))))]) X dX9_lay_32 (c_X9_opposite l D ai az al s (hs)) gX9_lay_X9_opposite rfl rfl ok_X9_opposite rfl rfl (by decide) ⟨by decide, by decide⟩ (Nat.le_of_ble_eq_true rfl) [] [0, 1] ⟨rfl, by decide, rfl, by decide, by decide⟩ (fun r2 u hp => ?_)
    obtain rfl := hp
    refine g_sub (k := 0) (n := 0) (ws' := [(m, .inr (9, [.ref mh, .ref mg, .ref mt, .ref mf, .ref ms, .ref msT, .ref msF, .ref mgv, .ref mP, .ref mW, .ref mV, .ref mco, .ref men, .ref mnt, .int tw, .int mse, .int mbr, .int mwk, .int mns, .int mtp, .int mss])), (mW, .inl (az, 168, .inl (upd Wm ((c * 4) + s) (nI 0))))]) [0, 1] (by decide) rfl ?_
    refine g_iadd (v := nI ((bN c s * 4) + (opp s))) X dX9_lay_35 (nI_add _ _) ?_
    refine g_iload_n X dX9_lay_36 rfl 4 rfl ?_
    refine g_zastN (g' := upd (upd Wm ((c * 4) + s) (nI 0)) ((bN c s * 4) + (opp s)) (nI 0)) (ws' := [(m, .inr (9, [.ref mh, .ref mg, .ref mt, .ref mf, .ref ms, .ref msT, .ref msF, .ref mgv, .ref mP, .ref mW, .ref mV, .ref mco, .ref men, .ref mnt, .int tw, .int mse, .int mbr, .int mwk, .int mns, .int mtp, .int mss])), (mW, .inl (az, 168, .inl (upd (upd Wm ((c * 4) + s) (nI 0)) ((bN c s * 4) + (opp s)) (nI 0))))]) X dX9_lay_37 1 1 rfl rfl (by omega) (by omega) (rfl) (rfl) rfl ?_
    refine g_aload_n X dX9_lay_38 rfl 1 rfl ?_
    refine g_dup X dX9_lay_39 rfl ?_
    refine g_getf (T := TX9) (v := .int mwk) X dX9_lay_40 0 rfl rfl in_X9_lay_X9 17 (by decide) (by decide +kernel) rfl rfl ?_
    refine g_iload_n X dX9_lay_43 rfl 4 rfl ?_
    refine g_if_eqN (tgt := 51) X dX9_lay_44 (by decide) (by decide) (fun b44x => ?_) (fun b44x => False.elim (by revert b44x; decide))
    refine g_iconst (v := (-1)) X dX9_lay_51 (by decide) ?_
    refine g_iadd (v := (mwk + (-1))) X dX9_lay_52 (rfl) ?_
    refine g_putf (T := TX9) (v := .int (mwk + (-1))) (ty := tyX9 17) (ws' := [(m, .inr (9, [.ref mh, .ref mg, .ref mt, .ref mf, .ref ms, .ref msT, .ref msF, .ref mgv, .ref mP, .ref mW, .ref mV, .ref mco, .ref men, .ref mnt, .int tw, .int mse, .int mbr, .int (mwk + (-1)), .int mns, .int mtp, .int mss])), (mW, .inl (az, 168, .inl (upd (upd Wm ((c * 4) + s) (nI 0)) ((bN c s * 4) + (opp s)) (nI 0))))]) X dX9_lay_53 0 rfl rfl in_X9_lay_X9 tyX9 tyX9_ok nmX9 17 (by decide) (by decide +kernel) rfl rfl (by decide +kernel) rfl rfl (Nat.le_of_ble_eq_true rfl) rfl ?_
    exact g_vret X E dX9_lay_56 (upd (upd Wm ((c * 4) + s) (nI 0)) ((bN c s * 4) + (opp s)) (nI 0)) rfl (by decide) (by decide) (by first
          | (have hd : ¬ bN c s < 42 := (cd_neg (bN_le hc)).mp b20
             exact hWm.set hc hs false hb43 upd_at (fun q => absurd q hd) (fun k h1 _ => upd_ne h1))
          | (have hd : bN c s < 42 := Classical.byContradiction (fun q => b20 ((cd_neg (bN_le hc)).mpr q))
             have hbk := bN_back c hc s hs hd
             exact hWm.set hc hs false hb43 ((upd_ne (by omega)).trans upd_at) (fun _ => upd_at) (fun k h1 h2 => (upd_ne (h2 hd)).trans (upd_ne h1))))

theorem ok_X9_wets : okName yX9_wets 1 := by decide +kernel
theorem in_X9_wets_X9 : ∀ w ∈ u_ws RX9 TX9 21, w ∈ wsX9_wets := by decide +kernel
set_option maxRecDepth 100000 in
set_option maxHeartbeats 4000000 in
theorem c_X9_wets (l : Launch) (D : va_G) (ai az al : ClassId) (m : Nat) (mh : Nat) (mg : Nat) (mt : Nat) (mf : Nat) (ms : Nat) (msT : Nat) (msF : Nat) (mgv : Nat) (mP : Nat) (mW : Nat) (mV : Nat) (mco : Nat) (men : Nat) (mnt : Nat) (tw : Int32) (mse : Int32) (mbr : Int32) (mwk : Int32) (mns : Int32) (mtp : Int32) (mss : Int32) (Am : Nat → Int32) (Hm : Nat → Int32) (Wm : Nat → Int32) (nb : Nat → Nat → Nat) (h : Nat → Nat) (lv : Nat) (hW : NW nb) (hWm : WOK Wm nb) (hH : HOK Hm h) (hb : ∀ c, c < 42 → h c < 2 ^ 31) (hlv : lv < 2 ^ 31) : CI l D (tY ai az al) yX9_wets wsX9_wets { frames := 2, cells := 0, slots := 0, locals := 45 } [.ref m, .int (nI lv)] [(m, .inr (9, [.ref mh, .ref mg, .ref mt, .ref mf, .ref ms, .ref msT, .ref msF, .ref mgv, .ref mP, .ref mW, .ref mV, .ref mco, .ref men, .ref mnt, .int tw, .int mse, .int mbr, .int mwk, .int mns, .int mtp, .int mss])), (mV, .inl (az, 42, .inl Am)), (mh, .inl (ai, 42, .inl Hm)), (mW, .inl (az, 168, .inl Wm))] (fun (r : Int32) (u : (Nat → Int32) × (Nat → Bool)) => r = nI (cB u.2 42) ∧ FL nb (lowB h lv) u.2 ∧ POK u.1 u.2) (fun (u : (Nat → Int32) × (Nat → Bool)) => [(m, .inr (9, [.ref mh, .ref mg, .ref mt, .ref mf, .ref ms, .ref msT, .ref msF, .ref mgv, .ref mP, .ref mW, .ref mV, .ref mco, .ref men, .ref mnt, .int tw, .int mse, .int mbr, .int mwk, .int mns, .int mtp, .int mss])), (mV, .inl (az, 42, .inl u.1)), (mh, .inl (ai, 42, .inl Hm)), (mW, .inl (az, 168, .inl Wm))]) := by
  refine ofG_I (cc := cX9_wets) (nL := 7) (lv0 := [(0, .ref m), (1, .int (nI lv))]) (by decide) rfl (Nat.le_of_ble_eq_true rfl) rfl ?_
  intro Γ X E
  refine g_iconst (v := nI 0) X dX9_wets_0 (by decide) ?_
  refine g_istore_n (lv' := [(2, .int (nI 0)), (0, .ref m), (1, .int (nI lv))]) X dX9_wets_1 rfl (by decide) rfl ?_
  have L2 : ∀ (f0 : Nat) (k0 : Nat) (A0 : Nat → Int32), (k0 ≤ 42) → (∀ j, j < k0 → A0 j = (fun _ => (0 : Int32)) j) → (43 ≤ k0 + f0) → G Γ 7 0 0 [(m, .inr (9, [.ref mh, .ref mg, .ref mt, .ref mf, .ref ms, .ref msT, .ref msF, .ref mgv, .ref mP, .ref mW, .ref mV, .ref mco, .ref men, .ref mnt, .int tw, .int mse, .int mbr, .int mwk, .int mns, .int mtp, .int mss])), (mV, .inl (az, 42, .inl A0)), (mh, .inl (ai, 42, .inl Hm)), (mW, .inl (az, 168, .inl Wm))] [(0, .ref m), (1, .int (nI lv)), (2, .int (nI k0))] 2 [] := by
    intro f0
    induction f0 with
    | zero => intro k0 A0 hk0 hA0 hm0; exact absurd hm0 (by omega)
    | succ f0 ih2 =>
      intro k0 A0 hk0 hA0 hm0
      refine g_iload_n X dX9_wets_2 rfl 2 rfl ?_
      refine g_bipush (v := nI 42) X dX9_wets_3 (by decide) ?_
      refine g_icmp_geN (tgt := 21) X dX9_wets_5 (by decide) (by omega) (by omega) (fun b5 => ?_) (fun b5 => ?_)
      · refine g_arr (g := fun _ => 0) (ws' := [(m, .inr (9, [.ref mh, .ref mg, .ref mt, .ref mf, .ref ms, .ref msT, .ref msF, .ref mgv, .ref mP, .ref mW, .ref mV, .ref mco, .ref men, .ref mnt, .int tw, .int mse, .int mbr, .int mwk, .int mns, .int mtp, .int mss])), (mV, .inl (az, 42, .inl (fun _ => 0))), (mh, .inl (ai, 42, .inl Hm)), (mW, .inl (az, 168, .inl Wm))]) 1 rfl (fun j hj => hA0 j (by omega)) rfl ?_
        refine g_iconst (v := nI 0) X dX9_wets_21 (by decide) ?_
        refine g_istore_n (lv' := [(2, .int (nI 0)), (0, .ref m), (1, .int (nI lv))]) X dX9_wets_22 rfl (by decide) rfl ?_
        refine g_bipush (v := (-2)) X dX9_wets_23 (by decide) ?_
        refine g_istore_n (lv' := [(3, .int (-2)), (2, .int (nI 0)), (0, .ref m), (1, .int (nI lv))]) X dX9_wets_25 rfl (by decide) rfl ?_
        have L26 : ∀ (fl : Nat) (bf : Int32) (A_p : Nat → Int32) (V_p : Nat → Bool), (POK A_p V_p) → (∀ c, c < 42 → V_p c = true → ∃ k, rch nb (lowB h lv) k c = true) → (bf = nI (cB V_p 42) → ∀ c, c < 42 → lowB h lv c = true → bes nb V_p c = true → V_p c = true) → (44 ≤ cB V_p 42 + fl ∨ (bf = nI (cB V_p 42) ∧ 1 ≤ fl)) → G Γ 7 0 0 [(m, .inr (9, [.ref mh, .ref mg, .ref mt, .ref mf, .ref ms, .ref msT, .ref msF, .ref mgv, .ref mP, .ref mW, .ref mV, .ref mco, .ref men, .ref mnt, .int tw, .int mse, .int mbr, .int mwk, .int mns, .int mtp, .int mss])), (mV, .inl (az, 42, .inl A_p)), (mh, .inl (ai, 42, .inl Hm)), (mW, .inl (az, 168, .inl Wm))] [(0, .ref m), (1, .int (nI lv)), (2, .int (nI (cB V_p 42))), (3, .int bf)] 26 [] := by
          intro fl
          induction fl with
          | zero => intro bf A_p V_p hV_p hS_p hcl hm; rcases hm with hm | hm; (have := cB_le V_p 42; omega); exact absurd hm.2 (by decide)
          | succ fl ih26 =>
            intro bf A_p V_p hV_p hS_p hcl hm
            have hle := cB_le V_p 42
            refine g_iload_n X dX9_wets_26 rfl 3 rfl ?_
            refine g_iload_n X dX9_wets_27 rfl 2 rfl ?_
            refine g_icmp_eq (tgt := 159) X dX9_wets_28 (by decide) (fun b28 => ?_) (fun b28 => ?_)
            · refine g_iload_n X dX9_wets_159 rfl 2 rfl ?_
              exact g_iret X E dX9_wets_160 (⟨A_p, V_p⟩) rfl (by decide) (by decide) (⟨rfl, ⟨hS_p, hcl b28⟩, hV_p⟩)
            · refine g_iload_n X dX9_wets_31 rfl 2 rfl ?_
              refine g_istore_n (lv' := [(3, .int (nI (cB V_p 42))), (0, .ref m), (1, .int (nI lv)), (2, .int (nI (cB V_p 42)))]) X dX9_wets_32 rfl (by decide) rfl ?_
              refine g_iconst (v := nI 0) X dX9_wets_33 (by decide) ?_
              refine g_istore (lv' := [(4, .int (nI 0)), (3, .int (nI (cB V_p 42))), (0, .ref m), (1, .int (nI lv)), (2, .int (nI (cB V_p 42)))]) X dX9_wets_34 (by decide) rfl ?_
              have L36 : ∀ (fm : Nat) (i : Nat) (A_q : Nat → Int32) (V_q : Nat → Bool), (i ≤ 42) → (POK A_q V_q) → (∀ c, c < 42 → V_q c = true → ∃ k, rch nb (lowB h lv) k c = true) → (cB V_p 42 ≤ cB V_q 42) → (cB V_q 42 = cB V_p 42 → ∀ c, c < i → lowB h lv c = true → bes nb V_q c = true → V_q c = true) → (43 ≤ i + fm) → G Γ 7 0 0 [(m, .inr (9, [.ref mh, .ref mg, .ref mt, .ref mf, .ref ms, .ref msT, .ref msF, .ref mgv, .ref mP, .ref mW, .ref mV, .ref mco, .ref men, .ref mnt, .int tw, .int mse, .int mbr, .int mwk, .int mns, .int mtp, .int mss])), (mV, .inl (az, 42, .inl A_q)), (mh, .inl (ai, 42, .inl Hm)), (mW, .inl (az, 168, .inl Wm))] [(0, .ref m), (1, .int (nI lv)), (2, .int (nI (cB V_q 42))), (3, .int (nI (cB V_p 42))), (4, .int (nI i))] 36 [] := by
                intro fm
                induction fm with
                | zero => intro i A_q V_q hi hV_q hS_q hge hst hk; exact absurd hk (by omega)
                | succ fm ih36 =>
                  intro i A_q V_q hi hV_q hS_q hge hst hk
                  have hle2 := cB_le V_q 42
                  refine g_iload X dX9_wets_36 4 rfl ?_
                  refine g_bipush (v := nI 42) X dX9_wets_38 (by decide) ?_
                  refine g_icmp_geN (tgt := 156) X dX9_wets_40 (by decide) (by omega) (by omega) (fun b40 => ?_) (fun b40 => ?_)
                  · refine g_goto (tgt := 26) X dX9_wets_156 (by decide) ?_
                    refine g_lv (lv' := [(0, .ref m), (1, .int (nI lv)), (2, .int (nI (cB V_q 42))), (3, .int (nI (cB V_p 42)))]) [0, 1, 2, 3] rfl ?_
                    exact ih26 (nI (cB V_p 42)) A_q V_q (hV_q) (hS_q) (fun z c hc => hst (nI_inj (by omega) (by omega) z.symm) c (by omega)) (by by_cases z : cB V_q 42 = cB V_p 42; (refine Or.inr ⟨by rw [z], ?_⟩; rcases hm with q | q; omega; exact absurd q.1 b28); (refine Or.inl ?_; rcases hm with q | q; omega; exact absurd q.1 b28))
                  · have hi42 : i < 42 := by omega
                    refine g_iconst (v := nI 0) X dX9_wets_43 (by decide) ?_
                    refine g_istore (lv' := [(5, .int (nI 0)), (0, .ref m), (1, .int (nI lv)), (2, .int (nI (cB V_q 42))), (3, .int (nI (cB V_p 42))), (4, .int (nI i))]) X dX9_wets_44 (by decide) rfl ?_
                    refine g_iconst (v := nI 0) X dX9_wets_46 (by decide) ?_
                    refine g_istore (lv' := [(6, .int (nI 0)), (5, .int (nI 0)), (0, .ref m), (1, .int (nI lv)), (2, .int (nI (cB V_q 42))), (3, .int (nI (cB V_p 42))), (4, .int (nI i))]) X dX9_wets_47 (by decide) rfl ?_
                    have L49 : ∀ (fk : Nat) (j : Nat) (z : Bool), (j ≤ 4) → (z = bsN nb V_q i j) → (5 ≤ j + fk) → G Γ 7 0 0 [(m, .inr (9, [.ref mh, .ref mg, .ref mt, .ref mf, .ref ms, .ref msT, .ref msF, .ref mgv, .ref mP, .ref mW, .ref mV, .ref mco, .ref men, .ref mnt, .int tw, .int mse, .int mbr, .int mwk, .int mns, .int mtp, .int mss])), (mV, .inl (az, 42, .inl A_q)), (mh, .inl (ai, 42, .inl Hm)), (mW, .inl (az, 168, .inl Wm))] [(0, .ref m), (1, .int (nI lv)), (2, .int (nI (cB V_q 42))), (3, .int (nI (cB V_p 42))), (4, .int (nI i)), (5, .int (nI (bn z))), (6, .int (nI j))] 49 [] := by
                      intro fk
                      induction fk with
                      | zero => intro j z hj hz hk4; exact absurd hk4 (by omega)
                      | succ fk ih49 =>
                        intro j z hj hz hk4
                        refine g_iload X dX9_wets_49 6 rfl ?_
                        refine g_iconst (v := nI 4) X dX9_wets_51 (by decide) ?_
                        refine g_icmp_geN (tgt := 110) X dX9_wets_52 (by decide) (by omega) (by omega) (fun b52 => ?_) (fun b52 => ?_)
                        · obtain rfl : j = 4 := by omega
                          have hb4 : z = bes nb V_q i := hz.trans bsN_4
                          refine g_aload_n X dX9_wets_110 rfl 0 rfl ?_
                          refine g_getf (T := TX9) (v := .ref mV) X dX9_wets_111 0 rfl rfl in_X9_wets_X9 10 (by decide) (by decide +kernel) rfl rfl ?_
                          refine g_iload X dX9_wets_114 4 rfl ?_
                          refine g_zaldN (v := (A_q i)) X dX9_wets_116 1 1 rfl rfl (by omega) (by omega) (rfl) ?_
                          refine g_if_ne (tgt := 150) X dX9_wets_117 (by decide) (fun b117 => ?_) (fun b117 => ?_)
                          · refine g_iinc (v := nI (i + 1)) (lv' := [(4, .int (nI (i + 1))), (0, .ref m), (1, .int (nI lv)), (2, .int (nI (cB V_q 42))), (3, .int (nI (cB V_p 42))), (5, .int (nI (bn z))), (6, .int (nI 4))]) X dX9_wets_150 4 rfl (nI_inc _) (by decide) rfl ?_
                            refine g_goto (tgt := 36) X dX9_wets_153 (by decide) ?_
                            refine g_lv (lv' := [(0, .ref m), (1, .int (nI lv)), (2, .int (nI (cB V_q 42))), (3, .int (nI (cB V_p 42))), (4, .int (nI (i + 1)))]) [1, 2, 3, 4, 0] rfl ?_
                            exact ih36 (i + 1) A_q V_q (by omega) (hV_q) (hS_q) (hge) (fun z c hc h1 h2 => by by_cases w : c = i; (subst w; first | exact hV_q.n hi42 b117 | (rw [← hb4, bn_0.mp b122] at h2; cases h2) | exact absurd (of_decide_eq_true h1) (Nat.not_lt.mpr b133)); exact hst z c (by omega) h1 h2) (by omega)
                          · refine g_iload X dX9_wets_120 5 rfl ?_
                            refine g_if_eqN (tgt := 150) X dX9_wets_122 (by decide) (bn_lt _) (fun b122 => ?_) (fun b122 => ?_)
                            · refine g_iinc (v := nI (i + 1)) (lv' := [(4, .int (nI (i + 1))), (0, .ref m), (1, .int (nI lv)), (2, .int (nI (cB V_q 42))), (3, .int (nI (cB V_p 42))), (5, .int (nI (bn z))), (6, .int (nI 4))]) X dX9_wets_150 4 rfl (nI_inc _) (by decide) rfl ?_
                              refine g_goto (tgt := 36) X dX9_wets_153 (by decide) ?_
                              refine g_lv (lv' := [(0, .ref m), (1, .int (nI lv)), (2, .int (nI (cB V_q 42))), (3, .int (nI (cB V_p 42))), (4, .int (nI (i + 1)))]) [1, 2, 3, 4, 0] rfl ?_
                              exact ih36 (i + 1) A_q V_q (by omega) (hV_q) (hS_q) (hge) (fun z c hc h1 h2 => by by_cases w : c = i; (subst w; first | exact hV_q.n hi42 b117 | (rw [← hb4, bn_0.mp b122] at h2; cases h2) | exact absurd (of_decide_eq_true h1) (Nat.not_lt.mpr b133)); exact hst z c (by omega) h1 h2) (by omega)
                            · refine g_aload_n X dX9_wets_125 rfl 0 rfl ?_
                              refine g_getf (T := TX9) (v := .ref mh) X dX9_wets_126 0 rfl rfl in_X9_wets_X9 0 (by decide) (by decide +kernel) rfl rfl ?_
                              refine g_iload X dX9_wets_129 4 rfl ?_
                              refine g_ialdN (v := nI (h i)) X dX9_wets_131 2 0 rfl rfl (by omega) (by omega) (hH i hi42) ?_
                              refine g_iload_n X dX9_wets_132 rfl 1 rfl ?_
                              refine g_icmp_ltN (tgt := 139) X dX9_wets_133 (by decide) (hb i hi42) hlv (fun b133 => ?_) (fun b133 => ?_)
                              · have hv0 : V_q i = false := (hV_q.z hi42).mp b117
                                refine g_aload_n X dX9_wets_139 rfl 0 rfl ?_
                                refine g_getf (T := TX9) (v := .ref mV) X dX9_wets_140 0 rfl rfl in_X9_wets_X9 10 (by decide) (by decide +kernel) rfl rfl ?_
                                refine g_iload X dX9_wets_143 4 rfl ?_
                                refine g_iconst (v := nI 1) X dX9_wets_145 (by decide) ?_
                                refine g_zastN (g' := upd A_q i (nI 1)) (ws' := [(m, .inr (9, [.ref mh, .ref mg, .ref mt, .ref mf, .ref ms, .ref msT, .ref msF, .ref mgv, .ref mP, .ref mW, .ref mV, .ref mco, .ref men, .ref mnt, .int tw, .int mse, .int mbr, .int mwk, .int mns, .int mtp, .int mss])), (mV, .inl (az, 42, .inl (upd A_q i (nI 1)))), (mh, .inl (ai, 42, .inl Hm)), (mW, .inl (az, 168, .inl Wm))]) X dX9_wets_146 1 1 rfl rfl (by omega) (by omega) (rfl) (rfl) rfl ?_
                                refine g_iinc (v := nI ((cB V_q 42) + 1)) (lv' := [(2, .int (nI ((cB V_q 42) + 1))), (0, .ref m), (1, .int (nI lv)), (3, .int (nI (cB V_p 42))), (4, .int (nI i)), (5, .int (nI (bn z))), (6, .int (nI 4))]) X dX9_wets_147 2 rfl (nI_inc _) (by decide) rfl ?_
                                refine g_lv (lv' := [(2, .int (nI (cB (adB V_q i) 42))), (0, .ref m), (1, .int (nI lv)), (3, .int (nI (cB V_p 42))), (4, .int (nI i)), (5, .int (nI (bn z))), (6, .int (nI 4))]) [0, 1, 2, 3, 4, 5, 6] (by rw [cB_ad hv0 hi42]; rfl) ?_
                                refine g_iinc (v := nI (i + 1)) (lv' := [(4, .int (nI (i + 1))), (2, .int (nI (cB (adB V_q i) 42))), (0, .ref m), (1, .int (nI lv)), (3, .int (nI (cB V_p 42))), (5, .int (nI (bn z))), (6, .int (nI 4))]) X dX9_wets_150 4 rfl (nI_inc _) (by decide) rfl ?_
                                refine g_goto (tgt := 36) X dX9_wets_153 (by decide) ?_
                                refine g_lv (lv' := [(0, .ref m), (1, .int (nI lv)), (2, .int (nI (cB (adB V_q i) 42))), (3, .int (nI (cB V_p 42))), (4, .int (nI (i + 1)))]) [2, 3, 1, 4, 0] rfl ?_
                                exact ih36 (i + 1) (upd A_q i (nI 1)) (adB V_q i) (by omega) (hV_q.ad) (soak_snd hS_q rfl (decide_eq_true b133) (by rw [← hb4]; exact bn_n.mp b122)) (by rw [cB_ad hv0 hi42]; omega) (fun z => by rw [cB_ad hv0 hi42] at z; omega) (by omega)
                              · refine g_goto (tgt := 150) X dX9_wets_136 (by decide) ?_
                                refine g_iinc (v := nI (i + 1)) (lv' := [(4, .int (nI (i + 1))), (0, .ref m), (1, .int (nI lv)), (2, .int (nI (cB V_q 42))), (3, .int (nI (cB V_p 42))), (5, .int (nI (bn z))), (6, .int (nI 4))]) X dX9_wets_150 4 rfl (nI_inc _) (by decide) rfl ?_
                                refine g_goto (tgt := 36) X dX9_wets_153 (by decide) ?_
                                refine g_lv (lv' := [(0, .ref m), (1, .int (nI lv)), (2, .int (nI (cB V_q 42))), (3, .int (nI (cB V_p 42))), (4, .int (nI (i + 1)))]) [1, 2, 3, 4, 0] rfl ?_
                                exact ih36 (i + 1) A_q V_q (by omega) (hV_q) (hS_q) (hge) (fun z c hc h1 h2 => by by_cases w : c = i; (subst w; first | exact hV_q.n hi42 b117 | (rw [← hb4, bn_0.mp b122] at h2; cases h2) | exact absurd (of_decide_eq_true h1) (Nat.not_lt.mpr b133)); exact hst z c (by omega) h1 h2) (by omega)
                        · have hj4 : j < 4 := by omega
                          refine g_iload X dX9_wets_55 5 rfl ?_
                          refine g_if_neN (tgt := 97) X dX9_wets_57 (by decide) (bn_lt _) (fun b57 => ?_) (fun b57 => ?_)
                          · refine g_iconst (v := nI 1) X dX9_wets_97 (by decide) ?_
                            refine g_goto (tgt := 102) X dX9_wets_98 (by decide) ?_
                            refine g_istore (lv' := [(5, .int (nI 1)), (0, .ref m), (1, .int (nI lv)), (2, .int (nI (cB V_q 42))), (3, .int (nI (cB V_p 42))), (4, .int (nI i)), (6, .int (nI j))]) X dX9_wets_102 (by decide) rfl ?_
                            refine g_iinc (v := nI (j + 1)) (lv' := [(6, .int (nI (j + 1))), (5, .int (nI 1)), (0, .ref m), (1, .int (nI lv)), (2, .int (nI (cB V_q 42))), (3, .int (nI (cB V_p 42))), (4, .int (nI i))]) X dX9_wets_104 6 rfl (nI_inc _) (by decide) rfl ?_
                            refine g_goto (tgt := 49) X dX9_wets_107 (by decide) ?_
                            refine g_lv (lv' := [(0, .ref m), (1, .int (nI lv)), (2, .int (nI (cB V_q 42))), (3, .int (nI (cB V_p 42))), (4, .int (nI i)), (5, .int (nI 1)), (6, .int (nI (j + 1)))]) [2, 3, 4, 5, 6, 1, 0] rfl ?_
                            exact ih49 (j + 1) true (by omega) (by first
              | exact (bsN_y (hz.symm.trans (bn_n.mp b57))).symm
              | exact (bsN_i (bs1_sea ((hW.op hi42 hj4 (of_decide_eq_true (bn_n.mp b68))).trans ((cd_m1 (bN_le hi42)).mp b79)))).symm
              | exact (bsN_i ((bs1_v hq).trans (hV_q.n hq b94))).symm
              | exact (bsN_n (hz.symm.trans (bn_0.mp b57)) (bs1_shut (Classical.byContradiction (of_decide_eq_false (bn_0.mp b68))))).symm
              | exact (bsN_n (hz.symm.trans (bn_0.mp b57)) ((bs1_v hq).trans ((hV_q.z hq).mp b94))).symm) (by omega)
                          · refine g_aload_n X dX9_wets_60 rfl 0 rfl ?_
                            refine g_iload X dX9_wets_61 4 rfl ?_
                            refine g_iload X dX9_wets_63 6 rfl ?_
                            refine g_callVi (C := RX9) (As := [.int (nI i), .int (nI j)]) (rest := []) (wr := [(mV, .inl (az, 42, .inl A_q)), (mh, .inl (ai, 42, .inl Hm))]) X dX9_wets_65 (c_X9_isOpen l D ai az al m mh mg mt mf ms msT msF mgv mP mW mV mco men mnt tw mse mbr mwk mns mtp mss Wm nb i j (hi42) (hj4) (hW) (hWm)) gX9_wets_X9_isOpen rfl rfl ok_X9_isOpen rfl rfl (by decide) ⟨by decide, by decide⟩ (Nat.le_of_ble_eq_true rfl) [0, 3] [1, 2] ⟨rfl, by decide, rfl, by decide, by decide⟩ 0 rfl rfl rfl (fun r1 u hp => ?_)
                            obtain rfl := hp
                            refine g_sub (k := 0) (n := 0) (ws' := [(m, .inr (9, [.ref mh, .ref mg, .ref mt, .ref mf, .ref ms, .ref msT, .ref msF, .ref mgv, .ref mP, .ref mW, .ref mV, .ref mco, .ref men, .ref mnt, .int tw, .int mse, .int mbr, .int mwk, .int mns, .int mtp, .int mss])), (mV, .inl (az, 42, .inl A_q)), (mh, .inl (ai, 42, .inl Hm)), (mW, .inl (az, 168, .inl Wm))]) [2, 0, 1, 3] (by decide) rfl ?_
                            refine g_if_eqN (tgt := 101) X dX9_wets_68 (by decide) (bn_lt _) (fun b68 => ?_) (fun b68 => ?_)
                            · refine g_iconst (v := nI 0) X dX9_wets_101 (by decide) ?_
                              refine g_istore (lv' := [(5, .int (nI 0)), (0, .ref m), (1, .int (nI lv)), (2, .int (nI (cB V_q 42))), (3, .int (nI (cB V_p 42))), (4, .int (nI i)), (6, .int (nI j))]) X dX9_wets_102 (by decide) rfl ?_
                              refine g_iinc (v := nI (j + 1)) (lv' := [(6, .int (nI (j + 1))), (5, .int (nI 0)), (0, .ref m), (1, .int (nI lv)), (2, .int (nI (cB V_q 42))), (3, .int (nI (cB V_p 42))), (4, .int (nI i))]) X dX9_wets_104 6 rfl (nI_inc _) (by decide) rfl ?_
                              refine g_goto (tgt := 49) X dX9_wets_107 (by decide) ?_
                              refine g_lv (lv' := [(0, .ref m), (1, .int (nI lv)), (2, .int (nI (cB V_q 42))), (3, .int (nI (cB V_p 42))), (4, .int (nI i)), (5, .int (nI 0)), (6, .int (nI (j + 1)))]) [2, 3, 4, 5, 6, 1, 0] rfl ?_
                              exact ih49 (j + 1) false (by omega) (by first
              | exact (bsN_y (hz.symm.trans (bn_n.mp b57))).symm
              | exact (bsN_i (bs1_sea ((hW.op hi42 hj4 (of_decide_eq_true (bn_n.mp b68))).trans ((cd_m1 (bN_le hi42)).mp b79)))).symm
              | exact (bsN_i ((bs1_v hq).trans (hV_q.n hq b94))).symm
              | exact (bsN_n (hz.symm.trans (bn_0.mp b57)) (bs1_shut (Classical.byContradiction (of_decide_eq_false (bn_0.mp b68))))).symm
              | exact (bsN_n (hz.symm.trans (bn_0.mp b57)) ((bs1_v hq).trans ((hV_q.z hq).mp b94))).symm) (by omega)
                            · refine g_iload X dX9_wets_71 4 rfl ?_
                              refine g_iload X dX9_wets_73 6 rfl ?_
                              refine g_callSi (As := [.int (nI i), .int (nI j)]) (rest := []) (wr := [(m, .inr (9, [.ref mh, .ref mg, .ref mt, .ref mf, .ref ms, .ref msT, .ref msF, .ref mgv, .ref mP, .ref mW, .ref mV, .ref mco, .ref men, .ref mnt, .int tw, .int mse, .int mbr, .int mwk, .int mns, .int mtp, .int mss])), (mV, .inl (az, 42, .inl A_q)), (mh, .inl (ai, 42, .inl Hm)), (mW, .inl (az, 168, .inl Wm))]) X dX9_wets_75 (c_X9_behind l D ai az al i j (hi42) (hj4)) gX9_wets_X9_behind rfl rfl ok_X9_behind rfl rfl (by decide) ⟨by decide, by decide⟩ (Nat.le_of_ble_eq_true rfl) [] [0, 1, 2, 3] ⟨rfl, by decide, rfl, by decide, by decide⟩ (fun r2 u hp => ?_)
                              obtain rfl := hp
                              refine g_sub (k := 0) (n := 0) (ws' := [(m, .inr (9, [.ref mh, .ref mg, .ref mt, .ref mf, .ref ms, .ref msT, .ref msF, .ref mgv, .ref mP, .ref mW, .ref mV, .ref mco, .ref men, .ref mnt, .int tw, .int mse, .int mbr, .int mwk, .int mns, .int mtp, .int mss])), (mV, .inl (az, 42, .inl A_q)), (mh, .inl (ai, 42, .inl Hm)), (mW, .inl (az, 168, .inl Wm))]) [0, 1, 2, 3] (by decide) rfl ?_
                              refine g_iconst (v := (-1)) X dX9_wets_78 (by decide) ?_
                              refine g_icmp_eq (tgt := 97) X dX9_wets_79 (by decide) (fun b79 => ?_) (fun b79 => ?_)
                              · refine g_iconst (v := nI 1) X dX9_wets_97 (by decide) ?_
                                refine g_goto (tgt := 102) X dX9_wets_98 (by decide) ?_
                                refine g_istore (lv' := [(5, .int (nI 1)), (0, .ref m), (1, .int (nI lv)), (2, .int (nI (cB V_q 42))), (3, .int (nI (cB V_p 42))), (4, .int (nI i)), (6, .int (nI j))]) X dX9_wets_102 (by decide) rfl ?_
                                refine g_iinc (v := nI (j + 1)) (lv' := [(6, .int (nI (j + 1))), (5, .int (nI 1)), (0, .ref m), (1, .int (nI lv)), (2, .int (nI (cB V_q 42))), (3, .int (nI (cB V_p 42))), (4, .int (nI i))]) X dX9_wets_104 6 rfl (nI_inc _) (by decide) rfl ?_
                                refine g_goto (tgt := 49) X dX9_wets_107 (by decide) ?_
                                refine g_lv (lv' := [(0, .ref m), (1, .int (nI lv)), (2, .int (nI (cB V_q 42))), (3, .int (nI (cB V_p 42))), (4, .int (nI i)), (5, .int (nI 1)), (6, .int (nI (j + 1)))]) [2, 3, 4, 5, 6, 1, 0] rfl ?_
                                exact ih49 (j + 1) true (by omega) (by first
              | exact (bsN_y (hz.symm.trans (bn_n.mp b57))).symm
              | exact (bsN_i (bs1_sea ((hW.op hi42 hj4 (of_decide_eq_true (bn_n.mp b68))).trans ((cd_m1 (bN_le hi42)).mp b79)))).symm
              | exact (bsN_i ((bs1_v hq).trans (hV_q.n hq b94))).symm
              | exact (bsN_n (hz.symm.trans (bn_0.mp b57)) (bs1_shut (Classical.byContradiction (of_decide_eq_false (bn_0.mp b68))))).symm
              | exact (bsN_n (hz.symm.trans (bn_0.mp b57)) ((bs1_v hq).trans ((hV_q.z hq).mp b94))).symm) (by omega)
                              · have hop : ¬ nb i j = 43 := of_decide_eq_true (bn_n.mp b68)
                                have hob := hW.op hi42 hj4 hop
                                have hq : nb i j < 42 := by have w : ¬ bN i j = 42 := (fun z => b79 ((cd_m1 (bN_le hi42)).mpr z)); have w2 := bN_le (s := j) hi42; omega
                                refine g_aload_n X dX9_wets_82 rfl 0 rfl ?_
                                refine g_getf (T := TX9) (v := .ref mV) X dX9_wets_83 0 rfl rfl in_X9_wets_X9 10 (by decide) (by decide +kernel) rfl rfl ?_
                                refine g_iload X dX9_wets_86 4 rfl ?_
                                refine g_iload X dX9_wets_88 6 rfl ?_
                                refine g_callSi (As := [.int (nI i), .int (nI j)]) (rest := [.ref mV]) (wr := [(m, .inr (9, [.ref mh, .ref mg, .ref mt, .ref mf, .ref ms, .ref msT, .ref msF, .ref mgv, .ref mP, .ref mW, .ref mV, .ref mco, .ref men, .ref mnt, .int tw, .int mse, .int mbr, .int mwk, .int mns, .int mtp, .int mss])), (mV, .inl (az, 42, .inl A_q)), (mh, .inl (ai, 42, .inl Hm)), (mW, .inl (az, 168, .inl Wm))]) X dX9_wets_90 (c_X9_behind l D ai az al i j (hi42) (hj4)) gX9_wets_X9_behind rfl rfl ok_X9_behind rfl rfl (by decide) ⟨by decide, by decide⟩ (Nat.le_of_ble_eq_true rfl) [] [0, 1, 2, 3] ⟨rfl, by decide, rfl, by decide, by decide⟩ (fun r3 u hp => ?_)
                                obtain rfl := hp
                                refine g_sub (k := 0) (n := 0) (ws' := [(m, .inr (9, [.ref mh, .ref mg, .ref mt, .ref mf, .ref ms, .ref msT, .ref msF, .ref mgv, .ref mP, .ref mW, .ref mV, .ref mco, .ref men, .ref mnt, .int tw, .int mse, .int mbr, .int mwk, .int mns, .int mtp, .int mss])), (mV, .inl (az, 42, .inl A_q)), (mh, .inl (ai, 42, .inl Hm)), (mW, .inl (az, 168, .inl Wm))]) [0, 1, 2, 3] (by decide) rfl ?_
                                rw [show cd (bN i j) = nI (nb i j) by rw [← hob]; exact cd_lt hq]
                                refine g_zaldN (v := (A_q (nb i j))) X dX9_wets_93 1 1 rfl rfl (by omega) (by omega) (rfl) ?_
                                refine g_if_eq (tgt := 101) X dX9_wets_94 (by decide) (fun b94 => ?_) (fun b94 => ?_)
                                · refine g_iconst (v := nI 0) X dX9_wets_101 (by decide) ?_
                                  refine g_istore (lv' := [(5, .int (nI 0)), (0, .ref m), (1, .int (nI lv)), (2, .int (nI (cB V_q 42))), (3, .int (nI (cB V_p 42))), (4, .int (nI i)), (6, .int (nI j))]) X dX9_wets_102 (by decide) rfl ?_
                                  refine g_iinc (v := nI (j + 1)) (lv' := [(6, .int (nI (j + 1))), (5, .int (nI 0)), (0, .ref m), (1, .int (nI lv)), (2, .int (nI (cB V_q 42))), (3, .int (nI (cB V_p 42))), (4, .int (nI i))]) X dX9_wets_104 6 rfl (nI_inc _) (by decide) rfl ?_
                                  refine g_goto (tgt := 49) X dX9_wets_107 (by decide) ?_
                                  refine g_lv (lv' := [(0, .ref m), (1, .int (nI lv)), (2, .int (nI (cB V_q 42))), (3, .int (nI (cB V_p 42))), (4, .int (nI i)), (5, .int (nI 0)), (6, .int (nI (j + 1)))]) [2, 3, 4, 5, 6, 1, 0] rfl ?_
                                  exact ih49 (j + 1) false (by omega) (by first
              | exact (bsN_y (hz.symm.trans (bn_n.mp b57))).symm
              | exact (bsN_i (bs1_sea ((hW.op hi42 hj4 (of_decide_eq_true (bn_n.mp b68))).trans ((cd_m1 (bN_le hi42)).mp b79)))).symm
              | exact (bsN_i ((bs1_v hq).trans (hV_q.n hq b94))).symm
              | exact (bsN_n (hz.symm.trans (bn_0.mp b57)) (bs1_shut (Classical.byContradiction (of_decide_eq_false (bn_0.mp b68))))).symm
              | exact (bsN_n (hz.symm.trans (bn_0.mp b57)) ((bs1_v hq).trans ((hV_q.z hq).mp b94))).symm) (by omega)
                                · refine g_iconst (v := nI 1) X dX9_wets_97 (by decide) ?_
                                  refine g_goto (tgt := 102) X dX9_wets_98 (by decide) ?_
                                  refine g_istore (lv' := [(5, .int (nI 1)), (0, .ref m), (1, .int (nI lv)), (2, .int (nI (cB V_q 42))), (3, .int (nI (cB V_p 42))), (4, .int (nI i)), (6, .int (nI j))]) X dX9_wets_102 (by decide) rfl ?_
                                  refine g_iinc (v := nI (j + 1)) (lv' := [(6, .int (nI (j + 1))), (5, .int (nI 1)), (0, .ref m), (1, .int (nI lv)), (2, .int (nI (cB V_q 42))), (3, .int (nI (cB V_p 42))), (4, .int (nI i))]) X dX9_wets_104 6 rfl (nI_inc _) (by decide) rfl ?_
                                  refine g_goto (tgt := 49) X dX9_wets_107 (by decide) ?_
                                  refine g_lv (lv' := [(0, .ref m), (1, .int (nI lv)), (2, .int (nI (cB V_q 42))), (3, .int (nI (cB V_p 42))), (4, .int (nI i)), (5, .int (nI 1)), (6, .int (nI (j + 1)))]) [2, 3, 4, 5, 6, 1, 0] rfl ?_
                                  exact ih49 (j + 1) true (by omega) (by first
              | exact (bsN_y (hz.symm.trans (bn_n.mp b57))).symm
              | exact (bsN_i (bs1_sea ((hW.op hi42 hj4 (of_decide_eq_true (bn_n.mp b68))).trans ((cd_m1 (bN_le hi42)).mp b79)))).symm
              | exact (bsN_i ((bs1_v hq).trans (hV_q.n hq b94))).symm
              | exact (bsN_n (hz.symm.trans (bn_0.mp b57)) (bs1_shut (Classical.byContradiction (of_decide_eq_false (bn_0.mp b68))))).symm
              | exact (bsN_n (hz.symm.trans (bn_0.mp b57)) ((bs1_v hq).trans ((hV_q.z hq).mp b94))).symm) (by omega)
                    refine g_lv (lv' := [(0, .ref m), (1, .int (nI lv)), (2, .int (nI (cB V_q 42))), (3, .int (nI (cB V_p 42))), (4, .int (nI i)), (5, .int (nI 0)), (6, .int (nI 0))]) [2, 3, 4, 5, 6, 1, 0] rfl ?_
                    exact L49 5 0 false (by decide) (rfl) (by decide)
              refine g_lv (lv' := [(0, .ref m), (1, .int (nI lv)), (2, .int (nI (cB V_p 42))), (3, .int (nI (cB V_p 42))), (4, .int (nI 0))]) [2, 3, 4, 1, 0] rfl ?_
              exact L36 43 0 A_p V_p (by decide) (hV_p) (hS_p) (Nat.le_refl _) (fun _ c hc => absurd hc (by omega)) (by decide)
        refine g_lv (lv' := [(0, .ref m), (1, .int (nI lv)), (2, .int (nI 0)), (3, .int (-2))]) [2, 3, 1, 0] rfl ?_
        exact L26 44 (-2) (fun _ => 0) (fun _ => false) (fun c _ => rfl) (fun c _ q => by cases q) (fun z => absurd z (by decide)) (Or.inl (by omega))
      · refine g_aload_n X dX9_wets_8 rfl 0 rfl ?_
        refine g_getf (T := TX9) (v := .ref mV) X dX9_wets_9 0 rfl rfl in_X9_wets_X9 10 (by decide) (by decide +kernel) rfl rfl ?_
        refine g_iload_n X dX9_wets_12 rfl 2 rfl ?_
        refine g_iconst (v := nI 0) X dX9_wets_13 (by decide) ?_
        refine g_zastN (g' := upd A0 k0 (nI 0)) (ws' := [(m, .inr (9, [.ref mh, .ref mg, .ref mt, .ref mf, .ref ms, .ref msT, .ref msF, .ref mgv, .ref mP, .ref mW, .ref mV, .ref mco, .ref men, .ref mnt, .int tw, .int mse, .int mbr, .int mwk, .int mns, .int mtp, .int mss])), (mV, .inl (az, 42, .inl (upd A0 k0 (nI 0)))), (mh, .inl (ai, 42, .inl Hm)), (mW, .inl (az, 168, .inl Wm))]) X dX9_wets_14 1 1 rfl rfl (by omega) (by omega) (rfl) (rfl) rfl ?_
        refine g_iinc (v := nI (k0 + 1)) (lv' := [(2, .int (nI (k0 + 1))), (0, .ref m), (1, .int (nI lv))]) X dX9_wets_15 2 rfl (nI_inc _) (by decide) rfl ?_
        refine g_goto (tgt := 2) X dX9_wets_18 (by decide) ?_
        refine g_lv (lv' := [(0, .ref m), (1, .int (nI lv)), (2, .int (nI (k0 + 1)))]) [1, 2, 0] rfl ?_
        exact ih2 (k0 + 1) (upd A0 k0 (nI 0)) (by omega) (agree_upd hA0 rfl) (by omega)
  refine g_lv (lv' := [(0, .ref m), (1, .int (nI lv)), (2, .int (nI 0))]) [1, 2, 0] rfl ?_
  exact L2 43 0 Am (by decide) (fun j hj => absurd hj (by omega)) (by decide)
