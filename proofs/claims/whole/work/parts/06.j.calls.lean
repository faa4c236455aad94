/-! small facts for the model's answers -/
def sbF (F : Nat → Int32) (b : Nat) (z : Int32) : Nat → Int32
  | 0 => z
  | j + 1 => sbF F b z j - F (b + j)
theorem rg_abs {a b : Nat} (ha : a < 2 ^ 30) (hb : b < 2 ^ 30) : (0 ≤ nI a - nI b → nI a - nI b = nI (dfN a b)) ∧ (¬ 0 ≤ nI a - nI b → -(nI a - nI b) = nI (dfN a b)) := by
  have e := abs_nI ha hb
  refine ⟨fun q => ?_, fun q => ?_⟩
  · rw [if_pos q] at e; exact e
  · rw [if_neg q, Int32.zero_sub] at e; exact e
theorem cB_pos {W : Nat → Bool} {n d : Nat} (hd : d < n) (h : W d = true) : 0 < cB W n := by
  have q := sN_one (f := fun c => bn (W c)) hd
  have e : bn (W d) = 1 := by rw [h]; rfl
  show 0 < sN (fun c => bn (W c)) n
  have q2 : bn (W d) ≤ sN (fun c => bn (W c)) n := q
  omega
set_option maxRecDepth 100000 in
set_option maxHeartbeats 4000000 in
theorem c_X9_atI (l : Launch) (D : va_G) (ai az al : ClassId) (p0 : Int32) (p1 : Int32) : CI l D (tY ai az al) yX9_at wsX9_at { frames := 0, cells := 0, slots := 0, locals := 0 } [.int p0, .int p1] [] (fun (r : Int32) (u : Unit) => r = (nI 6 * p1 + p0)) (fun (u : Unit) => []) := by
  refine ofG_I (cc := cX9_at) (nL := 2) (lv0 := [(0, .int p0), (1, .int p1)]) (by decide) rfl (Nat.le_of_ble_eq_true rfl) rfl ?_
  intro Γ X E
  refine g_bipush (v := nI 6) X dX9_at_0 (by decide) ?_
  refine g_iload_n X dX9_at_2 rfl 1 rfl ?_
  refine g_imul (v := (nI 6 * p1)) X dX9_at_3 (rfl) ?_
  refine g_iload_n X dX9_at_4 rfl 0 rfl ?_
  refine g_iadd (v := ((nI 6 * p1) + p0)) X dX9_at_5 (rfl) ?_
  exact g_iret X E dX9_at_6 () rfl (by decide) (by decide) (rfl)

theorem ok_X9_isClosed : okName yX9_isClosed 3 := by decide +kernel
theorem in_X9_isClosed_X9 : ∀ w ∈ u_ws RX9 TX9 21, w ∈ wsX9_isClosed := by decide +kernel
set_option maxRecDepth 100000 in
set_option maxHeartbeats 4000000 in
theorem c_X9_isClosed1 (l : Launch) (D : va_G) (ai az al : ClassId) (m : Nat) (mh : Nat) (mg : Nat) (mt : Nat) (mf : Nat) (ms : Nat) (msT : Nat) (msF : Nat) (mgv : Nat) (mP : Nat) (mW : Nat) (mV : Nat) (mco : Nat) (men : Nat) (mnt : Nat) (tw : Int32) (mse : Int32) (mbr : Int32) (mwk : Int32) (mns : Int32) (mtp : Int32) (mss : Int32) (p0 : Int32) (p1 : Int32) (p2 : Int32) (hq : ¬ CP p0 p1) : CI l D (tY ai az al) yX9_isClosed wsX9_isClosed { frames := 3, cells := 0, slots := 0, locals := 66 } [.ref m, .int p0, .int p1, .int p2] [(m, .inr (9, [.ref mh, .ref mg, .ref mt, .ref mf, .ref ms, .ref msT, .ref msF, .ref mgv, .ref mP, .ref mW, .ref mV, .ref mco, .ref men, .ref mnt, .int tw, .int mse, .int mbr, .int mwk, .int mns, .int mtp, .int mss]))] (fun (r : Int32) (u : Unit) => r = nI 0) (fun (u : Unit) => [(m, .inr (9, [.ref mh, .ref mg, .ref mt, .ref mf, .ref ms, .ref msT, .ref msF, .ref mgv, .ref mP, .ref mW, .ref mV, .ref mco, .ref men, .ref mnt, .int (nI 1), .int mse, .int mbr, .int mwk, .int mns, .int mtp, .int mss]))]) := by
  refine ofG_I (cc := cX9_isClosed) (nL := 4) (lv0 := [(0, .ref m), (1, .int p0), (2, .int p1), (3, .int p2)]) (by decide) rfl (Nat.le_of_ble_eq_true rfl) rfl ?_
  intro Γ X E
  refine g_aload_n X dX9_isClosed_0 rfl 0 rfl ?_
  refine g_aload_n X dX9_isClosed_1 rfl 0 rfl ?_
  refine g_iload_n X dX9_isClosed_2 rfl 1 rfl ?_
  refine g_iload_n X dX9_isClosed_3 rfl 2 rfl ?_
  refine g_iload_n X dX9_isClosed_4 rfl 3 rfl ?_
  refine g_callVi (C := RX9) (As := [.int p0, .int p1, .int p2]) (rest := [.ref m]) (wr := []) X dX9_isClosed_5 (c_X9_wrongSide1 l D ai az al m mh mg mt mf ms msT msF mgv mP mW mV mco men mnt tw mse mbr mwk mns mtp mss p0 p1 p2 (hq)) gX9_isClosed_X9_wrongSide rfl rfl ok_X9_wrongSide rfl rfl (by decide) ⟨by decide, by decide⟩ (Nat.le_of_ble_eq_true rfl) [0] [] ⟨rfl, by decide, rfl, by decide, by decide⟩ 0 rfl rfl rfl (fun r1 u hp => ?_)
  obtain rfl := hp
  refine g_sub (k := 0) (n := 0) (ws' := [(m, .inr (9, [.ref mh, .ref mg, .ref mt, .ref mf, .ref ms, .ref msT, .ref msF, .ref mgv, .ref mP, .ref mW, .ref mV, .ref mco, .ref men, .ref mnt, .int tw, .int mse, .int mbr, .int mwk, .int mns, .int mtp, .int mss]))]) [0] (by decide) rfl ?_
  refine g_putf (T := TX9) (v := .int (nI 1)) (ty := tyX9 14) (ws' := [(m, .inr (9, [.ref mh, .ref mg, .ref mt, .ref mf, .ref ms, .ref msT, .ref msF, .ref mgv, .ref mP, .ref mW, .ref mV, .ref mco, .ref men, .ref mnt, .int (nI 1), .int mse, .int mbr, .int mwk, .int mns, .int mtp, .int mss]))]) X dX9_isClosed_8 0 rfl rfl in_X9_isClosed_X9 tyX9 tyX9_ok nmX9 14 (by decide) (by decide +kernel) rfl rfl (by decide +kernel) rfl rfl (Nat.le_of_ble_eq_true rfl) rfl ?_
  refine g_aload_n X dX9_isClosed_11 rfl 0 rfl ?_
  refine g_getf (T := TX9) (v := .int (nI 1)) X dX9_isClosed_12 0 rfl rfl in_X9_isClosed_X9 14 (by decide) (by decide +kernel) rfl rfl ?_
  refine g_if_neN (tgt := 38) X dX9_isClosed_15 (by decide) (by decide) (fun b15x => ?_) (fun b15x => False.elim (by revert b15x; decide))
  refine g_iconst (v := nI 0) X dX9_isClosed_38 (by decide) ?_
  exact g_zret X E dX9_isClosed_39 () rfl (by decide) (by decide) (rfl) (rfl)

set_option maxRecDepth 100000 in
set_option maxHeartbeats 4000000 in
theorem c_X9_isClosed2 (l : Launch) (D : va_G) (ai az al : ClassId) (m : Nat) (mh : Nat) (mg : Nat) (mt : Nat) (mf : Nat) (ms : Nat) (msT : Nat) (msF : Nat) (mgv : Nat) (mP : Nat) (mW : Nat) (mV : Nat) (mco : Nat) (men : Nat) (mnt : Nat) (tw : Int32) (mse : Int32) (mbr : Int32) (mwk : Int32) (mns : Int32) (mtp : Int32) (mss : Int32) (p0 : Int32) (p1 : Int32) (p2 : Int32) (hq : CP p0 p1) (hq2 : ¬ isSd p2) : CI l D (tY ai az al) yX9_isClosed wsX9_isClosed { frames := 3, cells := 0, slots := 0, locals := 66 } [.ref m, .int p0, .int p1, .int p2] [(m, .inr (9, [.ref mh, .ref mg, .ref mt, .ref mf, .ref ms, .ref msT, .ref msF, .ref mgv, .ref mP, .ref mW, .ref mV, .ref mco, .ref men, .ref mnt, .int tw, .int mse, .int mbr, .int mwk, .int mns, .int mtp, .int mss]))] (fun (r : Int32) (u : Unit) => r = nI 0) (fun (u : Unit) => [(m, .inr (9, [.ref mh, .ref mg, .ref mt, .ref mf, .ref ms, .ref msT, .ref msF, .ref mgv, .ref mP, .ref mW, .ref mV, .ref mco, .ref men, .ref mnt, .int (nI 2), .int mse, .int mbr, .int mwk, .int mns, .int mtp, .int mss]))]) := by
  refine ofG_I (cc := cX9_isClosed) (nL := 4) (lv0 := [(0, .ref m), (1, .int p0), (2, .int p1), (3, .int p2)]) (by decide) rfl (Nat.le_of_ble_eq_true rfl) rfl ?_
  intro Γ X E
  refine g_aload_n X dX9_isClosed_0 rfl 0 rfl ?_
  refine g_aload_n X dX9_isClosed_1 rfl 0 rfl ?_
  refine g_iload_n X dX9_isClosed_2 rfl 1 rfl ?_
  refine g_iload_n X dX9_isClosed_3 rfl 2 rfl ?_
  refine g_iload_n X dX9_isClosed_4 rfl 3 rfl ?_
  refine g_callVi (C := RX9) (As := [.int p0, .int p1, .int p2]) (rest := [.ref m]) (wr := []) X dX9_isClosed_5 (c_X9_wrongSide2 l D ai az al m mh mg mt mf ms msT msF mgv mP mW mV mco men mnt tw mse mbr mwk mns mtp mss p0 p1 p2 (hq) (hq2)) gX9_isClosed_X9_wrongSide rfl rfl ok_X9_wrongSide rfl rfl (by decide) ⟨by decide, by decide⟩ (Nat.le_of_ble_eq_true rfl) [0] [] ⟨rfl, by decide, rfl, by decide, by decide⟩ 0 rfl rfl rfl (fun r1 u hp => ?_)
  obtain rfl := hp
  refine g_sub (k := 0) (n := 0) (ws' := [(m, .inr (9, [.ref mh, .ref mg, .ref mt, .ref mf, .ref ms, .ref msT, .ref msF, .ref mgv, .ref mP, .ref mW, .ref mV, .ref mco, .ref men, .ref mnt, .int tw, .int mse, .int mbr, .int mwk, .int mns, .int mtp, .int mss]))]) [0] (by decide) rfl ?_
  refine g_putf (T := TX9) (v := .int (nI 2)) (ty := tyX9 14) (ws' := [(m, .inr (9, [.ref mh, .ref mg, .ref mt, .ref mf, .ref ms, .ref msT, .ref msF, .ref mgv, .ref mP, .ref mW, .ref mV, .ref mco, .ref men, .ref mnt, .int (nI 2), .int mse, .int mbr, .int mwk, .int mns, .int mtp, .int mss]))]) X dX9_isClosed_8 0 rfl rfl in_X9_isClosed_X9 tyX9 tyX9_ok nmX9 14 (by decide) (by decide +kernel) rfl rfl (by decide +kernel) rfl rfl (Nat.le_of_ble_eq_true rfl) rfl ?_
  refine g_aload_n X dX9_isClosed_11 rfl 0 rfl ?_
  refine g_getf (T := TX9) (v := .int (nI 2)) X dX9_isClosed_12 0 rfl rfl in_X9_isClosed_X9 14 (by decide) (by decide +kernel) rfl rfl ?_
  refine g_if_neN (tgt := 38) X dX9_isClosed_15 (by decide) (by decide) (fun b15x => ?_) (fun b15x => False.elim (by revert b15x; decide))
  refine g_iconst (v := nI 0) X dX9_isClosed_38 (by decide) ?_
  exact g_zret X E dX9_isClosed_39 () rfl (by decide) (by decide) (rfl) (rfl)

set_option maxRecDepth 100000 in
set_option maxHeartbeats 4000000 in
theorem c_X9_isClosed0 (l : Launch) (D : va_G) (ai az al : ClassId) (m : Nat) (mh : Nat) (mg : Nat) (mt : Nat) (mf : Nat) (ms : Nat) (msT : Nat) (msF : Nat) (mgv : Nat) (mP : Nat) (mW : Nat) (mV : Nat) (mco : Nat) (men : Nat) (mnt : Nat) (tw : Int32) (mse : Int32) (mbr : Int32) (mwk : Int32) (mns : Int32) (mtp : Int32) (mss : Int32) (Wm : Nat → Int32) (nb : Nat → Nat → Nat) (x : Nat) (y : Nat) (s : Nat) (hx : x < 6) (hy : y < 7) (hs : s < 4) (hW : NW nb) (hWm : WOK Wm nb) (he : nb (y * 6 + x) s = 43) : CI l D (tY ai az al) yX9_isClosed wsX9_isClosed { frames := 3, cells := 0, slots := 0, locals := 66 } [.ref m, .int (nI x), .int (nI y), .int (sdI s)] [(m, .inr (9, [.ref mh, .ref mg, .ref mt, .ref mf, .ref ms, .ref msT, .ref msF, .ref mgv, .ref mP, .ref mW, .ref mV, .ref mco, .ref men, .ref mnt, .int tw, .int mse, .int mbr, .int mwk, .int mns, .int mtp, .int mss])), (mW, .inl (az, 168, .inl Wm))] (fun (r : Int32) (u : Unit) => r = nI 1) (fun (u : Unit) => [(m, .inr (9, [.ref mh, .ref mg, .ref mt, .ref mf, .ref ms, .ref msT, .ref msF, .ref mgv, .ref mP, .ref mW, .ref mV, .ref mco, .ref men, .ref mnt, .int (nI 0), .int mse, .int mbr, .int mwk, .int mns, .int mtp, .int mss])), (mW, .inl (az, 168, .inl Wm))]) := by
  refine ofG_I (cc := cX9_isClosed) (nL := 4) (lv0 := [(0, .ref m), (1, .int (nI x)), (2, .int (nI y)), (3, .int (sdI s))]) (by decide) rfl (Nat.le_of_ble_eq_true rfl) rfl ?_
  intro Γ X E
  refine g_aload_n X dX9_isClosed_0 rfl 0 rfl ?_
  refine g_aload_n X dX9_isClosed_1 rfl 0 rfl ?_
  refine g_iload_n X dX9_isClosed_2 rfl 1 rfl ?_
  refine g_iload_n X dX9_isClosed_3 rfl 2 rfl ?_
  refine g_iload_n X dX9_isClosed_4 rfl 3 rfl ?_
  refine g_callVi (C := RX9) (As := [.int (nI x), .int (nI y), .int (sdI s)]) (rest := [.ref m]) (wr := [(mW, .inl (az, 168, .inl Wm))]) X dX9_isClosed_5 (c_X9_wrongSide0 l D ai az al m mh mg mt mf ms msT msF mgv mP mW mV mco men mnt tw mse mbr mwk mns mtp mss (nI x) (nI y) s (CP_of hx hy) (hs)) gX9_isClosed_X9_wrongSide rfl rfl ok_X9_wrongSide rfl rfl (by decide) ⟨by decide, by decide⟩ (Nat.le_of_ble_eq_true rfl) [0] [1] ⟨rfl, by decide, rfl, by decide, by decide⟩ 0 rfl rfl rfl (fun r1 u hp => ?_)
  obtain rfl := hp
  refine g_sub (k := 0) (n := 0) (ws' := [(m, .inr (9, [.ref mh, .ref mg, .ref mt, .ref mf, .ref ms, .ref msT, .ref msF, .ref mgv, .ref mP, .ref mW, .ref mV, .ref mco, .ref men, .ref mnt, .int tw, .int mse, .int mbr, .int mwk, .int mns, .int mtp, .int mss])), (mW, .inl (az, 168, .inl Wm))]) [1, 0] (by decide) rfl ?_
  refine g_putf (T := TX9) (v := .int (nI 0)) (ty := tyX9 14) (ws' := [(m, .inr (9, [.ref mh, .ref mg, .ref mt, .ref mf, .ref ms, .ref msT, .ref msF, .ref mgv, .ref mP, .ref mW, .ref mV, .ref mco, .ref men, .ref mnt, .int (nI 0), .int mse, .int mbr, .int mwk, .int mns, .int mtp, .int mss])), (mW, .inl (az, 168, .inl Wm))]) X dX9_isClosed_8 0 rfl rfl in_X9_isClosed_X9 tyX9 tyX9_ok nmX9 14 (by decide) (by decide +kernel) rfl rfl (by decide +kernel) rfl rfl (Nat.le_of_ble_eq_true rfl) rfl ?_
  refine g_aload_n X dX9_isClosed_11 rfl 0 rfl ?_
  refine g_getf (T := TX9) (v := .int (nI 0)) X dX9_isClosed_12 0 rfl rfl in_X9_isClosed_X9 14 (by decide) (by decide +kernel) rfl rfl ?_
  refine g_if_neN (tgt := 38) X dX9_isClosed_15 (by decide) (by decide) (fun b15x => False.elim (by revert b15x; decide)) (fun b15x => ?_)
  refine g_aload_n X dX9_isClosed_18 rfl 0 rfl ?_
  refine g_iload_n X dX9_isClosed_19 rfl 1 rfl ?_
  refine g_iload_n X dX9_isClosed_20 rfl 2 rfl ?_
  refine g_callSi (As := [.int (nI x), .int (nI y)]) (rest := [.ref m]) (wr := [(m, .inr (9, [.ref mh, .ref mg, .ref mt, .ref mf, .ref ms, .ref msT, .ref msF, .ref mgv, .ref mP, .ref mW, .ref mV, .ref mco, .ref men, .ref mnt, .int (nI 0), .int mse, .int mbr, .int mwk, .int mns, .int mtp, .int mss])), (mW, .inl (az, 168, .inl Wm))]) X dX9_isClosed_21 (c_X9_at l D ai az al x y ) gX9_isClosed_X9_at rfl rfl ok_X9_at rfl rfl (by decide) ⟨by decide, by decide⟩ (Nat.le_of_ble_eq_true rfl) [] [0, 1] ⟨rfl, by decide, rfl, by decide, by decide⟩ (fun r2 u hp => ?_)
  obtain rfl := hp
  refine g_sub (k := 0) (n := 0) (ws' := [(m, .inr (9, [.ref mh, .ref mg, .ref mt, .ref mf, .ref ms, .ref msT, .ref msF, .ref mgv, .ref mP, .ref mW, .ref mV, .ref mco, .ref men, .ref mnt, .int (nI 0), .int mse, .int mbr, .int mwk, .int mns, .int mtp, .int mss])), (mW, .inl (az, 168, .inl Wm))]) [0, 1] (by decide) rfl ?_
  refine g_iload_n X dX9_isClosed_24 rfl 3 rfl ?_
  refine g_callSi (As := [.int (sdI s)]) (rest := [.int (nI (y * 6 + x)), .ref m]) (wr := [(m, .inr (9, [.ref mh, .ref mg, .ref mt, .ref mf, .ref ms, .ref msT, .ref msF, .ref mgv, .ref mP, .ref mW, .ref mV, .ref mco, .ref men, .ref mnt, .int (nI 0), .int mse, .int mbr, .int mwk, .int mns, .int mtp, .int mss])), (mW, .inl (az, 168, .inl Wm))]) X dX9_isClosed_25 (c_X9_sideOfN l D ai az al s (hs)) gX9_isClosed_X9_sideOf rfl rfl ok_X9_sideOf rfl rfl (by decide) ⟨by decide, by decide⟩ (Nat.le_of_ble_eq_true rfl) [] [0, 1] ⟨rfl, by decide, rfl, by decide, by decide⟩ (fun r3 u hp => ?_)
  obtain rfl := hp
  refine g_sub (k := 0) (n := 0) (ws' := [(m, .inr (9, [.ref mh, .ref mg, .ref mt, .ref mf, .ref ms, .ref msT, .ref msF, .ref mgv, .ref mP, .ref mW, .ref mV, .ref mco, .ref men, .ref mnt, .int (nI 0), .int mse, .int mbr, .int mwk, .int mns, .int mtp, .int mss])), (mW, .inl (az, 168, .inl Wm))]) [0, 1] (by decide) rfl ?_
  refine g_callVi (C := RX9) (As := [.int (nI (y * 6 + x)), .int (nI s)]) (rest := []) (wr := []) X dX9_isClosed_28 (c_X9_isOpen l D ai az al m mh mg mt mf ms msT msF mgv mP mW mV mco men mnt (nI 0) mse mbr mwk mns mtp mss Wm nb (y * 6 + x) s (by omega) (hs) (hW) (hWm)) gX9_isClosed_X9_isOpen rfl rfl ok_X9_isOpen rfl rfl (by decide) ⟨by decide, by decide⟩ (Nat.le_of_ble_eq_true rfl) [0, 1] [] ⟨rfl, by decide, rfl, by decide, by decide⟩ 0 rfl rfl rfl (fun r4 u hp => ?_)
  obtain rfl := hp
  refine g_sub (k := 0) (n := 0) (ws' := [(m, .inr (9, [.ref mh, .ref mg, .ref mt, .ref mf, .ref ms, .ref msT, .ref msF, .ref mgv, .ref mP, .ref mW, .ref mV, .ref mco, .ref men, .ref mnt, .int (nI 0), .int mse, .int mbr, .int mwk, .int mns, .int mtp, .int mss])), (mW, .inl (az, 168, .inl Wm))]) [0, 1] (by decide) rfl ?_
  rw [show bn (decide (nb (y * 6 + x) s ≠ 43)) = 0 from bn_0.mpr (decide_eq_false (fun q => q he))]
  refine g_if_neN (tgt := 38) X dX9_isClosed_31 (by decide) (by decide) (fun b31x => False.elim (by revert b31x; decide)) (fun b31x => ?_)
  refine g_iconst (v := nI 1) X dX9_isClosed_34 (by decide) ?_
  refine g_goto (tgt := 39) X dX9_isClosed_35 (by decide) ?_
  exact g_zret X E dX9_isClosed_39 () rfl (by decide) (by decide) (rfl) (rfl)

set_option maxRecDepth 100000 in
set_option maxHeartbeats 4000000 in
theorem c_X9_isClosed5 (l : Launch) (D : va_G) (ai az al : ClassId) (m : Nat) (mh : Nat) (mg : Nat) (mt : Nat) (mf : Nat) (ms : Nat) (msT : Nat) (msF : Nat) (mgv : Nat) (mP : Nat) (mW : Nat) (mV : Nat) (mco : Nat) (men : Nat) (mnt : Nat) (tw : Int32) (mse : Int32) (mbr : Int32) (mwk : Int32) (mns : Int32) (mtp : Int32) (mss : Int32) (Wm : Nat → Int32) (nb : Nat → Nat → Nat) (x : Nat) (y : Nat) (s : Nat) (hx : x < 6) (hy : y < 7) (hs : s < 4) (hW : NW nb) (hWm : WOK Wm nb) (he : ¬ nb (y * 6 + x) s = 43) : CI l D (tY ai az al) yX9_isClosed wsX9_isClosed { frames := 3, cells := 0, slots := 0, locals := 66 } [.ref m, .int (nI x), .int (nI y), .int (sdI s)] [(m, .inr (9, [.ref mh, .ref mg, .ref mt, .ref mf, .ref ms, .ref msT, .ref msF, .ref mgv, .ref mP, .ref mW, .ref mV, .ref mco, .ref men, .ref mnt, .int tw, .int mse, .int mbr, .int mwk, .int mns, .int mtp, .int mss])), (mW, .inl (az, 168, .inl Wm))] (fun (r : Int32) (u : Unit) => r = nI 0) (fun (u : Unit) => [(m, .inr (9, [.ref mh, .ref mg, .ref mt, .ref mf, .ref ms, .ref msT, .ref msF, .ref mgv, .ref mP, .ref mW, .ref mV, .ref mco, .ref men, .ref mnt, .int (nI 0), .int mse, .int mbr, .int mwk, .int mns, .int mtp, .int mss])), (mW, .inl (az, 168, .inl Wm))]) := by
  refine ofG_I (cc := cX9_isClosed) (nL := 4) (lv0 := [(0, .ref m), (1, .int (nI x)), (2, .int (nI y)), (3, .int (sdI s))]) (by decide) rfl (Nat.le_of_ble_eq_true rfl) rfl ?_
  intro Γ X E
  refine g_aload_n X dX9_isClosed_0 rfl 0 rfl ?_
  refine g_aload_n X dX9_isClosed_1 rfl 0 rfl ?_
  refine g_iload_n X dX9_isClosed_2 rfl 1 rfl ?_
  refine g_iload_n X dX9_isClosed_3 rfl 2 rfl ?_
  refine g_iload_n X dX9_isClosed_4 rfl 3 rfl ?_
  refine g_callVi (C := RX9) (As := [.int (nI x), .int (nI y), .int (sdI s)]) (rest := [.ref m]) (wr := [(mW, .inl (az, 168, .inl Wm))]) X dX9_isClosed_5 (c_X9_wrongSide0 l D ai az al m mh mg mt mf ms msT msF mgv mP mW mV mco men mnt tw mse mbr mwk mns mtp mss (nI x) (nI y) s (CP_of hx hy) (hs)) gX9_isClosed_X9_wrongSide rfl rfl ok_X9_wrongSide rfl rfl (by decide) ⟨by decide, by decide⟩ (Nat.le_of_ble_eq_true rfl) [0] [1] ⟨rfl, by decide, rfl, by decide, by decide⟩ 0 rfl rfl rfl (fun r1 u hp => ?_)
  obtain rfl := hp
  refine g_sub (k := 0) (n := 0) (ws' := [(m, .inr (9, [.ref mh, .ref mg, .ref mt, .ref mf, .ref ms, .ref msT, .ref msF, .ref mgv, .ref mP, .ref mW, .ref mV, .ref mco, .ref men, .ref mnt, .int tw, .int mse, .int mbr, .int mwk, .int mns, .int mtp, .int mss])), (mW, .inl (az, 168, .inl Wm))]) [1, 0] (by decide) rfl ?_
  refine g_putf (T := TX9) (v := .int (nI 0)) (ty := tyX9 14) (ws' := [(m, .inr (9, [.ref mh, .ref mg, .ref mt, .ref mf, .ref ms, .ref msT, .ref msF, .ref mgv, .ref mP, .ref mW, .ref mV, .ref mco, .ref men, .ref mnt, .int (nI 0), .int mse, .int mbr, .int mwk, .int mns, .int mtp, .int mss])), (mW, .inl (az, 168, .inl Wm))]) X dX9_isClosed_8 0 rfl rfl in_X9_isClosed_X9 tyX9 tyX9_ok nmX9 14 (by decide) (by decide +kernel) rfl rfl (by decide +kernel) rfl rfl (Nat.le_of_ble_eq_true rfl) rfl ?_
  refine g_aload_n X dX9_isClosed_11 rfl 0 rfl ?_
  refine g_getf (T := TX9) (v := .int (nI 0)) X dX9_isClosed_12 0 rfl rfl in_X9_isClosed_X9 14 (by decide) (by decide +kernel) rfl rfl ?_
  refine g_if_neN (tgt := 38) X dX9_isClosed_15 (by decide) (by decide) (fun b15x => False.elim (by revert b15x; decide)) (fun b15x => ?_)
  refine g_aload_n X dX9_isClosed_18 rfl 0 rfl ?_
  refine g_iload_n X dX9_isClosed_19 rfl 1 rfl ?_
  refine g_iload_n X dX9_isClosed_20 rfl 2 rfl ?_
  refine g_callSi (As := [.int (nI x), .int (nI y)]) (rest := [.ref m]) (wr := [(m, .inr (9, [.ref mh, .ref mg, .ref mt, .ref mf, .ref ms, .ref msT, .ref msF, .ref mgv, .ref mP, .ref mW, .ref mV, .ref mco, .ref men, .ref mnt, .int (nI 0), .int mse, .int mbr, .int mwk, .int mns, .int mtp, .int mss])), (mW, .inl (az, 168, .inl Wm))]) X dX9_isClosed_21 (c_X9_at l D ai az al x y ) gX9_isClosed_X9_at rfl rfl ok_X9_at rfl rfl (by decide) ⟨by decide, by decide⟩ (Nat.le_of_ble_eq_true rfl) [] [0, 1] ⟨rfl, by decide, rfl, by decide, by decide⟩ (fun r2 u hp => ?_)
  obtain rfl := hp
  refine g_sub (k := 0) (n := 0) (ws' := [(m, .inr (9, [.ref mh, .ref mg, .ref mt, .ref mf, .ref ms, .ref msT, .ref msF, .ref mgv, .ref mP, .ref mW, .ref mV, .ref mco, .ref men, .ref mnt, .int (nI 0), .int mse, .int mbr, .int mwk, .int mns, .int mtp, .int mss])), (mW, .inl (az, 168, .inl Wm))]) [0, 1] (by decide) rfl ?_
  refine g_iload_n X dX9_isClosed_24 rfl 3 rfl ?_
  refine g_callSi (As := [.int (sdI s)]) (rest := [.int (nI (y * 6 + x)), .ref m]) (wr := [(m, .inr (9, [.ref mh, .ref mg, .ref mt, .ref mf, .ref ms, .ref msT, .ref msF, .ref mgv, .ref mP, .ref mW, .ref mV, .ref mco, .ref men, .ref mnt, .int (nI 0), .int mse, .int mbr, .int mwk, .int mns, .int mtp, .int mss])), (mW, .inl (az, 168, .inl Wm))]) X dX9_isClosed_25 (c_X9_sideOfN l D ai az al s (hs)) gX9_isClosed_X9_sideOf rfl rfl ok_X9_sideOf rfl rfl (by decide) ⟨by decide, by decide⟩ (Nat.le_of_ble_eq_true rfl) [] [0, 1] ⟨rfl, by decide, rfl, by decide, by decide⟩ (fun r3 u hp => ?_)
  obtain rfl := hp
  refine g_sub (k := 0) (n := 0) (ws' := [(m, .inr (9, [.ref mh, .ref mg, .ref mt, .ref mf, .ref ms, .ref msT, .ref msF, .ref mgv, .ref mP, .ref mW, .ref mV, .ref mco, .ref men, .ref mnt, .int (nI 0), .int mse, .int mbr, .int mwk, .int mns, .int mtp, .int mss])), (mW, .inl (az, 168, .inl Wm))]) [0, 1] (by decide) rfl ?_
  refine g_callVi (C := RX9) (As := [.int (nI (y * 6 + x)), .int (nI s)]) (rest := []) (wr := []) X dX9_isClosed_28 (c_X9_isOpen l D ai az al m mh mg mt mf ms msT msF mgv mP mW mV mco men mnt (nI 0) mse mbr mwk mns mtp mss Wm nb (y * 6 + x) s (by omega) (hs) (hW) (hWm)) gX9_isClosed_X9_isOpen rfl rfl ok_X9_isOpen rfl rfl (by decide) ⟨by decide, by decide⟩ (Nat.le_of_ble_eq_true rfl) [0, 1] [] ⟨rfl, by decide, rfl, by decide, by decide⟩ 0 rfl rfl rfl (fun r4 u hp => ?_)
  obtain rfl := hp
  refine g_sub (k := 0) (n := 0) (ws' := [(m, .inr (9, [.ref mh, .ref mg, .ref mt, .ref mf, .ref ms, .ref msT, .ref msF, .ref mgv, .ref mP, .ref mW, .ref mV, .ref mco, .ref men, .ref mnt, .int (nI 0), .int mse, .int mbr, .int mwk, .int mns, .int mtp, .int mss])), (mW, .inl (az, 168, .inl Wm))]) [0, 1] (by decide) rfl ?_
  rw [show bn (decide (nb (y * 6 + x) s ≠ 43)) = 1 from by rw [decide_eq_true (p := nb (y * 6 + x) s ≠ 43) he]; rfl]
  refine g_if_neN (tgt := 38) X dX9_isClosed_31 (by decide) (by decide) (fun b31x => ?_) (fun b31x => False.elim (by revert b31x; decide))
  refine g_iconst (v := nI 0) X dX9_isClosed_38 (by decide) ?_
  exact g_zret X E dX9_isClosed_39 () rfl (by decide) (by decide) (rfl) (rfl)

theorem ok_X9_isPlanted : okName yX9_isPlanted 2 := by decide +kernel
set_option maxRecDepth 100000 in
set_option maxHeartbeats 4000000 in
theorem c_X9_isPlanted1 (l : Launch) (D : va_G) (ai az al : ClassId) (m : Nat) (mh : Nat) (mg : Nat) (mt : Nat) (mf : Nat) (ms : Nat) (msT : Nat) (msF : Nat) (mgv : Nat) (mP : Nat) (mW : Nat) (mV : Nat) (mco : Nat) (men : Nat) (mnt : Nat) (tw : Int32) (mse : Int32) (mbr : Int32) (mwk : Int32) (mns : Int32) (mtp : Int32) (mss : Int32) (p0 : Int32) (p1 : Int32) (hq : ¬ CP p0 p1) : CI l D (tY ai az al) yX9_isPlanted wsX9_isPlanted { frames := 2, cells := 0, slots := 0, locals := 43 } [.ref m, .int p0, .int p1] [(m, .inr (9, [.ref mh, .ref mg, .ref mt, .ref mf, .ref ms, .ref msT, .ref msF, .ref mgv, .ref mP, .ref mW, .ref mV, .ref mco, .ref men, .ref mnt, .int tw, .int mse, .int mbr, .int mwk, .int mns, .int mtp, .int mss]))] (fun (r : Int32) (u : Unit) => r = nI 0) (fun (u : Unit) => [(m, .inr (9, [.ref mh, .ref mg, .ref mt, .ref mf, .ref ms, .ref msT, .ref msF, .ref mgv, .ref mP, .ref mW, .ref mV, .ref mco, .ref men, .ref mnt, .int (nI 1), .int mse, .int mbr, .int mwk, .int mns, .int mtp, .int mss]))]) := by
  refine ofG_I (cc := cX9_isPlanted) (nL := 3) (lv0 := [(0, .ref m), (1, .int p0), (2, .int p1)]) (by decide) rfl (Nat.le_of_ble_eq_true rfl) rfl ?_
  intro Γ X E
  refine g_aload_n X dX9_isPlanted_0 rfl 0 rfl ?_
  refine g_iload_n X dX9_isPlanted_1 rfl 1 rfl ?_
  refine g_iload_n X dX9_isPlanted_2 rfl 2 rfl ?_
  refine g_callSi (As := [.int p0, .int p1]) (rest := [.ref m]) (wr := [(m, .inr (9, [.ref mh, .ref mg, .ref mt, .ref mf, .ref ms, .ref msT, .ref msF, .ref mgv, .ref mP, .ref mW, .ref mV, .ref mco, .ref men, .ref mnt, .int tw, .int mse, .int mbr, .int mwk, .int mns, .int mtp, .int mss]))]) X dX9_isPlanted_3 (c_X9_isCellF l D ai az al p0 p1 (hq)) gX9_isPlanted_X9_isCell rfl rfl ok_X9_isCell rfl rfl (by decide) ⟨by decide, by decide⟩ (Nat.le_of_ble_eq_true rfl) [] [0] ⟨rfl, by decide, rfl, by decide, by decide⟩ (fun r1 u hp => ?_)
  obtain rfl := hp
  refine g_sub (k := 0) (n := 0) (ws' := [(m, .inr (9, [.ref mh, .ref mg, .ref mt, .ref mf, .ref ms, .ref msT, .ref msF, .ref mgv, .ref mP, .ref mW, .ref mV, .ref mco, .ref men, .ref mnt, .int tw, .int mse, .int mbr, .int mwk, .int mns, .int mtp, .int mss]))]) [0] (by decide) rfl ?_
  refine g_callVi (C := RX9) (As := [.int (nI 0)]) (rest := []) (wr := []) X dX9_isPlanted_6 (c_X9_checkedF l D ai az al m mh mg mt mf ms msT msF mgv mP mW mV mco men mnt tw mse mbr mwk mns mtp mss ) gX9_isPlanted_X9_checked rfl rfl ok_X9_checked rfl rfl (by decide) ⟨by decide, by decide⟩ (Nat.le_of_ble_eq_true rfl) [0] [] ⟨rfl, by decide, rfl, by decide, by decide⟩ 0 rfl rfl rfl (fun r2 u hp => ?_)
  obtain rfl := hp
  refine g_sub (k := 0) (n := 0) (ws' := [(m, .inr (9, [.ref mh, .ref mg, .ref mt, .ref mf, .ref ms, .ref msT, .ref msF, .ref mgv, .ref mP, .ref mW, .ref mV, .ref mco, .ref men, .ref mnt, .int (nI 1), .int mse, .int mbr, .int mwk, .int mns, .int mtp, .int mss]))]) [0] (by decide) rfl ?_
  refine g_if_neN (tgt := 29) X dX9_isPlanted_9 (by decide) (by decide) (fun b9x => ?_) (fun b9x => False.elim (by revert b9x; decide))
  refine g_iconst (v := nI 0) X dX9_isPlanted_29 (by decide) ?_
  exact g_zret X E dX9_isPlanted_30 () rfl (by decide) (by decide) (rfl) (rfl)

theorem in_X9_isPlanted_X9 : ∀ w ∈ u_ws RX9 TX9 21, w ∈ wsX9_isPlanted := by decide +kernel
set_option maxRecDepth 100000 in
set_option maxHeartbeats 4000000 in
theorem c_X9_isPlanted0 (l : Launch) (D : va_G) (ai az al : ClassId) (m : Nat) (mh : Nat) (mg : Nat) (mt : Nat) (mf : Nat) (ms : Nat) (msT : Nat) (msF : Nat) (mgv : Nat) (mP : Nat) (mW : Nat) (mV : Nat) (mco : Nat) (men : Nat) (mnt : Nat) (tw : Int32) (mse : Int32) (mbr : Int32) (mwk : Int32) (mns : Int32) (mtp : Int32) (mss : Int32) (Pm : Nat → Int32) (pl : Nat → Bool) (x : Nat) (y : Nat) (hx : x < 6) (hy : y < 7) (hP : POK Pm pl) : CI l D (tY ai az al) yX9_isPlanted wsX9_isPlanted { frames := 2, cells := 0, slots := 0, locals := 43 } [.ref m, .int (nI x), .int (nI y)] [(m, .inr (9, [.ref mh, .ref mg, .ref mt, .ref mf, .ref ms, .ref msT, .ref msF, .ref mgv, .ref mP, .ref mW, .ref mV, .ref mco, .ref men, .ref mnt, .int tw, .int mse, .int mbr, .int mwk, .int mns, .int mtp, .int mss])), (mP, .inl (az, 42, .inl Pm))] (fun (r : Int32) (u : Unit) => r = nI (bn (pl (y * 6 + x)))) (fun (u : Unit) => [(m, .inr (9, [.ref mh, .ref mg, .ref mt, .ref mf, .ref ms, .ref msT, .ref msF, .ref mgv, .ref mP, .ref mW, .ref mV, .ref mco, .ref men, .ref mnt, .int (nI 0), .int mse, .int mbr, .int mwk, .int mns, .int mtp, .int mss])), (mP, .inl (az, 42, .inl Pm))]) := by
  refine ofG_I (cc := cX9_isPlanted) (nL := 3) (lv0 := [(0, .ref m), (1, .int (nI x)), (2, .int (nI y))]) (by decide) rfl (Nat.le_of_ble_eq_true rfl) rfl ?_
  intro Γ X E
  refine g_aload_n X dX9_isPlanted_0 rfl 0 rfl ?_
  refine g_iload_n X dX9_isPlanted_1 rfl 1 rfl ?_
  refine g_iload_n X dX9_isPlanted_2 rfl 2 rfl ?_
  refine g_callSi (As := [.int (nI x), .int (nI y)]) (rest := [.ref m]) (wr := [(m, .inr (9, [.ref mh, .ref mg, .ref mt, .ref mf, .ref ms, .ref msT, .ref msF, .ref mgv, .ref mP, .ref mW, .ref mV, .ref mco, .ref men, .ref mnt, .int tw, .int mse, .int mbr, .int mwk, .int mns, .int mtp, .int mss])), (mP, .inl (az, 42, .inl Pm))]) X dX9_isPlanted_3 (c_X9_isCellT l D ai az al (nI x) (nI y) (CP_of hx hy)) gX9_isPlanted_X9_isCell rfl rfl ok_X9_isCell rfl rfl (by decide) ⟨by decide, by decide⟩ (Nat.le_of_ble_eq_true rfl) [] [0, 1] ⟨rfl, by decide, rfl, by decide, by decide⟩ (fun r1 u hp => ?_)
  obtain rfl := hp
  refine g_sub (k := 0) (n := 0) (ws' := [(m, .inr (9, [.ref mh, .ref mg, .ref mt, .ref mf, .ref ms, .ref msT, .ref msF, .ref mgv, .ref mP, .ref mW, .ref mV, .ref mco, .ref men, .ref mnt, .int tw, .int mse, .int mbr, .int mwk, .int mns, .int mtp, .int mss])), (mP, .inl (az, 42, .inl Pm))]) [0, 1] (by decide) rfl ?_
  refine g_callVi (C := RX9) (As := [.int (nI 1)]) (rest := []) (wr := [(mP, .inl (az, 42, .inl Pm))]) X dX9_isPlanted_6 (c_X9_checkedT l D ai az al m mh mg mt mf ms msT msF mgv mP mW mV mco men mnt tw mse mbr mwk mns mtp mss ) gX9_isPlanted_X9_checked rfl rfl ok_X9_checked rfl rfl (by decide) ⟨by decide, by decide⟩ (Nat.le_of_ble_eq_true rfl) [0] [1] ⟨rfl, by decide, rfl, by decide, by decide⟩ 0 rfl rfl rfl (fun r2 u hp => ?_)
  obtain rfl := hp
  refine g_sub (k := 0) (n := 0) (ws' := [(m, .inr (9, [.ref mh, .ref mg, .ref mt, .ref mf, .ref ms, .ref msT, .ref msF, .ref mgv, .ref mP, .ref mW, .ref mV, .ref mco, .ref men, .ref mnt, .int (nI 0), .int mse, .int mbr, .int mwk, .int mns, .int mtp, .int mss])), (mP, .inl (az, 42, .inl Pm))]) [1, 0] (by decide) rfl ?_
  refine g_if_neN (tgt := 29) X dX9_isPlanted_9 (by decide) (by decide) (fun b9x => False.elim (by revert b9x; decide)) (fun b9x => ?_)
  refine g_aload_n X dX9_isPlanted_12 rfl 0 rfl ?_
  refine g_getf (T := TX9) (v := .ref mP) X dX9_isPlanted_13 0 rfl rfl in_X9_isPlanted_X9 8 (by decide) (by decide +kernel) rfl rfl ?_
  refine g_iload_n X dX9_isPlanted_16 rfl 1 rfl ?_
  refine g_iload_n X dX9_isPlanted_17 rfl 2 rfl ?_
  refine g_callSi (As := [.int (nI x), .int (nI y)]) (rest := [.ref mP]) (wr := [(m, .inr (9, [.ref mh, .ref mg, .ref mt, .ref mf, .ref ms, .ref msT, .ref msF, .ref mgv, .ref mP, .ref mW, .ref mV, .ref mco, .ref men, .ref mnt, .int (nI 0), .int mse, .int mbr, .int mwk, .int mns, .int mtp, .int mss])), (mP, .inl (az, 42, .inl Pm))]) X dX9_isPlanted_18 (c_X9_at l D ai az al x y ) gX9_isPlanted_X9_at rfl rfl ok_X9_at rfl rfl (by decide) ⟨by decide, by decide⟩ (Nat.le_of_ble_eq_true rfl) [] [0, 1] ⟨rfl, by decide, rfl, by decide, by decide⟩ (fun r3 u hp => ?_)
  obtain rfl := hp
  refine g_sub (k := 0) (n := 0) (ws' := [(m, .inr (9, [.ref mh, .ref mg, .ref mt, .ref mf, .ref ms, .ref msT, .ref msF, .ref mgv, .ref mP, .ref mW, .ref mV, .ref mco, .ref men, .ref mnt, .int (nI 0), .int mse, .int mbr, .int mwk, .int mns, .int mtp, .int mss])), (mP, .inl (az, 42, .inl Pm))]) [0, 1] (by decide) rfl ?_
  refine g_zaldN (v := (Pm (y * 6 + x))) X dX9_isPlanted_21 1 1 rfl rfl (by omega) (by omega) (rfl) ?_
  refine g_if_eq (tgt := 29) X dX9_isPlanted_22 (by decide) (fun b22 => ?_) (fun b22 => ?_)
  · refine g_iconst (v := nI 0) X dX9_isPlanted_29 (by decide) ?_
    exact g_zret X E dX9_isPlanted_30 () rfl (by decide) (by decide) (rfl) (by first | (rw [(hP.z (c := (y * 6 + x)) (by omega)).mp b22]; rfl) | (rw [hP.n (c := (y * 6 + x)) (by omega) b22]; rfl))
  · refine g_iconst (v := nI 1) X dX9_isPlanted_25 (by decide) ?_
    refine g_goto (tgt := 30) X dX9_isPlanted_26 (by decide) ?_
    exact g_zret X E dX9_isPlanted_30 () rfl (by decide) (by decide) (rfl) (by first | (rw [(hP.z (c := (y * 6 + x)) (by omega)).mp b22]; rfl) | (rw [hP.n (c := (y * 6 + x)) (by omega) b22]; rfl))

theorem ok_X9_addWall : okName yX9_addWall 3 := by decide +kernel
theorem in_X9_addWall_X9 : ∀ w ∈ u_ws RX9 TX9 21, w ∈ wsX9_addWall := by decide +kernel
set_option maxRecDepth 100000 in
set_option maxHeartbeats 4000000 in
theorem c_X9_addWall1 (l : Launch) (D : va_G) (ai az al : ClassId) (m : Nat) (mh : Nat) (mg : Nat) (mt : Nat) (mf : Nat) (ms : Nat) (msT : Nat) (msF : Nat) (mgv : Nat) (mP : Nat) (mW : Nat) (mV : Nat) (mco : Nat) (men : Nat) (mnt : Nat) (tw : Int32) (mse : Int32) (mbr : Int32) (mwk : Int32) (mns : Int32) (mtp : Int32) (mss : Int32) (p0 : Int32) (p1 : Int32) (p2 : Int32) (hq : ¬ CP p0 p1) : CI l D (tY ai az al) yX9_addWall wsX9_addWall { frames := 3, cells := 0, slots := 0, locals := 66 } [.ref m, .int p0, .int p1, .int p2] [(m, .inr (9, [.ref mh, .ref mg, .ref mt, .ref mf, .ref ms, .ref msT, .ref msF, .ref mgv, .ref mP, .ref mW, .ref mV, .ref mco, .ref men, .ref mnt, .int tw, .int mse, .int mbr, .int mwk, .int mns, .int mtp, .int mss]))] (fun (r : Int32) (u : Unit) => r = nI 0) (fun (u : Unit) => [(m, .inr (9, [.ref mh, .ref mg, .ref mt, .ref mf, .ref ms, .ref msT, .ref msF, .ref mgv, .ref mP, .ref mW, .ref mV, .ref mco, .ref men, .ref mnt, .int (nI 1), .int mse, .int mbr, .int mwk, .int mns, .int mtp, .int mss]))]) := by
  refine ofG_I (cc := cX9_addWall) (nL := 5) (lv0 := [(0, .ref m), (1, .int p0), (2, .int p1), (3, .int p2)]) (by decide) rfl (Nat.le_of_ble_eq_true rfl) rfl ?_
  intro Γ X E
  refine g_iload_n X dX9_addWall_0 rfl 1 rfl ?_
  refine g_iload_n X dX9_addWall_1 rfl 2 rfl ?_
  refine g_callSi (As := [.int p0, .int p1]) (rest := []) (wr := [(m, .inr (9, [.ref mh, .ref mg, .ref mt, .ref mf, .ref ms, .ref msT, .ref msF, .ref mgv, .ref mP, .ref mW, .ref mV, .ref mco, .ref men, .ref mnt, .int tw, .int mse, .int mbr, .int mwk, .int mns, .int mtp, .int mss]))]) X dX9_addWall_2 (c_X9_atI l D ai az al p0 p1 ) gX9_addWall_X9_at rfl rfl ok_X9_at rfl rfl (by decide) ⟨by decide, by decide⟩ (Nat.le_of_ble_eq_true rfl) [] [0] ⟨rfl, by decide, rfl, by decide, by decide⟩ (fun r1 u hp => ?_)
  obtain rfl := hp
  refine g_sub (k := 0) (n := 0) (ws' := [(m, .inr (9, [.ref mh, .ref mg, .ref mt, .ref mf, .ref ms, .ref msT, .ref msF, .ref mgv, .ref mP, .ref mW, .ref mV, .ref mco, .ref men, .ref mnt, .int tw, .int mse, .int mbr, .int mwk, .int mns, .int mtp, .int mss]))]) [0] (by decide) rfl ?_
  refine g_istore (lv' := [(4, .int (nI 6 * p1 + p0)), (0, .ref m), (1, .int p0), (2, .int p1), (3, .int p2)]) X dX9_addWall_5 (by decide) rfl ?_
  refine g_aload_n X dX9_addWall_7 rfl 1 rfl ?_
  refine g_aload_n X dX9_addWall_8 rfl 1 rfl ?_
  refine g_iload_n X dX9_addWall_9 rfl 2 rfl ?_
  refine g_iload_n X dX9_addWall_10 rfl 3 rfl ?_
  refine g_iload_n X dX9_addWall_11 rfl 4 rfl ?_
  refine g_callVi (C := RX9) (As := [.int p0, .int p1, .int p2]) (rest := [.ref m]) (wr := []) X dX9_addWall_12 (c_X9_wrongSide1 l D ai az al m mh mg mt mf ms msT msF mgv mP mW mV mco men mnt tw mse mbr mwk mns mtp mss p0 p1 p2 (hq)) gX9_addWall_X9_wrongSide rfl rfl ok_X9_wrongSide rfl rfl (by decide) ⟨by decide, by decide⟩ (Nat.le_of_ble_eq_true rfl) [0] [] ⟨rfl, by decide, rfl, by decide, by decide⟩ 0 rfl rfl rfl (fun r2 u hp => ?_)
  obtain rfl := hp
  refine g_sub (k := 0) (n := 0) (ws' := [(m, .inr (9, [.ref mh, .ref mg, .ref mt, .ref mf, .ref ms, .ref msT, .ref msF, .ref mgv, .ref mP, .ref mW, .ref mV, .ref mco, .ref men, .ref mnt, .int tw, .int mse, .int mbr, .int mwk, .int mns, .int mtp, .int mss]))]) [0] (by decide) rfl ?_
  refine g_putf (T := TX9) (v := .int (nI 1)) (ty := tyX9 14) (ws' := [(m, .inr (9, [.ref mh, .ref mg, .ref mt, .ref mf, .ref ms, .ref msT, .ref msF, .ref mgv, .ref mP, .ref mW, .ref mV, .ref mco, .ref men, .ref mnt, .int (nI 1), .int mse, .int mbr, .int mwk, .int mns, .int mtp, .int mss]))]) X dX9_addWall_15 0 rfl rfl in_X9_addWall_X9 tyX9 tyX9_ok nmX9 14 (by decide) (by decide +kernel) rfl rfl (by decide +kernel) rfl rfl (Nat.le_of_ble_eq_true rfl) rfl ?_
  refine g_aload_n X dX9_addWall_18 rfl 1 rfl ?_
  refine g_getf (T := TX9) (v := .int (nI 1)) X dX9_addWall_19 0 rfl rfl in_X9_addWall_X9 14 (by decide) (by decide +kernel) rfl rfl ?_
  refine g_if_neN (tgt := 43) X dX9_addWall_22 (by decide) (by decide) (fun b22x => ?_) (fun b22x => False.elim (by revert b22x; decide))
  refine g_aload_n X dX9_addWall_43 rfl 1 rfl ?_
  refine g_getf (T := TX9) (v := .int (nI 1)) X dX9_addWall_44 0 rfl rfl in_X9_addWall_X9 14 (by decide) (by decide +kernel) rfl rfl ?_
  refine g_if_leN (tgt := 52) X dX9_addWall_47 (by decide) (by decide) (fun b47x => False.elim (by revert b47x; decide)) (fun b47x => ?_)
  refine g_iconst (v := nI 0) X dX9_addWall_50 (by decide) ?_
  exact g_iret X E dX9_addWall_51 () rfl (by decide) (by decide) (rfl)

set_option maxRecDepth 100000 in
set_option maxHeartbeats 4000000 in
theorem c_X9_addWall2 (l : Launch) (D : va_G) (ai az al : ClassId) (m : Nat) (mh : Nat) (mg : Nat) (mt : Nat) (mf : Nat) (ms : Nat) (msT : Nat) (msF : Nat) (mgv : Nat) (mP : Nat) (mW : Nat) (mV : Nat) (mco : Nat) (men : Nat) (mnt : Nat) (tw : Int32) (mse : Int32) (mbr : Int32) (mwk : Int32) (mns : Int32) (mtp : Int32) (mss : Int32) (p0 : Int32) (p1 : Int32) (p2 : Int32) (hq : CP p0 p1) (hq2 : ¬ isSd p2) : CI l D (tY ai az al) yX9_addWall wsX9_addWall { frames := 3, cells := 0, slots := 0, locals := 66 } [.ref m, .int p0, .int p1, .int p2] [(m, .inr (9, [.ref mh, .ref mg, .ref mt, .ref mf, .ref ms, .ref msT, .ref msF, .ref mgv, .ref mP, .ref mW, .ref mV, .ref mco, .ref men, .ref mnt, .int tw, .int mse, .int mbr, .int mwk, .int mns, .int mtp, .int mss]))] (fun (r : Int32) (u : Unit) => r = nI 0) (fun (u : Unit) => [(m, .inr (9, [.ref mh, .ref mg, .ref mt, .ref mf, .ref ms, .ref msT, .ref msF, .ref mgv, .ref mP, .ref mW, .ref mV, .ref mco, .ref men, .ref mnt, .int (nI 2), .int mse, .int mbr, .int mwk, .int mns, .int mtp, .int mss]))]) := by
  refine ofG_I (cc := cX9_addWall) (nL := 5) (lv0 := [(0, .ref m), (1, .int p0), (2, .int p1), (3, .int p2)]) (by decide) rfl (Nat.le_of_ble_eq_true rfl) rfl ?_
  intro Γ X E
  refine g_iload_n X dX9_addWall_0 rfl 1 rfl ?_
  refine g_iload_n X dX9_addWall_1 rfl 2 rfl ?_
  refine g_callSi (As := [.int p0, .int p1]) (rest := []) (wr := [(m, .inr (9, [.ref mh, .ref mg, .ref mt, .ref mf, .ref ms, .ref msT, .ref msF, .ref mgv, .ref mP, .ref mW, .ref mV, .ref mco, .ref men, .ref mnt, .int tw, .int mse, .int mbr, .int mwk, .int mns, .int mtp, .int mss]))]) X dX9_addWall_2 (c_X9_atI l D ai az al p0 p1 ) gX9_addWall_X9_at rfl rfl ok_X9_at rfl rfl (by decide) ⟨by decide, by decide⟩ (Nat.le_of_ble_eq_true rfl) [] [0] ⟨rfl, by decide, rfl, by decide, by decide⟩ (fun r1 u hp => ?_)
  obtain rfl := hp
  refine g_sub (k := 0) (n := 0) (ws' := [(m, .inr (9, [.ref mh, .ref mg, .ref mt, .ref mf, .ref ms, .ref msT, .ref msF, .ref mgv, .ref mP, .ref mW, .ref mV, .ref mco, .ref men, .ref mnt, .int tw, .int mse, .int mbr, .int mwk, .int mns, .int mtp, .int mss]))]) [0] (by decide) rfl ?_
  refine g_istore (lv' := [(4, .int (nI 6 * p1 + p0)), (0, .ref m), (1, .int p0), (2, .int p1), (3, .int p2)]) X dX9_addWall_5 (by decide) rfl ?_
  refine g_aload_n X dX9_addWall_7 rfl 1 rfl ?_
  refine g_aload_n X dX9_addWall_8 rfl 1 rfl ?_
  refine g_iload_n X dX9_addWall_9 rfl 2 rfl ?_
  refine g_iload_n X dX9_addWall_10 rfl 3 rfl ?_
  refine g_iload_n X dX9_addWall_11 rfl 4 rfl ?_
  refine g_callVi (C := RX9) (As := [.int p0, .int p1, .int p2]) (rest := [.ref m]) (wr := []) X dX9_addWall_12 (c_X9_wrongSide2 l D ai az al m mh mg mt mf ms msT msF mgv mP mW mV mco men mnt tw mse mbr mwk mns mtp mss p0 p1 p2 (hq) (hq2)) gX9_addWall_X9_wrongSide rfl rfl ok_X9_wrongSide rfl rfl (by decide) ⟨by decide, by decide⟩ (Nat.le_of_ble_eq_true rfl) [0] [] ⟨rfl, by decide, rfl, by decide, by decide⟩ 0 rfl rfl rfl (fun r2 u hp => ?_)
  obtain rfl := hp
  refine g_sub (k := 0) (n := 0) (ws' := [(m, .inr (9, [.ref mh, .ref mg, .ref mt, .ref mf, .ref ms, .ref msT, .ref msF, .ref mgv, .ref mP, .ref mW, .ref mV, .ref mco, .ref men, .ref mnt, .int tw, .int mse, .int mbr, .int mwk, .int mns, .int mtp, .int mss]))]) [0] (by decide) rfl ?_
  refine g_putf (T := TX9) (v := .int (nI 2)) (ty := tyX9 14) (ws' := [(m, .inr (9, [.ref mh, .ref mg, .ref mt, .ref mf, .ref ms, .ref msT, .ref msF, .ref mgv, .ref mP, .ref mW, .ref mV, .ref mco, .ref men, .ref mnt, .int (nI 2), .int mse, .int mbr, .int mwk, .int mns, .int mtp, .int mss]))]) X dX9_addWall_15 0 rfl rfl in_X9_addWall_X9 tyX9 tyX9_ok nmX9 14 (by decide) (by decide +kernel) rfl rfl (by decide +kernel) rfl rfl (Nat.le_of_ble_eq_true rfl) rfl ?_
  refine g_aload_n X dX9_addWall_18 rfl 1 rfl ?_
  refine g_getf (T := TX9) (v := .int (nI 2)) X dX9_addWall_19 0 rfl rfl in_X9_addWall_X9 14 (by decide) (by decide +kernel) rfl rfl ?_
  refine g_if_neN (tgt := 43) X dX9_addWall_22 (by decide) (by decide) (fun b22x => ?_) (fun b22x => False.elim (by revert b22x; decide))
  refine g_aload_n X dX9_addWall_43 rfl 1 rfl ?_
  refine g_getf (T := TX9) (v := .int (nI 2)) X dX9_addWall_44 0 rfl rfl in_X9_addWall_X9 14 (by decide) (by decide +kernel) rfl rfl ?_
  refine g_if_leN (tgt := 52) X dX9_addWall_47 (by decide) (by decide) (fun b47x => False.elim (by revert b47x; decide)) (fun b47x => ?_)
  refine g_iconst (v := nI 0) X dX9_addWall_50 (by decide) ?_
  exact g_iret X E dX9_addWall_51 () rfl (by decide) (by decide) (rfl)

set_option maxRecDepth 100000 in
set_option maxHeartbeats 4000000 in
theorem c_X9_addWall3 (l : Launch) (D : va_G) (ai az al : ClassId) (m : Nat) (mh : Nat) (mg : Nat) (mt : Nat) (mf : Nat) (ms : Nat) (msT : Nat) (msF : Nat) (mgv : Nat) (mP : Nat) (mW : Nat) (mV : Nat) (mco : Nat) (men : Nat) (mnt : Nat) (tw : Int32) (mse : Int32) (mbr : Int32) (mwk : Int32) (mns : Int32) (mtp : Int32) (mss : Int32) (Wm : Nat → Int32) (nb : Nat → Nat → Nat) (x : Nat) (y : Nat) (s : Nat) (hx : x < 6) (hy : y < 7) (hs : s < 4) (hW : NW nb) (hWm : WOK Wm nb) (he : nb (y * 6 + x) s = 43) : CI l D (tY ai az al) yX9_addWall wsX9_addWall { frames := 3, cells := 0, slots := 0, locals := 66 } [.ref m, .int (nI x), .int (nI y), .int (sdI s)] [(m, .inr (9, [.ref mh, .ref mg, .ref mt, .ref mf, .ref ms, .ref msT, .ref msF, .ref mgv, .ref mP, .ref mW, .ref mV, .ref mco, .ref men, .ref mnt, .int tw, .int mse, .int mbr, .int mwk, .int mns, .int mtp, .int mss])), (mW, .inl (az, 168, .inl Wm))] (fun (r : Int32) (u : Unit) => r = nI 0) (fun (u : Unit) => [(m, .inr (9, [.ref mh, .ref mg, .ref mt, .ref mf, .ref ms, .ref msT, .ref msF, .ref mgv, .ref mP, .ref mW, .ref mV, .ref mco, .ref men, .ref mnt, .int (nI 3), .int mse, .int mbr, .int mwk, .int mns, .int mtp, .int mss])), (mW, .inl (az, 168, .inl Wm))]) := by
  refine ofG_I (cc := cX9_addWall) (nL := 5) (lv0 := [(0, .ref m), (1, .int (nI x)), (2, .int (nI y)), (3, .int (sdI s))]) (by decide) rfl (Nat.le_of_ble_eq_true rfl) rfl ?_
  intro Γ X E
  refine g_iload_n X dX9_addWall_0 rfl 1 rfl ?_
  refine g_iload_n X dX9_addWall_1 rfl 2 rfl ?_
  refine g_callSi (As := [.int (nI x), .int (nI y)]) (rest := []) (wr := [(m, .inr (9, [.ref mh, .ref mg, .ref mt, .ref mf, .ref ms, .ref msT, .ref msF, .ref mgv, .ref mP, .ref mW, .ref mV, .ref mco, .ref men, .ref mnt, .int tw, .int mse, .int mbr, .int mwk, .int mns, .int mtp, .int mss])), (mW, .inl (az, 168, .inl Wm))]) X dX9_addWall_2 (c_X9_at l D ai az al x y ) gX9_addWall_X9_at rfl rfl ok_X9_at rfl rfl (by decide) ⟨by decide, by decide⟩ (Nat.le_of_ble_eq_true rfl) [] [0, 1] ⟨rfl, by decide, rfl, by decide, by decide⟩ (fun r1 u hp => ?_)
  obtain rfl := hp
  refine g_sub (k := 0) (n := 0) (ws' := [(m, .inr (9, [.ref mh, .ref mg, .ref mt, .ref mf, .ref ms, .ref msT, .ref msF, .ref mgv, .ref mP, .ref mW, .ref mV, .ref mco, .ref men, .ref mnt, .int tw, .int mse, .int mbr, .int mwk, .int mns, .int mtp, .int mss])), (mW, .inl (az, 168, .inl Wm))]) [0, 1] (by decide) rfl ?_
  refine g_istore (lv' := [(4, .int (nI (y * 6 + x))), (0, .ref m), (1, .int (nI x)), (2, .int (nI y)), (3, .int (sdI s))]) X dX9_addWall_5 (by decide) rfl ?_
  refine g_aload_n X dX9_addWall_7 rfl 1 rfl ?_
  refine g_aload_n X dX9_addWall_8 rfl 1 rfl ?_
  refine g_iload_n X dX9_addWall_9 rfl 2 rfl ?_
  refine g_iload_n X dX9_addWall_10 rfl 3 rfl ?_
  refine g_iload_n X dX9_addWall_11 rfl 4 rfl ?_
  refine g_callVi (C := RX9) (As := [.int (nI x), .int (nI y), .int (sdI s)]) (rest := [.ref m]) (wr := [(mW, .inl (az, 168, .inl Wm))]) X dX9_addWall_12 (c_X9_wrongSide0 l D ai az al m mh mg mt mf ms msT msF mgv mP mW mV mco men mnt tw mse mbr mwk mns mtp mss (nI x) (nI y) s (CP_of hx hy) (hs)) gX9_addWall_X9_wrongSide rfl rfl ok_X9_wrongSide rfl rfl (by decide) ⟨by decide, by decide⟩ (Nat.le_of_ble_eq_true rfl) [0] [1] ⟨rfl, by decide, rfl, by decide, by decide⟩ 0 rfl rfl rfl (fun r2 u hp => ?_)
  obtain rfl := hp
  refine g_sub (k := 0) (n := 0) (ws' := [(m, .inr (9, [.ref mh, .ref mg, .ref mt, .ref mf, .ref ms, .ref msT, .ref msF, .ref mgv, .ref mP, .ref mW, .ref mV, .ref mco, .ref men, .ref mnt, .int tw, .int mse, .int mbr, .int mwk, .int mns, .int mtp, .int mss])), (mW, .inl (az, 168, .inl Wm))]) [1, 0] (by decide) rfl ?_
  refine g_putf (T := TX9) (v := .int (nI 0)) (ty := tyX9 14) (ws' := [(m, .inr (9, [.ref mh, .ref mg, .ref mt, .ref mf, .ref ms, .ref msT, .ref msF, .ref mgv, .ref mP, .ref mW, .ref mV, .ref mco, .ref men, .ref mnt, .int (nI 0), .int mse, .int mbr, .int mwk, .int mns, .int mtp, .int mss])), (mW, .inl (az, 168, .inl Wm))]) X dX9_addWall_15 0 rfl rfl in_X9_addWall_X9 tyX9 tyX9_ok nmX9 14 (by decide) (by decide +kernel) rfl rfl (by decide +kernel) rfl rfl (Nat.le_of_ble_eq_true rfl) rfl ?_
  refine g_aload_n X dX9_addWall_18 rfl 1 rfl ?_
  refine g_getf (T := TX9) (v := .int (nI 0)) X dX9_addWall_19 0 rfl rfl in_X9_addWall_X9 14 (by decide) (by decide +kernel) rfl rfl ?_
  refine g_if_neN (tgt := 43) X dX9_addWall_22 (by decide) (by decide) (fun b22x => False.elim (by revert b22x; decide)) (fun b22x => ?_)
  refine g_aload_n X dX9_addWall_25 rfl 1 rfl ?_
  refine g_iload X dX9_addWall_26 0 rfl ?_
  refine g_iload_n X dX9_addWall_28 rfl 4 rfl ?_
  refine g_callSi (As := [.int (sdI s)]) (rest := [.int (nI (y * 6 + x)), .ref m]) (wr := [(m, .inr (9, [.ref mh, .ref mg, .ref mt, .ref mf, .ref ms, .ref msT, .ref msF, .ref mgv, .ref mP, .ref mW, .ref mV, .ref mco, .ref men, .ref mnt, .int (nI 0), .int mse, .int mbr, .int mwk, .int mns, .int mtp, .int mss])), (mW, .inl (az, 168, .inl Wm))]) X dX9_addWall_29 (c_X9_sideOfN l D ai az al s (hs)) gX9_addWall_X9_sideOf rfl rfl ok_X9_sideOf rfl rfl (by decide) ⟨by decide, by decide⟩ (Nat.le_of_ble_eq_true rfl) [] [0, 1] ⟨rfl, by decide, rfl, by decide, by decide⟩ (fun r3 u hp => ?_)
  obtain rfl := hp
  refine g_sub (k := 0) (n := 0) (ws' := [(m, .inr (9, [.ref mh, .ref mg, .ref mt, .ref mf, .ref ms, .ref msT, .ref msF, .ref mgv, .ref mP, .ref mW, .ref mV, .ref mco, .ref men, .ref mnt, .int (nI 0), .int mse, .int mbr, .int mwk, .int mns, .int mtp, .int mss])), (mW, .inl (az, 168, .inl Wm))]) [0, 1] (by decide) rfl ?_
  refine g_callVi (C := RX9) (As := [.int (nI (y * 6 + x)), .int (nI s)]) (rest := []) (wr := []) X dX9_addWall_32 (c_X9_isOpen l D ai az al m mh mg mt mf ms msT msF mgv mP mW mV mco men mnt (nI 0) mse mbr mwk mns mtp mss Wm nb (y * 6 + x) s (by omega) (hs) (hW) (hWm)) gX9_addWall_X9_isOpen rfl rfl ok_X9_isOpen rfl rfl (by decide) ⟨by decide, by decide⟩ (Nat.le_of_ble_eq_true rfl) [0, 1] [] ⟨rfl, by decide, rfl, by decide, by decide⟩ 0 rfl rfl rfl (fun r4 u hp => ?_)
  obtain rfl := hp
  refine g_sub (k := 0) (n := 0) (ws' := [(m, .inr (9, [.ref mh, .ref mg, .ref mt, .ref mf, .ref ms, .ref msT, .ref msF, .ref mgv, .ref mP, .ref mW, .ref mV, .ref mco, .ref men, .ref mnt, .int (nI 0), .int mse, .int mbr, .int mwk, .int mns, .int mtp, .int mss])), (mW, .inl (az, 168, .inl Wm))]) [0, 1] (by decide) rfl ?_
  rw [show bn (decide (nb (y * 6 + x) s ≠ 43)) = 0 from bn_0.mpr (decide_eq_false (fun q => q he))]
  refine g_if_neN (tgt := 43) X dX9_addWall_35 (by decide) (by decide) (fun b35x => False.elim (by revert b35x; decide)) (fun b35x => ?_)
  refine g_aload_n X dX9_addWall_38 rfl 1 rfl ?_
  refine g_iconst (v := nI 3) X dX9_addWall_39 (by decide) ?_
  refine g_putf (T := TX9) (v := .int (nI 3)) (ty := tyX9 14) (ws' := [(m, .inr (9, [.ref mh, .ref mg, .ref mt, .ref mf, .ref ms, .ref msT, .ref msF, .ref mgv, .ref mP, .ref mW, .ref mV, .ref mco, .ref men, .ref mnt, .int (nI 3), .int mse, .int mbr, .int mwk, .int mns, .int mtp, .int mss])), (mW, .inl (az, 168, .inl Wm))]) X dX9_addWall_40 0 rfl rfl in_X9_addWall_X9 tyX9 tyX9_ok nmX9 14 (by decide) (by decide +kernel) rfl rfl (by decide +kernel) rfl rfl (Nat.le_of_ble_eq_true rfl) rfl ?_
  refine g_aload_n X dX9_addWall_43 rfl 1 rfl ?_
  refine g_getf (T := TX9) (v := .int (nI 3)) X dX9_addWall_44 0 rfl rfl in_X9_addWall_X9 14 (by decide) (by decide +kernel) rfl rfl ?_
  refine g_if_leN (tgt := 52) X dX9_addWall_47 (by decide) (by decide) (fun b47x => False.elim (by revert b47x; decide)) (fun b47x => ?_)
  refine g_iconst (v := nI 0) X dX9_addWall_50 (by decide) ?_
  exact g_iret X E dX9_addWall_51 () rfl (by decide) (by decide) (rfl)

set_option maxRecDepth 100000 in
set_option maxHeartbeats 4000000 in
theorem c_X9_addWall0 (l : Launch) (D : va_G) (ai az al : ClassId) (m : Nat) (mh : Nat) (mg : Nat) (mt : Nat) (mf : Nat) (ms : Nat) (msT : Nat) (msF : Nat) (mgv : Nat) (mP : Nat) (mW : Nat) (mV : Nat) (mco : Nat) (men : Nat) (mnt : Nat) (tw : Int32) (mse : Int32) (mbr : Int32) (mwk : Int32) (mns : Int32) (mtp : Int32) (mss : Int32) (Am : Nat → Int32) (Hm : Nat → Int32) (Wm : Nat → Int32) (nb : Nat → Nat → Nat) (h : Nat → Nat) (V0 : Nat → Bool) (x : Nat) (y : Nat) (s : Nat) (hx : x < 6) (hy : y < 7) (hs : s < 4) (hW : NW nb) (hWm : WOK Wm nb) (hH : HOK Hm h) (hb : ∀ c, c < 42 → h c < 2 ^ 31) (he : ¬ nb (y * 6 + x) s = 43) (hFV : FL (setS nb (y * 6 + x) s true) (lowB h 1000000) V0) (hful : 42 ≤ cB V0 42) : CI l D (tY ai az al) yX9_addWall wsX9_addWall { frames := 3, cells := 0, slots := 0, locals := 71 } [.ref m, .int (nI x), .int (nI y), .int (sdI s)] [(m, .inr (9, [.ref mh, .ref mg, .ref mt, .ref mf, .ref ms, .ref msT, .ref msF, .ref mgv, .ref mP, .ref mW, .ref mV, .ref mco, .ref men, .ref mnt, .int tw, .int mse, .int mbr, .int mwk, .int mns, .int mtp, .int mss])), (mV, .inl (az, 42, .inl Am)), (mh, .inl (ai, 42, .inl Hm)), (mW, .inl (az, 168, .inl Wm))] (fun (r : Int32) (u : (Nat → Int32) × (Nat → Int32)) => r = (mwk + nI 1) ∧ WOK u.2 (setS nb (y * 6 + x) s true)) (fun (u : (Nat → Int32) × (Nat → Int32)) => [(m, .inr (9, [.ref mh, .ref mg, .ref mt, .ref mf, .ref ms, .ref msT, .ref msF, .ref mgv, .ref mP, .ref mW, .ref mV, .ref mco, .ref men, .ref mnt, .int (nI 0), .int mse, .int mbr, .int (mwk + nI 1), .int mns, .int mtp, .int mss])), (mV, .inl (az, 42, .inl u.1)), (mh, .inl (ai, 42, .inl Hm)), (mW, .inl (az, 168, .inl u.2))]) := by
  refine ofG_I (cc := cX9_addWall) (nL := 5) (lv0 := [(0, .ref m), (1, .int (nI x)), (2, .int (nI y)), (3, .int (sdI s))]) (by decide) rfl (Nat.le_of_ble_eq_true rfl) rfl ?_
  intro Γ X E
  refine g_iload_n X dX9_addWall_0 rfl 1 rfl ?_
  refine g_iload_n X dX9_addWall_1 rfl 2 rfl ?_
  refine g_callSi (As := [.int (nI x), .int (nI y)]) (rest := []) (wr := [(m, .inr (9, [.ref mh, .ref mg, .ref mt, .ref mf, .ref ms, .ref msT, .ref msF, .ref mgv, .ref mP, .ref mW, .ref mV, .ref mco, .ref men, .ref mnt, .int tw, .int mse, .int mbr, .int mwk, .int mns, .int mtp, .int mss])), (mV, .inl (az, 42, .inl Am)), (mh, .inl (ai, 42, .inl Hm)), (mW, .inl (az, 168, .inl Wm))]) X dX9_addWall_2 (c_X9_at l D ai az al x y ) gX9_addWall_X9_at rfl rfl ok_X9_at rfl rfl (by decide) ⟨by decide, by decide⟩ (Nat.le_of_ble_eq_true rfl) [] [0, 1, 2, 3] ⟨rfl, by decide, rfl, by decide, by decide⟩ (fun r1 u hp => ?_)
  obtain rfl := hp
  refine g_sub (k := 0) (n := 0) (ws' := [(m, .inr (9, [.ref mh, .ref mg, .ref mt, .ref mf, .ref ms, .ref msT, .ref msF, .ref mgv, .ref mP, .ref mW, .ref mV, .ref mco, .ref men, .ref mnt, .int tw, .int mse, .int mbr, .int mwk, .int mns, .int mtp, .int mss])), (mV, .inl (az, 42, .inl Am)), (mh, .inl (ai, 42, .inl Hm)), (mW, .inl (az, 168, .inl Wm))]) [0, 1, 2, 3] (by decide) rfl ?_
  refine g_istore (lv' := [(4, .int (nI (y * 6 + x))), (0, .ref m), (1, .int (nI x)), (2, .int (nI y)), (3, .int (sdI s))]) X dX9_addWall_5 (by decide) rfl ?_
  refine g_aload_n X dX9_addWall_7 rfl 1 rfl ?_
  refine g_aload_n X dX9_addWall_8 rfl 1 rfl ?_
  refine g_iload_n X dX9_addWall_9 rfl 2 rfl ?_
  refine g_iload_n X dX9_addWall_10 rfl 3 rfl ?_
  refine g_iload_n X dX9_addWall_11 rfl 4 rfl ?_
  refine g_callVi (C := RX9) (As := [.int (nI x), .int (nI y), .int (sdI s)]) (rest := [.ref m]) (wr := [(mV, .inl (az, 42, .inl Am)), (mh, .inl (ai, 42, .inl Hm)), (mW, .inl (az, 168, .inl Wm))]) X dX9_addWall_12 (c_X9_wrongSide0 l D ai az al m mh mg mt mf ms msT msF mgv mP mW mV mco men mnt tw mse mbr mwk mns mtp mss (nI x) (nI y) s (CP_of hx hy) (hs)) gX9_addWall_X9_wrongSide rfl rfl ok_X9_wrongSide rfl rfl (by decide) ⟨by decide, by decide⟩ (Nat.le_of_ble_eq_true rfl) [0] [1, 2, 3] ⟨rfl, by decide, rfl, by decide, by decide⟩ 0 rfl rfl rfl (fun r2 u hp => ?_)
  obtain rfl := hp
  refine g_sub (k := 0) (n := 0) (ws' := [(m, .inr (9, [.ref mh, .ref mg, .ref mt, .ref mf, .ref ms, .ref msT, .ref msF, .ref mgv, .ref mP, .ref mW, .ref mV, .ref mco, .ref men, .ref mnt, .int tw, .int mse, .int mbr, .int mwk, .int mns, .int mtp, .int mss])), (mV, .inl (az, 42, .inl Am)), (mh, .inl (ai, 42, .inl Hm)), (mW, .inl (az, 168, .inl Wm))]) [3, 0, 1, 2] (by decide) rfl ?_
  refine g_putf (T := TX9) (v := .int (nI 0)) (ty := tyX9 14) (ws' := [(m, .inr (9, [.ref mh, .ref mg, .ref mt, .ref mf, .ref ms, .ref msT, .ref msF, .ref mgv, .ref mP, .ref mW, .ref mV, .ref mco, .ref men, .ref mnt, .int (nI 0), .int mse, .int mbr, .int mwk, .int mns, .int mtp, .int mss])), (mV, .inl (az, 42, .inl Am)), (mh, .inl (ai, 42, .inl Hm)), (mW, .inl (az, 168, .inl Wm))]) X dX9_addWall_15 0 rfl rfl in_X9_addWall_X9 tyX9 tyX9_ok nmX9 14 (by decide) (by decide +kernel) rfl rfl (by decide +kernel) rfl rfl (Nat.le_of_ble_eq_true rfl) rfl ?_
  refine g_aload_n X dX9_addWall_18 rfl 1 rfl ?_
  refine g_getf (T := TX9) (v := .int (nI 0)) X dX9_addWall_19 0 rfl rfl in_X9_addWall_X9 14 (by decide) (by decide +kernel) rfl rfl ?_
  refine g_if_neN (tgt := 43) X dX9_addWall_22 (by decide) (by decide) (fun b22x => False.elim (by revert b22x; decide)) (fun b22x => ?_)
  refine g_aload_n X dX9_addWall_25 rfl 1 rfl ?_
  refine g_iload X dX9_addWall_26 0 rfl ?_
  refine g_iload_n X dX9_addWall_28 rfl 4 rfl ?_
  refine g_callSi (As := [.int (sdI s)]) (rest := [.int (nI (y * 6 + x)), .ref m]) (wr := [(m, .inr (9, [.ref mh, .ref mg, .ref mt, .ref mf, .ref ms, .ref msT, .ref msF, .ref mgv, .ref mP, .ref mW, .ref mV, .ref mco, .ref men, .ref mnt, .int (nI 0), .int mse, .int mbr, .int mwk, .int mns, .int mtp, .int mss])), (mV, .inl (az, 42, .inl Am)), (mh, .inl (ai, 42, .inl Hm)), (mW, .inl (az, 168, .inl Wm))]) X dX9_addWall_29 (c_X9_sideOfN l D ai az al s (hs)) gX9_addWall_X9_sideOf rfl rfl ok_X9_sideOf rfl rfl (by decide) ⟨by decide, by decide⟩ (Nat.le_of_ble_eq_true rfl) [] [0, 1, 2, 3] ⟨rfl, by decide, rfl, by decide, by decide⟩ (fun r3 u hp => ?_)
  obtain rfl := hp
  refine g_sub (k := 0) (n := 0) (ws' := [(m, .inr (9, [.ref mh, .ref mg, .ref mt, .ref mf, .ref ms, .ref msT, .ref msF, .ref mgv, .ref mP, .ref mW, .ref mV, .ref mco, .ref men, .ref mnt, .int (nI 0), .int mse, .int mbr, .int mwk, .int mns, .int mtp, .int mss])), (mV, .inl (az, 42, .inl Am)), (mh, .inl (ai, 42, .inl Hm)), (mW, .inl (az, 168, .inl Wm))]) [0, 1, 2, 3] (by decide) rfl ?_
  refine g_callVi (C := RX9) (As := [.int (nI (y * 6 + x)), .int (nI s)]) (rest := []) (wr := [(mV, .inl (az, 42, .inl Am)), (mh, .inl (ai, 42, .inl Hm))]) X dX9_addWall_32 (c_X9_isOpen l D ai az al m mh mg mt mf ms msT msF mgv mP mW mV mco men mnt (nI 0) mse mbr mwk mns mtp mss Wm nb (y * 6 + x) s (by omega) (hs) (hW) (hWm)) gX9_addWall_X9_isOpen rfl rfl ok_X9_isOpen rfl rfl (by decide) ⟨by decide, by decide⟩ (Nat.le_of_ble_eq_true rfl) [0, 3] [1, 2] ⟨rfl, by decide, rfl, by decide, by decide⟩ 0 rfl rfl rfl (fun r4 u hp => ?_)
  obtain rfl := hp
  refine g_sub (k := 0) (n := 0) (ws' := [(m, .inr (9, [.ref mh, .ref mg, .ref mt, .ref mf, .ref ms, .ref msT, .ref msF, .ref mgv, .ref mP, .ref mW, .ref mV, .ref mco, .ref men, .ref mnt, .int (nI 0), .int mse, .int mbr, .int mwk, .int mns, .int mtp, .int mss])), (mV, .inl (az, 42, .inl Am)), (mh, .inl (ai, 42, .inl Hm)), (mW, .inl (az, 168, .inl Wm))]) [2, 0, 1, 3] (by decide) rfl ?_
  rw [show bn (decide (nb (y * 6 + x) s ≠ 43)) = 1 from by rw [decide_eq_true (p := nb (y * 6 + x) s ≠ 43) he]; rfl]
  refine g_if_neN (tgt := 43) X dX9_addWall_35 (by decide) (by decide) (fun b35x => ?_) (fun b35x => False.elim (by revert b35x; decide))
  refine g_aload_n X dX9_addWall_43 rfl 1 rfl ?_
  refine g_getf (T := TX9) (v := .int (nI 0)) X dX9_addWall_44 0 rfl rfl in_X9_addWall_X9 14 (by decide) (by decide +kernel) rfl rfl ?_
  refine g_if_leN (tgt := 52) X dX9_addWall_47 (by decide) (by decide) (fun b47x => ?_) (fun b47x => False.elim (by revert b47x; decide))
  refine g_aload_n X dX9_addWall_52 rfl 1 rfl ?_
  refine g_iload X dX9_addWall_53 0 rfl ?_
  refine g_iload_n X dX9_addWall_55 rfl 4 rfl ?_
  refine g_callSi (As := [.int (sdI s)]) (rest := [.int (nI (y * 6 + x)), .ref m]) (wr := [(m, .inr (9, [.ref mh, .ref mg, .ref mt, .ref mf, .ref ms, .ref msT, .ref msF, .ref mgv, .ref mP, .ref mW, .ref mV, .ref mco, .ref men, .ref mnt, .int (nI 0), .int mse, .int mbr, .int mwk, .int mns, .int mtp, .int mss])), (mV, .inl (az, 42, .inl Am)), (mh, .inl (ai, 42, .inl Hm)), (mW, .inl (az, 168, .inl Wm))]) X dX9_addWall_56 (c_X9_sideOfN l D ai az al s (hs)) gX9_addWall_X9_sideOf rfl rfl ok_X9_sideOf rfl rfl (by decide) ⟨by decide, by decide⟩ (Nat.le_of_ble_eq_true rfl) [] [0, 1, 2, 3] ⟨rfl, by decide, rfl, by decide, by decide⟩ (fun r5 u hp => ?_)
  obtain rfl := hp
  refine g_sub (k := 0) (n := 0) (ws' := [(m, .inr (9, [.ref mh, .ref mg, .ref mt, .ref mf, .ref ms, .ref msT, .ref msF, .ref mgv, .ref mP, .ref mW, .ref mV, .ref mco, .ref men, .ref mnt, .int (nI 0), .int mse, .int mbr, .int mwk, .int mns, .int mtp, .int mss])), (mV, .inl (az, 42, .inl Am)), (mh, .inl (ai, 42, .inl Hm)), (mW, .inl (az, 168, .inl Wm))]) [0, 1, 2, 3] (by decide) rfl ?_
  refine g_iconst (v := nI 1) X dX9_addWall_59 (by decide) ?_
  refine g_callVv (C := RX9) (As := [.int (nI (y * 6 + x)), .int (nI s), .int (nI 1)]) (rest := []) (wr := [(mV, .inl (az, 42, .inl Am)), (mh, .inl (ai, 42, .inl Hm))]) X dX9_addWall_60 (c_X9_layT l D ai az al m mh mg mt mf ms msT msF mgv mP mW mV mco men mnt (nI 0) mse mbr mwk mns mtp mss Wm nb (y * 6 + x) s (by omega) (hs) (hWm) (by rw [← hW.op (by omega) hs he]; exact he)) gX9_addWall_X9_lay rfl rfl ok_X9_lay rfl rfl (by decide) ⟨by decide, by decide⟩ (Nat.le_of_ble_eq_true rfl) [0, 3] [1, 2] ⟨rfl, by decide, rfl, by decide, by decide⟩ 0 rfl rfl rfl (fun W5 hp => ?_)
  try dsimp only at hp
  have hW5 := hp
  refine g_sub (k := 0) (n := 0) (ws' := [(m, .inr (9, [.ref mh, .ref mg, .ref mt, .ref mf, .ref ms, .ref msT, .ref msF, .ref mgv, .ref mP, .ref mW, .ref mV, .ref mco, .ref men, .ref mnt, .int (nI 0), .int mse, .int mbr, .int (mwk + nI 1), .int mns, .int mtp, .int mss])), (mV, .inl (az, 42, .inl Am)), (mh, .inl (ai, 42, .inl Hm)), (mW, .inl (az, 168, .inl W5))]) [2, 0, 1, 3] (by decide) rfl ?_
  refine g_aload_n X dX9_addWall_63 rfl 1 rfl ?_
  refine g_ldc (v := nI 1000000) X dX9_addWall_64 (by decide +kernel) ?_
  refine g_callVi (C := RX9) (As := [.int (nI 1000000)]) (rest := []) (wr := []) X dX9_addWall_66 (c_X9_wets l D ai az al m mh mg mt mf ms msT msF mgv mP mW mV mco men mnt (nI 0) mse mbr (mwk + nI 1) mns mtp mss Am Hm W5 (setS nb (y * 6 + x) s true) h 1000000 (hW.set (by omega) hs true) (hW5) (hH) (hb) (by decide)) gX9_addWall_X9_wets rfl rfl ok_X9_wets rfl rfl (by decide) ⟨by decide, by decide⟩ (Nat.le_of_ble_eq_true rfl) [0, 1, 2, 3] [] ⟨rfl, by decide, rfl, by decide, by decide⟩ 0 rfl rfl rfl (fun r6 u hp => ?_)
  obtain ⟨A6, V6⟩ := u
  try dsimp only at hp
  obtain ⟨rfl, hF6, hV6⟩ := hp
  refine g_sub (k := 0) (n := 0) (ws' := [(m, .inr (9, [.ref mh, .ref mg, .ref mt, .ref mf, .ref ms, .ref msT, .ref msF, .ref mgv, .ref mP, .ref mW, .ref mV, .ref mco, .ref men, .ref mnt, .int (nI 0), .int mse, .int mbr, .int (mwk + nI 1), .int mns, .int mtp, .int mss])), (mV, .inl (az, 42, .inl A6)), (mh, .inl (ai, 42, .inl Hm)), (mW, .inl (az, 168, .inl W5))]) [0, 1, 2, 3] (by decide) rfl ?_
  have hcc : cB V6 42 = cB V0 42 := cB_congr (hF6.one hFV)
  have hc42 := cB_le V6 42
  refine g_bipush (v := nI 42) X dX9_addWall_69 (by decide) ?_
  refine g_icmp_geN (tgt := 92) X dX9_addWall_71 (by decide) (by omega) (by omega) (fun b71 => ?_) (fun b71 => False.elim (by omega))
  refine g_aload_n X dX9_addWall_92 rfl 1 rfl ?_
  refine g_getf (T := TX9) (v := .int (mwk + nI 1)) X dX9_addWall_93 0 rfl rfl in_X9_addWall_X9 17 (by decide) (by decide +kernel) rfl rfl ?_
  exact g_iret X E dX9_addWall_96 (⟨A6, W5⟩) rfl (by decide) (by decide) (⟨rfl, hW5⟩)

set_option maxRecDepth 100000 in
set_option maxHeartbeats 4000000 in
theorem c_X9_addWall4 (l : Launch) (D : va_G) (ai az al : ClassId) (m : Nat) (mh : Nat) (mg : Nat) (mt : Nat) (mf : Nat) (ms : Nat) (msT : Nat) (msF : Nat) (mgv : Nat) (mP : Nat) (mW : Nat) (mV : Nat) (mco : Nat) (men : Nat) (mnt : Nat) (tw : Int32) (mse : Int32) (mbr : Int32) (mwk : Int32) (mns : Int32) (mtp : Int32) (mss : Int32) (Am : Nat → Int32) (Hm : Nat → Int32) (Wm : Nat → Int32) (nb : Nat → Nat → Nat) (h : Nat → Nat) (V0 : Nat → Bool) (x : Nat) (y : Nat) (s : Nat) (hx : x < 6) (hy : y < 7) (hs : s < 4) (hW : NW nb) (hWm : WOK Wm nb) (hH : HOK Hm h) (hb : ∀ c, c < 42 → h c < 2 ^ 31) (he : ¬ nb (y * 6 + x) s = 43) (hFV : FL (setS nb (y * 6 + x) s true) (lowB h 1000000) V0) (hful : cB V0 42 < 42) : CI l D (tY ai az al) yX9_addWall wsX9_addWall { frames := 3, cells := 0, slots := 0, locals := 71 } [.ref m, .int (nI x), .int (nI y), .int (sdI s)] [(m, .inr (9, [.ref mh, .ref mg, .ref mt, .ref mf, .ref ms, .ref msT, .ref msF, .ref mgv, .ref mP, .ref mW, .ref mV, .ref mco, .ref men, .ref mnt, .int tw, .int mse, .int mbr, .int mwk, .int mns, .int mtp, .int mss])), (mV, .inl (az, 42, .inl Am)), (mh, .inl (ai, 42, .inl Hm)), (mW, .inl (az, 168, .inl Wm))] (fun (r : Int32) (u : (Nat → Int32) × (Nat → Int32)) => r = nI 0 ∧ WOK u.2 nb) (fun (u : (Nat → Int32) × (Nat → Int32)) => [(m, .inr (9, [.ref mh, .ref mg, .ref mt, .ref mf, .ref ms, .ref msT, .ref msF, .ref mgv, .ref mP, .ref mW, .ref mV, .ref mco, .ref men, .ref mnt, .int (nI 4), .int mse, .int mbr, .int mwk, .int mns, .int mtp, .int mss])), (mV, .inl (az, 42, .inl u.1)), (mh, .inl (ai, 42, .inl Hm)), (mW, .inl (az, 168, .inl u.2))]) := by
  refine ofG_I (cc := cX9_addWall) (nL := 5) (lv0 := [(0, .ref m), (1, .int (nI x)), (2, .int (nI y)), (3, .int (sdI s))]) (by decide) rfl (Nat.le_of_ble_eq_true rfl) rfl ?_
  intro Γ X E
  refine g_iload_n X dX9_addWall_0 rfl 1 rfl ?_
  refine g_iload_n X dX9_addWall_1 rfl 2 rfl ?_
  refine g_callSi (As := [.int (nI x), .int (nI y)]) (rest := []) (wr := [(m, .inr (9, [.ref mh, .ref mg, .ref mt, .ref mf, .ref ms, .ref msT, .ref msF, .ref mgv, .ref mP, .ref mW, .ref mV, .ref mco, .ref men, .ref mnt, .int tw, .int mse, .int mbr, .int mwk, .int mns, .int mtp, .int mss])), (mV, .inl (az, 42, .inl Am)), (mh, .inl (ai, 42, .inl Hm)), (mW, .inl (az, 168, .inl Wm))]) X dX9_addWall_2 (c_X9_at l D ai az al x y ) gX9_addWall_X9_at rfl rfl ok_X9_at rfl rfl (by decide) ⟨by decide, by decide⟩ (Nat.le_of_ble_eq_true rfl) [] [0, 1, 2, 3] ⟨rfl, by decide, rfl, by decide, by decide⟩ (fun r1 u hp => ?_)
  obtain rfl := hp
  refine g_sub (k := 0) (n := 0) (ws' := [(m, .inr (9, [.ref mh, .ref mg, .ref mt, .ref mf, .ref ms, .ref msT, .ref msF, .ref mgv, .ref mP, .ref mW, .ref mV, .ref mco, .ref men, .ref mnt, .int tw, .int mse, .int mbr, .int mwk, .int mns, .int mtp, .int mss])), (mV, .inl (az, 42, .inl Am)), (mh, .inl (ai, 42, .inl Hm)), (mW, .inl (az, 168, .inl Wm))]) [0, 1, 2, 3] (by decide) rfl ?_
  refine g_istore (lv' := [(4, .int (nI (y * 6 + x))), (0, .ref m), (1, .int (nI x)), (2, .int (nI y)), (3, .int (sdI s))]) X dX9_addWall_5 (by decide) rfl ?_
  refine g_aload_n X dX9_addWall_7 rfl 1 rfl ?_
  refine g_aload_n X dX9_addWall_8 rfl 1 rfl ?_
  refine g_iload_n X dX9_addWall_9 rfl 2 rfl ?_
  refine g_iload_n X dX9_addWall_10 rfl 3 rfl ?_
  refine g_iload_n X dX9_addWall_11 rfl 4 rfl ?_
  refine g_callVi (C := RX9) (As := [.int (nI x), .int (nI y), .int (sdI s)]) (rest := [.ref m]) (wr := [(mV, .inl (az, 42, .inl Am)), (mh, .inl (ai, 42, .inl Hm)), (mW, .inl (az, 168, .inl Wm))]) X dX9_addWall_12 (c_X9_wrongSide0 l D ai az al m mh mg mt mf ms msT msF mgv mP mW mV mco men mnt tw mse mbr mwk mns mtp mss (nI x) (nI y) s (CP_of hx hy) (hs)) gX9_addWall_X9_wrongSide rfl rfl ok_X9_wrongSide rfl rfl (by decide) ⟨by decide, by decide⟩ (Nat.le_of_ble_eq_true rfl) [0] [1, 2, 3] ⟨rfl, by decide, rfl, by decide, by decide⟩ 0 rfl rfl rfl (fun r2 u hp => ?_)
  obtain rfl := hp
  refine g_sub (k := 0) (n := 0) (ws' := [(m, .inr (9, [.ref mh, .ref mg, .ref mt, .ref mf, .ref ms, .ref msT, .ref msF, .ref mgv, .ref mP, .ref mW, .ref mV, .ref mco, .ref men, .ref mnt, .int tw, .int mse, .int mbr, .int mwk, .int mns, .int mtp, .int mss])), (mV, .inl (az, 42, .inl Am)), (mh, .inl (ai, 42, .inl Hm)), (mW, .inl (az, 168, .inl Wm))]) [3, 0, 1, 2] (by decide) rfl ?_
  refine g_putf (T := TX9) (v := .int (nI 0)) (ty := tyX9 14) (ws' := [(m, .inr (9, [.ref mh, .ref mg, .ref mt, .ref mf, .ref ms, .ref msT, .ref msF, .ref mgv, .ref mP, .ref mW, .ref mV, .ref mco, .ref men, .ref mnt, .int (nI 0), .int mse, .int mbr, .int mwk, .int mns, .int mtp, .int mss])), (mV, .inl (az, 42, .inl Am)), (mh, .inl (ai, 42, .inl Hm)), (mW, .inl (az, 168, .inl Wm))]) X dX9_addWall_15 0 rfl rfl in_X9_addWall_X9 tyX9 tyX9_ok nmX9 14 (by decide) (by decide +kernel) rfl rfl (by decide +kernel) rfl rfl (Nat.le_of_ble_eq_true rfl) rfl ?_
  refine g_aload_n X dX9_addWall_18 rfl 1 rfl ?_
  refine g_getf (T := TX9) (v := .int (nI 0)) X dX9_addWall_19 0 rfl rfl in_X9_addWall_X9 14 (by decide) (by decide +kernel) rfl rfl ?_
  refine g_if_neN (tgt := 43) X dX9_addWall_22 (by decide) (by decide) (fun b22x => False.elim (by revert b22x; decide)) (fun b22x => ?_)
  refine g_aload_n X dX9_addWall_25 rfl 1 rfl ?_
  refine g_iload X dX9_addWall_26 0 rfl ?_
  refine g_iload_n X dX9_addWall_28 rfl 4 rfl ?_
  refine g_callSi (As := [.int (sdI s)]) (rest := [.int (nI (y * 6 + x)), .ref m]) (wr := [(m, .inr (9, [.ref mh, .ref mg, .ref mt, .ref mf, .ref ms, .ref msT, .ref msF, .ref mgv, .ref mP, .ref mW, .ref mV, .ref mco, .ref men, .ref mnt, .int (nI 0), .int mse, .int mbr, .int mwk, .int mns, .int mtp, .int mss])), (mV, .inl (az, 42, .inl Am)), (mh, .inl (ai, 42, .inl Hm)), (mW, .inl (az, 168, .inl Wm))]) X dX9_addWall_29 (c_X9_sideOfN l D ai az al s (hs)) gX9_addWall_X9_sideOf rfl rfl ok_X9_sideOf rfl rfl (by decide) ⟨by decide, by decide⟩ (Nat.le_of_ble_eq_true rfl) [] [0, 1, 2, 3] ⟨rfl, by decide, rfl, by decide, by decide⟩ (fun r3 u hp => ?_)
  obtain rfl := hp
  refine g_sub (k := 0) (n := 0) (ws' := [(m, .inr (9, [.ref mh, .ref mg, .ref mt, .ref mf, .ref ms, .ref msT, .ref msF, .ref mgv, .ref mP, .ref mW, .ref mV, .ref mco, .ref men, .ref mnt, .int (nI 0), .int mse, .int mbr, .int mwk, .int mns, .int mtp, .int mss])), (mV, .inl (az, 42, .inl Am)), (mh, .inl (ai, 42, .inl Hm)), (mW, .inl (az, 168, .inl Wm))]) [0, 1, 2, 3] (by decide) rfl ?_
  refine g_callVi (C := RX9) (As := [.int (nI (y * 6 + x)), .int (nI s)]) (rest := []) (wr := [(mV, .inl (az, 42, .inl Am)), (mh, .inl (ai, 42, .inl Hm))]) X dX9_addWall_32 (c_X9_isOpen l D ai az al m mh mg mt mf ms msT msF mgv mP mW mV mco men mnt (nI 0) mse mbr mwk mns mtp mss Wm nb (y * 6 + x) s (by omega) (hs) (hW) (hWm)) gX9_addWall_X9_isOpen rfl rfl ok_X9_isOpen rfl rfl (by decide) ⟨by decide, by decide⟩ (Nat.le_of_ble_eq_true rfl) [0, 3] [1, 2] ⟨rfl, by decide, rfl, by decide, by decide⟩ 0 rfl rfl rfl (fun r4 u hp => ?_)
  obtain rfl := hp
  refine g_sub (k := 0) (n := 0) (ws' := [(m, .inr (9, [.ref mh, .ref mg, .ref mt, .ref mf, .ref ms, .ref msT, .ref msF, .ref mgv, .ref mP, .ref mW, .ref mV, .ref mco, .ref men, .ref mnt, .int (nI 0), .int mse, .int mbr, .int mwk, .int mns, .int mtp, .int mss])), (mV, .inl (az, 42, .inl Am)), (mh, .inl (ai, 42, .inl Hm)), (mW, .inl (az, 168, .inl Wm))]) [2, 0, 1, 3] (by decide) rfl ?_
  rw [show bn (decide (nb (y * 6 + x) s ≠ 43)) = 1 from by rw [decide_eq_true (p := nb (y * 6 + x) s ≠ 43) he]; rfl]
  refine g_if_neN (tgt := 43) X dX9_addWall_35 (by decide) (by decide) (fun b35x => ?_) (fun b35x => False.elim (by revert b35x; decide))
  refine g_aload_n X dX9_addWall_43 rfl 1 rfl ?_
  refine g_getf (T := TX9) (v := .int (nI 0)) X dX9_addWall_44 0 rfl rfl in_X9_addWall_X9 14 (by decide) (by decide +kernel) rfl rfl ?_
  refine g_if_leN (tgt := 52) X dX9_addWall_47 (by decide) (by decide) (fun b47x => ?_) (fun b47x => False.elim (by revert b47x; decide))
  refine g_aload_n X dX9_addWall_52 rfl 1 rfl ?_
  refine g_iload X dX9_addWall_53 0 rfl ?_
  refine g_iload_n X dX9_addWall_55 rfl 4 rfl ?_
  refine g_callSi (As := [.int (sdI s)]) (rest := [.int (nI (y * 6 + x)), .ref m]) (wr := [(m, .inr (9, [.ref mh, .ref mg, .ref mt, .ref mf, .ref ms, .ref msT, .ref msF, .ref mgv, .ref mP, .ref mW, .ref mV, .ref mco, .ref men, .ref mnt, .int (nI 0), .int mse, .int mbr, .int mwk, .int mns, .int mtp, .int mss])), (mV, .inl (az, 42, .inl Am)), (mh, .inl (ai, 42, .inl Hm)), (mW, .inl (az, 168, .inl Wm))]) X dX9_addWall_56 (c_X9_sideOfN l D ai az al s (hs)) gX9_addWall_X9_sideOf rfl rfl ok_X9_sideOf rfl rfl (by decide) ⟨by decide, by decide⟩ (Nat.le_of_ble_eq_true rfl) [] [0, 1, 2, 3] ⟨rfl, by decide, rfl, by decide, by decide⟩ (fun r5 u hp => ?_)
  obtain rfl := hp
  refine g_sub (k := 0) (n := 0) (ws' := [(m, .inr (9, [.ref mh, .ref mg, .ref mt, .ref mf, .ref ms, .ref msT, .ref msF, .ref mgv, .ref mP, .ref mW, .ref mV, .ref mco, .ref men, .ref mnt, .int (nI 0), .int mse, .int mbr, .int mwk, .int mns, .int mtp, .int mss])), (mV, .inl (az, 42, .inl Am)), (mh, .inl (ai, 42, .inl Hm)), (mW, .inl (az, 168, .inl Wm))]) [0, 1, 2, 3] (by decide) rfl ?_
  refine g_iconst (v := nI 1) X dX9_addWall_59 (by decide) ?_
  refine g_callVv (C := RX9) (As := [.int (nI (y * 6 + x)), .int (nI s), .int (nI 1)]) (rest := []) (wr := [(mV, .inl (az, 42, .inl Am)), (mh, .inl (ai, 42, .inl Hm))]) X dX9_addWall_60 (c_X9_layT l D ai az al m mh mg mt mf ms msT msF mgv mP mW mV mco men mnt (nI 0) mse mbr mwk mns mtp mss Wm nb (y * 6 + x) s (by omega) (hs) (hWm) (by rw [← hW.op (by omega) hs he]; exact he)) gX9_addWall_X9_lay rfl rfl ok_X9_lay rfl rfl (by decide) ⟨by decide, by decide⟩ (Nat.le_of_ble_eq_true rfl) [0, 3] [1, 2] ⟨rfl, by decide, rfl, by decide, by decide⟩ 0 rfl rfl rfl (fun W5 hp => ?_)
  try dsimp only at hp
  have hW5 := hp
  refine g_sub (k := 0) (n := 0) (ws' := [(m, .inr (9, [.ref mh, .ref mg, .ref mt, .ref mf, .ref ms, .ref msT, .ref msF, .ref mgv, .ref mP, .ref mW, .ref mV, .ref mco, .ref men, .ref mnt, .int (nI 0), .int mse, .int mbr, .int (mwk + nI 1), .int mns, .int mtp, .int mss])), (mV, .inl (az, 42, .inl Am)), (mh, .inl (ai, 42, .inl Hm)), (mW, .inl (az, 168, .inl W5))]) [2, 0, 1, 3] (by decide) rfl ?_
  refine g_aload_n X dX9_addWall_63 rfl 1 rfl ?_
  refine g_ldc (v := nI 1000000) X dX9_addWall_64 (by decide +kernel) ?_
  refine g_callVi (C := RX9) (As := [.int (nI 1000000)]) (rest := []) (wr := []) X dX9_addWall_66 (c_X9_wets l D ai az al m mh mg mt mf ms msT msF mgv mP mW mV mco men mnt (nI 0) mse mbr (mwk + nI 1) mns mtp mss Am Hm W5 (setS nb (y * 6 + x) s true) h 1000000 (hW.set (by omega) hs true) (hW5) (hH) (hb) (by decide)) gX9_addWall_X9_wets rfl rfl ok_X9_wets rfl rfl (by decide) ⟨by decide, by decide⟩ (Nat.le_of_ble_eq_true rfl) [0, 1, 2, 3] [] ⟨rfl, by decide, rfl, by decide, by decide⟩ 0 rfl rfl rfl (fun r6 u hp => ?_)
  obtain ⟨A6, V6⟩ := u
  try dsimp only at hp
  obtain ⟨rfl, hF6, hV6⟩ := hp
  refine g_sub (k := 0) (n := 0) (ws' := [(m, .inr (9, [.ref mh, .ref mg, .ref mt, .ref mf, .ref ms, .ref msT, .ref msF, .ref mgv, .ref mP, .ref mW, .ref mV, .ref mco, .ref men, .ref mnt, .int (nI 0), .int mse, .int mbr, .int (mwk + nI 1), .int mns, .int mtp, .int mss])), (mV, .inl (az, 42, .inl A6)), (mh, .inl (ai, 42, .inl Hm)), (mW, .inl (az, 168, .inl W5))]) [0, 1, 2, 3] (by decide) rfl ?_
  have hcc : cB V6 42 = cB V0 42 := cB_congr (hF6.one hFV)
  have hc42 := cB_le V6 42
  refine g_bipush (v := nI 42) X dX9_addWall_69 (by decide) ?_
  refine g_icmp_geN (tgt := 92) X dX9_addWall_71 (by decide) (by omega) (by omega) (fun b71 => False.elim (by omega)) (fun b71 => ?_)
  refine g_aload_n X dX9_addWall_74 rfl 1 rfl ?_
  refine g_iload X dX9_addWall_75 0 rfl ?_
  refine g_iload_n X dX9_addWall_77 rfl 4 rfl ?_
  refine g_callSi (As := [.int (sdI s)]) (rest := [.int (nI (y * 6 + x)), .ref m]) (wr := [(m, .inr (9, [.ref mh, .ref mg, .ref mt, .ref mf, .ref ms, .ref msT, .ref msF, .ref mgv, .ref mP, .ref mW, .ref mV, .ref mco, .ref men, .ref mnt, .int (nI 0), .int mse, .int mbr, .int (mwk + nI 1), .int mns, .int mtp, .int mss])), (mV, .inl (az, 42, .inl A6)), (mh, .inl (ai, 42, .inl Hm)), (mW, .inl (az, 168, .inl W5))]) X dX9_addWall_78 (c_X9_sideOfN l D ai az al s (hs)) gX9_addWall_X9_sideOf rfl rfl ok_X9_sideOf rfl rfl (by decide) ⟨by decide, by decide⟩ (Nat.le_of_ble_eq_true rfl) [] [0, 1, 2, 3] ⟨rfl, by decide, rfl, by decide, by decide⟩ (fun r7 u hp => ?_)
  obtain rfl := hp
  refine g_sub (k := 0) (n := 0) (ws' := [(m, .inr (9, [.ref mh, .ref mg, .ref mt, .ref mf, .ref ms, .ref msT, .ref msF, .ref mgv, .ref mP, .ref mW, .ref mV, .ref mco, .ref men, .ref mnt, .int (nI 0), .int mse, .int mbr, .int (mwk + nI 1), .int mns, .int mtp, .int mss])), (mV, .inl (az, 42, .inl A6)), (mh, .inl (ai, 42, .inl Hm)), (mW, .inl (az, 168, .inl W5))]) [0, 1, 2, 3] (by decide) rfl ?_
  refine g_iconst (v := nI 0) X dX9_addWall_81 (by decide) ?_
  refine g_callVv (C := RX9) (As := [.int (nI (y * 6 + x)), .int (nI s), .int (nI 0)]) (rest := []) (wr := [(mV, .inl (az, 42, .inl A6)), (mh, .inl (ai, 42, .inl Hm))]) X dX9_addWall_82 (c_X9_layF l D ai az al m mh mg mt mf ms msT msF mgv mP mW mV mco men mnt (nI 0) mse mbr (mwk + nI 1) mns mtp mss W5 (setS nb (y * 6 + x) s true) (y * 6 + x) s (by omega) (hs) (hW5) (by rw [← hW.op (by omega) hs he]; exact he)) gX9_addWall_X9_lay rfl rfl ok_X9_lay rfl rfl (by decide) ⟨by decide, by decide⟩ (Nat.le_of_ble_eq_true rfl) [0, 3] [1, 2] ⟨rfl, by decide, rfl, by decide, by decide⟩ 0 rfl rfl rfl (fun W7 hp => ?_)
  try dsimp only at hp
  have hW7 := hp
  refine g_sub (k := 0) (n := 0) (ws' := [(m, .inr (9, [.ref mh, .ref mg, .ref mt, .ref mf, .ref ms, .ref msT, .ref msF, .ref mgv, .ref mP, .ref mW, .ref mV, .ref mco, .ref men, .ref mnt, .int (nI 0), .int mse, .int mbr, .int ((mwk + nI 1) + (-1)), .int mns, .int mtp, .int mss])), (mV, .inl (az, 42, .inl A6)), (mh, .inl (ai, 42, .inl Hm)), (mW, .inl (az, 168, .inl W7))]) [2, 0, 1, 3] (by decide) rfl ?_
  have e9 : mwk + nI 1 + (-1) = mwk := by rw [Int32.add_assoc]; exact Int32.add_zero mwk
  rw [e9]
  refine g_aload_n X dX9_addWall_85 rfl 1 rfl ?_
  refine g_iconst (v := nI 4) X dX9_addWall_86 (by decide) ?_
  refine g_putf (T := TX9) (v := .int (nI 4)) (ty := tyX9 14) (ws' := [(m, .inr (9, [.ref mh, .ref mg, .ref mt, .ref mf, .ref ms, .ref msT, .ref msF, .ref mgv, .ref mP, .ref mW, .ref mV, .ref mco, .ref men, .ref mnt, .int (nI 4), .int mse, .int mbr, .int mwk, .int mns, .int mtp, .int mss])), (mV, .inl (az, 42, .inl A6)), (mh, .inl (ai, 42, .inl Hm)), (mW, .inl (az, 168, .inl W7))]) X dX9_addWall_87 0 rfl rfl in_X9_addWall_X9 tyX9 tyX9_ok nmX9 14 (by decide) (by decide +kernel) rfl rfl (by decide +kernel) rfl rfl (Nat.le_of_ble_eq_true rfl) rfl ?_
  refine g_iconst (v := nI 0) X dX9_addWall_90 (by decide) ?_
  exact g_iret X E dX9_addWall_91 (⟨A6, W7⟩) rfl (by decide) (by decide) (⟨rfl, hW7.congr (setS_setS hW (by omega) hs he)⟩)

theorem ok_X9_removeWall : okName yX9_removeWall 3 := by decide +kernel
theorem in_X9_removeWall_X9 : ∀ w ∈ u_ws RX9 TX9 21, w ∈ wsX9_removeWall := by decide +kernel
set_option maxRecDepth 100000 in
set_option maxHeartbeats 4000000 in
theorem c_X9_removeWall1 (l : Launch) (D : va_G) (ai az al : ClassId) (m : Nat) (mh : Nat) (mg : Nat) (mt : Nat) (mf : Nat) (ms : Nat) (msT : Nat) (msF : Nat) (mgv : Nat) (mP : Nat) (mW : Nat) (mV : Nat) (mco : Nat) (men : Nat) (mnt : Nat) (tw : Int32) (mse : Int32) (mbr : Int32) (mwk : Int32) (mns : Int32) (mtp : Int32) (mss : Int32) (p0 : Int32) (p1 : Int32) (p2 : Int32) (hq : ¬ CP p0 p1) : CI l D (tY ai az al) yX9_removeWall wsX9_removeWall { frames := 3, cells := 0, slots := 0, locals := 66 } [.ref m, .int p0, .int p1, .int p2] [(m, .inr (9, [.ref mh, .ref mg, .ref mt, .ref mf, .ref ms, .ref msT, .ref msF, .ref mgv, .ref mP, .ref mW, .ref mV, .ref mco, .ref men, .ref mnt, .int tw, .int mse, .int mbr, .int mwk, .int mns, .int mtp, .int mss]))] (fun (r : Int32) (u : Unit) => r = nI 0) (fun (u : Unit) => [(m, .inr (9, [.ref mh, .ref mg, .ref mt, .ref mf, .ref ms, .ref msT, .ref msF, .ref mgv, .ref mP, .ref mW, .ref mV, .ref mco, .ref men, .ref mnt, .int (nI 1), .int mse, .int mbr, .int mwk, .int mns, .int mtp, .int mss]))]) := by
  refine ofG_I (cc := cX9_removeWall) (nL := 5) (lv0 := [(0, .ref m), (1, .int p0), (2, .int p1), (3, .int p2)]) (by decide) rfl (Nat.le_of_ble_eq_true rfl) rfl ?_
  intro Γ X E
  refine g_iload_n X dX9_removeWall_0 rfl 1 rfl ?_
  refine g_iload_n X dX9_removeWall_1 rfl 2 rfl ?_
  refine g_callSi (As := [.int p0, .int p1]) (rest := []) (wr := [(m, .inr (9, [.ref mh, .ref mg, .ref mt, .ref mf, .ref ms, .ref msT, .ref msF, .ref mgv, .ref mP, .ref mW, .ref mV, .ref mco, .ref men, .ref mnt, .int tw, .int mse, .int mbr, .int mwk, .int mns, .int mtp, .int mss]))]) X dX9_removeWall_2 (c_X9_atI l D ai az al p0 p1 ) gX9_removeWall_X9_at rfl rfl ok_X9_at rfl rfl (by decide) ⟨by decide, by decide⟩ (Nat.le_of_ble_eq_true rfl) [] [0] ⟨rfl, by decide, rfl, by decide, by decide⟩ (fun r1 u hp => ?_)
  obtain rfl := hp
  refine g_sub (k := 0) (n := 0) (ws' := [(m, .inr (9, [.ref mh, .ref mg, .ref mt, .ref mf, .ref ms, .ref msT, .ref msF, .ref mgv, .ref mP, .ref mW, .ref mV, .ref mco, .ref men, .ref mnt, .int tw, .int mse, .int mbr, .int mwk, .int mns, .int mtp, .int mss]))]) [0] (by decide) rfl ?_
  refine g_istore (lv' := [(4, .int (nI 6 * p1 + p0)), (0, .ref m), (1, .int p0), (2, .int p1), (3, .int p2)]) X dX9_removeWall_5 (by decide) rfl ?_
  refine g_aload_n X dX9_removeWall_7 rfl 1 rfl ?_
  refine g_aload_n X dX9_removeWall_8 rfl 1 rfl ?_
  refine g_iload_n X dX9_removeWall_9 rfl 2 rfl ?_
  refine g_iload_n X dX9_removeWall_10 rfl 3 rfl ?_
  refine g_iload_n X dX9_removeWall_11 rfl 4 rfl ?_
  refine g_callVi (C := RX9) (As := [.int p0, .int p1, .int p2]) (rest := [.ref m]) (wr := []) X dX9_removeWall_12 (c_X9_wrongSide1 l D ai az al m mh mg mt mf ms msT msF mgv mP mW mV mco men mnt tw mse mbr mwk mns mtp mss p0 p1 p2 (hq)) gX9_removeWall_X9_wrongSide rfl rfl ok_X9_wrongSide rfl rfl (by decide) ⟨by decide, by decide⟩ (Nat.le_of_ble_eq_true rfl) [0] [] ⟨rfl, by decide, rfl, by decide, by decide⟩ 0 rfl rfl rfl (fun r2 u hp => ?_)
  obtain rfl := hp
  refine g_sub (k := 0) (n := 0) (ws' := [(m, .inr (9, [.ref mh, .ref mg, .ref mt, .ref mf, .ref ms, .ref msT, .ref msF, .ref mgv, .ref mP, .ref mW, .ref mV, .ref mco, .ref men, .ref mnt, .int tw, .int mse, .int mbr, .int mwk, .int mns, .int mtp, .int mss]))]) [0] (by decide) rfl ?_
  refine g_putf (T := TX9) (v := .int (nI 1)) (ty := tyX9 14) (ws' := [(m, .inr (9, [.ref mh, .ref mg, .ref mt, .ref mf, .ref ms, .ref msT, .ref msF, .ref mgv, .ref mP, .ref mW, .ref mV, .ref mco, .ref men, .ref mnt, .int (nI 1), .int mse, .int mbr, .int mwk, .int mns, .int mtp, .int mss]))]) X dX9_removeWall_15 0 rfl rfl in_X9_removeWall_X9 tyX9 tyX9_ok nmX9 14 (by decide) (by decide +kernel) rfl rfl (by decide +kernel) rfl rfl (Nat.le_of_ble_eq_true rfl) rfl ?_
  refine g_aload_n X dX9_removeWall_18 rfl 1 rfl ?_
  refine g_getf (T := TX9) (v := .int (nI 1)) X dX9_removeWall_19 0 rfl rfl in_X9_removeWall_X9 14 (by decide) (by decide +kernel) rfl rfl ?_
  refine g_if_neN (tgt := 47) X dX9_removeWall_22 (by decide) (by decide) (fun b22x => ?_) (fun b22x => False.elim (by revert b22x; decide))
  refine g_aload_n X dX9_removeWall_47 rfl 1 rfl ?_
  refine g_getf (T := TX9) (v := .int (nI 1)) X dX9_removeWall_48 0 rfl rfl in_X9_removeWall_X9 14 (by decide) (by decide +kernel) rfl rfl ?_
  refine g_if_leN (tgt := 56) X dX9_removeWall_51 (by decide) (by decide) (fun b51x => False.elim (by revert b51x; decide)) (fun b51x => ?_)
  refine g_iconst (v := nI 0) X dX9_removeWall_54 (by decide) ?_
  exact g_iret X E dX9_removeWall_55 () rfl (by decide) (by decide) (rfl)

set_option maxRecDepth 100000 in
set_option maxHeartbeats 4000000 in
theorem c_X9_removeWall2 (l : Launch) (D : va_G) (ai az al : ClassId) (m : Nat) (mh : Nat) (mg : Nat) (mt : Nat) (mf : Nat) (ms : Nat) (msT : Nat) (msF : Nat) (mgv : Nat) (mP : Nat) (mW : Nat) (mV : Nat) (mco : Nat) (men : Nat) (mnt : Nat) (tw : Int32) (mse : Int32) (mbr : Int32) (mwk : Int32) (mns : Int32) (mtp : Int32) (mss : Int32) (p0 : Int32) (p1 : Int32) (p2 : Int32) (hq : CP p0 p1) (hq2 : ¬ isSd p2) : CI l D (tY ai az al) yX9_removeWall wsX9_removeWall { frames := 3, cells := 0, slots := 0, locals := 66 } [.ref m, .int p0, .int p1, .int p2] [(m, .inr (9, [.ref mh, .ref mg, .ref mt, .ref mf, .ref ms, .ref msT, .ref msF, .ref mgv, .ref mP, .ref mW, .ref mV, .ref mco, .ref men, .ref mnt, .int tw, .int mse, .int mbr, .int mwk, .int mns, .int mtp, .int mss]))] (fun (r : Int32) (u : Unit) => r = nI 0) (fun (u : Unit) => [(m, .inr (9, [.ref mh, .ref mg, .ref mt, .ref mf, .ref ms, .ref msT, .ref msF, .ref mgv, .ref mP, .ref mW, .ref mV, .ref mco, .ref men, .ref mnt, .int (nI 2), .int mse, .int mbr, .int mwk, .int mns, .int mtp, .int mss]))]) := by
  refine ofG_I (cc := cX9_removeWall) (nL := 5) (lv0 := [(0, .ref m), (1, .int p0), (2, .int p1), (3, .int p2)]) (by decide) rfl (Nat.le_of_ble_eq_true rfl) rfl ?_
  intro Γ X E
  refine g_iload_n X dX9_removeWall_0 rfl 1 rfl ?_
  refine g_iload_n X dX9_removeWall_1 rfl 2 rfl ?_
  refine g_callSi (As := [.int p0, .int p1]) (rest := []) (wr := [(m, .inr (9, [.ref mh, .ref mg, .ref mt, .ref mf, .ref ms, .ref msT, .ref msF, .ref mgv, .ref mP, .ref mW, .ref mV, .ref mco, .ref men, .ref mnt, .int tw, .int mse, .int mbr, .int mwk, .int mns, .int mtp, .int mss]))]) X dX9_removeWall_2 (c_X9_atI l D ai az al p0 p1 ) gX9_removeWall_X9_at rfl rfl ok_X9_at rfl rfl (by decide) ⟨by decide, by decide⟩ (Nat.le_of_ble_eq_true rfl) [] [0] ⟨rfl, by decide, rfl, by decide, by decide⟩ (fun r1 u hp => ?_)
  obtain rfl := hp
  refine g_sub (k := 0) (n := 0) (ws' := [(m, .inr (9, [.ref mh, .ref mg, .ref mt, .ref mf, .ref ms, .ref msT, .ref msF, .ref mgv, .ref mP, .ref mW, .ref mV, .ref mco, .ref men, .ref mnt, .int tw, .int mse, .int mbr, .int mwk, .int mns, .int mtp, .int mss]))]) [0] (by decide) rfl ?_
  refine g_istore (lv' := [(4, .int (nI 6 * p1 + p0)), (0, .ref m), (1, .int p0), (2, .int p1), (3, .int p2)]) X dX9_removeWall_5 (by decide) rfl ?_
  refine g_aload_n X dX9_removeWall_7 rfl 1 rfl ?_
  refine g_aload_n X dX9_removeWall_8 rfl 1 rfl ?_
  refine g_iload_n X dX9_removeWall_9 rfl 2 rfl ?_
  refine g_iload_n X dX9_removeWall_10 rfl 3 rfl ?_
  refine g_iload_n X dX9_removeWall_11 rfl 4 rfl ?_
  refine g_callVi (C := RX9) (As := [.int p0, .int p1, .int p2]) (rest := [.ref m]) (wr := []) X dX9_removeWall_12 (c_X9_wrongSide2 l D ai az al m mh mg mt mf ms msT msF mgv mP mW mV mco men mnt tw mse mbr mwk mns mtp mss p0 p1 p2 (hq) (hq2)) gX9_removeWall_X9_wrongSide rfl rfl ok_X9_wrongSide rfl rfl (by decide) ⟨by decide, by decide⟩ (Nat.le_of_ble_eq_true rfl) [0] [] ⟨rfl, by decide, rfl, by decide, by decide⟩ 0 rfl rfl rfl (fun r2 u hp => ?_)
  obtain rfl := hp
  refine g_sub (k := 0) (n := 0) (ws' := [(m, .inr (9, [.ref mh, .ref mg, .ref mt, .ref mf, .ref ms, .ref msT, .ref msF, .ref mgv, .ref mP, .ref mW, .ref mV, .ref mco, .ref men, .ref mnt, .int tw, .int mse, .int mbr, .int mwk, .int mns, .int mtp, .int mss]))]) [0] (by decide) rfl ?_
  refine g_putf (T := TX9) (v := .int (nI 2)) (ty := tyX9 14) (ws' := [(m, .inr (9, [.ref mh, .ref mg, .ref mt, .ref mf, .ref ms, .ref msT, .ref msF, .ref mgv, .ref mP, .ref mW, .ref mV, .ref mco, .ref men, .ref mnt, .int (nI 2), .int mse, .int mbr, .int mwk, .int mns, .int mtp, .int mss]))]) X dX9_removeWall_15 0 rfl rfl in_X9_removeWall_X9 tyX9 tyX9_ok nmX9 14 (by decide) (by decide +kernel) rfl rfl (by decide +kernel) rfl rfl (Nat.le_of_ble_eq_true rfl) rfl ?_
  refine g_aload_n X dX9_removeWall_18 rfl 1 rfl ?_
  refine g_getf (T := TX9) (v := .int (nI 2)) X dX9_removeWall_19 0 rfl rfl in_X9_removeWall_X9 14 (by decide) (by decide +kernel) rfl rfl ?_
  refine g_if_neN (tgt := 47) X dX9_removeWall_22 (by decide) (by decide) (fun b22x => ?_) (fun b22x => False.elim (by revert b22x; decide))
  refine g_aload_n X dX9_removeWall_47 rfl 1 rfl ?_
  refine g_getf (T := TX9) (v := .int (nI 2)) X dX9_removeWall_48 0 rfl rfl in_X9_removeWall_X9 14 (by decide) (by decide +kernel) rfl rfl ?_
  refine g_if_leN (tgt := 56) X dX9_removeWall_51 (by decide) (by decide) (fun b51x => False.elim (by revert b51x; decide)) (fun b51x => ?_)
  refine g_iconst (v := nI 0) X dX9_removeWall_54 (by decide) ?_
  exact g_iret X E dX9_removeWall_55 () rfl (by decide) (by decide) (rfl)

set_option maxRecDepth 100000 in
set_option maxHeartbeats 4000000 in
theorem c_X9_removeWall3 (l : Launch) (D : va_G) (ai az al : ClassId) (m : Nat) (mh : Nat) (mg : Nat) (mt : Nat) (mf : Nat) (ms : Nat) (msT : Nat) (msF : Nat) (mgv : Nat) (mP : Nat) (mW : Nat) (mV : Nat) (mco : Nat) (men : Nat) (mnt : Nat) (tw : Int32) (mse : Int32) (mbr : Int32) (mwk : Int32) (mns : Int32) (mtp : Int32) (mss : Int32) (Wm : Nat → Int32) (nb : Nat → Nat → Nat) (x : Nat) (y : Nat) (s : Nat) (hx : x < 6) (hy : y < 7) (hs : s < 4) (hW : NW nb) (hWm : WOK Wm nb) (he : ¬ (nb (y * 6 + x) s = 43 ∧ bN (y * 6 + x) s ≠ 43)) : CI l D (tY ai az al) yX9_removeWall wsX9_removeWall { frames := 3, cells := 0, slots := 0, locals := 66 } [.ref m, .int (nI x), .int (nI y), .int (sdI s)] [(m, .inr (9, [.ref mh, .ref mg, .ref mt, .ref mf, .ref ms, .ref msT, .ref msF, .ref mgv, .ref mP, .ref mW, .ref mV, .ref mco, .ref men, .ref mnt, .int tw, .int mse, .int mbr, .int mwk, .int mns, .int mtp, .int mss])), (mW, .inl (az, 168, .inl Wm))] (fun (r : Int32) (u : Unit) => r = nI 0) (fun (u : Unit) => [(m, .inr (9, [.ref mh, .ref mg, .ref mt, .ref mf, .ref ms, .ref msT, .ref msF, .ref mgv, .ref mP, .ref mW, .ref mV, .ref mco, .ref men, .ref mnt, .int (nI 3), .int mse, .int mbr, .int mwk, .int mns, .int mtp, .int mss])), (mW, .inl (az, 168, .inl Wm))]) := by
  refine ofG_I (cc := cX9_removeWall) (nL := 5) (lv0 := [(0, .ref m), (1, .int (nI x)), (2, .int (nI y)), (3, .int (sdI s))]) (by decide) rfl (Nat.le_of_ble_eq_true rfl) rfl ?_
  intro Γ X E
  refine g_iload_n X dX9_removeWall_0 rfl 1 rfl ?_
  refine g_iload_n X dX9_removeWall_1 rfl 2 rfl ?_
  refine g_callSi (As := [.int (nI x), .int (nI y)]) (rest := []) (wr := [(m, .inr (9, [.ref mh, .ref mg, .ref mt, .ref mf, .ref ms, .ref msT, .ref msF, .ref mgv, .ref mP, .ref mW, .ref mV, .ref mco, .ref men, .ref mnt, .int tw, .int mse, .int mbr, .int mwk, .int mns, .int mtp, .int mss])), (mW, .inl (az, 168, .inl Wm))]) X dX9_removeWall_2 (c_X9_at l D ai az al x y ) gX9_removeWall_X9_at rfl rfl ok_X9_at rfl rfl (by decide) ⟨by decide, by decide⟩ (Nat.le_of_ble_eq_true rfl) [] [0, 1] ⟨rfl, by decide, rfl, by decide, by decide⟩ (fun r1 u hp => ?_)
  obtain rfl := hp
  refine g_sub (k := 0) (n := 0) (ws' := [(m, .inr (9, [.ref mh, .ref mg, .ref mt, .ref mf, .ref ms, .ref msT, .ref msF, .ref mgv, .ref mP, .ref mW, .ref mV, .ref mco, .ref men, .ref mnt, .int tw, .int mse, .int mbr, .int mwk, .int mns, .int mtp, .int mss])), (mW, .inl (az, 168, .inl Wm))]) [0, 1] (by decide) rfl ?_
  refine g_istore (lv' := [(4, .int (nI (y * 6 + x))), (0, .ref m), (1, .int (nI x)), (2, .int (nI y)), (3, .int (sdI s))]) X dX9_removeWall_5 (by decide) rfl ?_
  refine g_aload_n X dX9_removeWall_7 rfl 1 rfl ?_
  refine g_aload_n X dX9_removeWall_8 rfl 1 rfl ?_
  refine g_iload_n X dX9_removeWall_9 rfl 2 rfl ?_
  refine g_iload_n X dX9_removeWall_10 rfl 3 rfl ?_
  refine g_iload_n X dX9_removeWall_11 rfl 4 rfl ?_
  refine g_callVi (C := RX9) (As := [.int (nI x), .int (nI y), .int (sdI s)]) (rest := [.ref m]) (wr := [(mW, .inl (az, 168, .inl Wm))]) X dX9_removeWall_12 (c_X9_wrongSide0 l D ai az al m mh mg mt mf ms msT msF mgv mP mW mV mco men mnt tw mse mbr mwk mns mtp mss (nI x) (nI y) s (CP_of hx hy) (hs)) gX9_removeWall_X9_wrongSide rfl rfl ok_X9_wrongSide rfl rfl (by decide) ⟨by decide, by decide⟩ (Nat.le_of_ble_eq_true rfl) [0] [1] ⟨rfl, by decide, rfl, by decide, by decide⟩ 0 rfl rfl rfl (fun r2 u hp => ?_)
  obtain rfl := hp
  refine g_sub (k := 0) (n := 0) (ws' := [(m, .inr (9, [.ref mh, .ref mg, .ref mt, .ref mf, .ref ms, .ref msT, .ref msF, .ref mgv, .ref mP, .ref mW, .ref mV, .ref mco, .ref men, .ref mnt, .int tw, .int mse, .int mbr, .int mwk, .int mns, .int mtp, .int mss])), (mW, .inl (az, 168, .inl Wm))]) [1, 0] (by decide) rfl ?_
  refine g_putf (T := TX9) (v := .int (nI 0)) (ty := tyX9 14) (ws' := [(m, .inr (9, [.ref mh, .ref mg, .ref mt, .ref mf, .ref ms, .ref msT, .ref msF, .ref mgv, .ref mP, .ref mW, .ref mV, .ref mco, .ref men, .ref mnt, .int (nI 0), .int mse, .int mbr, .int mwk, .int mns, .int mtp, .int mss])), (mW, .inl (az, 168, .inl Wm))]) X dX9_removeWall_15 0 rfl rfl in_X9_removeWall_X9 tyX9 tyX9_ok nmX9 14 (by decide) (by decide +kernel) rfl rfl (by decide +kernel) rfl rfl (Nat.le_of_ble_eq_true rfl) rfl ?_
  refine g_aload_n X dX9_removeWall_18 rfl 1 rfl ?_
  refine g_getf (T := TX9) (v := .int (nI 0)) X dX9_removeWall_19 0 rfl rfl in_X9_removeWall_X9 14 (by decide) (by decide +kernel) rfl rfl ?_
  refine g_if_neN (tgt := 47) X dX9_removeWall_22 (by decide) (by decide) (fun b22x => False.elim (by revert b22x; decide)) (fun b22x => ?_)
  refine g_aload_n X dX9_removeWall_25 rfl 1 rfl ?_
  refine g_getf (T := TX9) (v := .ref mW) X dX9_removeWall_26 0 rfl rfl in_X9_removeWall_X9 9 (by decide) (by decide +kernel) rfl rfl ?_
  refine g_iconst (v := nI 4) X dX9_removeWall_29 (by decide) ?_
  refine g_iload X dX9_removeWall_30 0 rfl ?_
  refine g_imul (v := nI ((y * 6 + x) * 4)) X dX9_removeWall_32 (m4 _) ?_
  refine g_iload_n X dX9_removeWall_33 rfl 4 rfl ?_
  refine g_callSi (As := [.int (sdI s)]) (rest := [.int (nI ((y * 6 + x) * 4)), .ref mW]) (wr := [(m, .inr (9, [.ref mh, .ref mg, .ref mt, .ref mf, .ref ms, .ref msT, .ref msF, .ref mgv, .ref mP, .ref mW, .ref mV, .ref mco, .ref men, .ref mnt, .int (nI 0), .int mse, .int mbr, .int mwk, .int mns, .int mtp, .int mss])), (mW, .inl (az, 168, .inl Wm))]) X dX9_removeWall_34 (c_X9_sideOfN l D ai az al s (hs)) gX9_removeWall_X9_sideOf rfl rfl ok_X9_sideOf rfl rfl (by decide) ⟨by decide, by decide⟩ (Nat.le_of_ble_eq_true rfl) [] [0, 1] ⟨rfl, by decide, rfl, by decide, by decide⟩ (fun r3 u hp => ?_)
  obtain rfl := hp
  refine g_sub (k := 0) (n := 0) (ws' := [(m, .inr (9, [.ref mh, .ref mg, .ref mt, .ref mf, .ref ms, .ref msT, .ref msF, .ref mgv, .ref mP, .ref mW, .ref mV, .ref mco, .ref men, .ref mnt, .int (nI 0), .int mse, .int mbr, .int mwk, .int mns, .int mtp, .int mss])), (mW, .inl (az, 168, .inl Wm))]) [0, 1] (by decide) rfl ?_
  refine g_iadd (v := nI (((y * 6 + x) * 4) + s)) X dX9_removeWall_37 (nI_add _ _) ?_
  refine g_zaldN (v := nI 0) X dX9_removeWall_38 1 1 rfl rfl (by omega) (by omega) (by rw [hWm (y * 6 + x) s (by omega) hs]; rw [decide_eq_false he]; rfl) ?_
  refine g_if_neN (tgt := 47) X dX9_removeWall_39 (by decide) (by decide) (fun b39x => False.elim (by revert b39x; decide)) (fun b39x => ?_)
  refine g_aload_n X dX9_removeWall_42 rfl 1 rfl ?_
  refine g_iconst (v := nI 3) X dX9_removeWall_43 (by decide) ?_
  refine g_putf (T := TX9) (v := .int (nI 3)) (ty := tyX9 14) (ws' := [(m, .inr (9, [.ref mh, .ref mg, .ref mt, .ref mf, .ref ms, .ref msT, .ref msF, .ref mgv, .ref mP, .ref mW, .ref mV, .ref mco, .ref men, .ref mnt, .int (nI 3), .int mse, .int mbr, .int mwk, .int mns, .int mtp, .int mss])), (mW, .inl (az, 168, .inl Wm))]) X dX9_removeWall_44 0 rfl rfl in_X9_removeWall_X9 tyX9 tyX9_ok nmX9 14 (by decide) (by decide +kernel) rfl rfl (by decide +kernel) rfl rfl (Nat.le_of_ble_eq_true rfl) rfl ?_
  refine g_aload_n X dX9_removeWall_47 rfl 1 rfl ?_
  refine g_getf (T := TX9) (v := .int (nI 3)) X dX9_removeWall_48 0 rfl rfl in_X9_removeWall_X9 14 (by decide) (by decide +kernel) rfl rfl ?_
  refine g_if_leN (tgt := 56) X dX9_removeWall_51 (by decide) (by decide) (fun b51x => False.elim (by revert b51x; decide)) (fun b51x => ?_)
  refine g_iconst (v := nI 0) X dX9_removeWall_54 (by decide) ?_
  exact g_iret X E dX9_removeWall_55 () rfl (by decide) (by decide) (rfl)

set_option maxRecDepth 100000 in
set_option maxHeartbeats 4000000 in
theorem c_X9_removeWall0 (l : Launch) (D : va_G) (ai az al : ClassId) (m : Nat) (mh : Nat) (mg : Nat) (mt : Nat) (mf : Nat) (ms : Nat) (msT : Nat) (msF : Nat) (mgv : Nat) (mP : Nat) (mW : Nat) (mV : Nat) (mco : Nat) (men : Nat) (mnt : Nat) (tw : Int32) (mse : Int32) (mbr : Int32) (mwk : Int32) (mns : Int32) (mtp : Int32) (mss : Int32) (Wm : Nat → Int32) (nb : Nat → Nat → Nat) (x : Nat) (y : Nat) (s : Nat) (hx : x < 6) (hy : y < 7) (hs : s < 4) (hW : NW nb) (hWm : WOK Wm nb) (he : nb (y * 6 + x) s = 43 ∧ bN (y * 6 + x) s ≠ 43) : CI l D (tY ai az al) yX9_removeWall wsX9_removeWall { frames := 3, cells := 0, slots := 0, locals := 66 } [.ref m, .int (nI x), .int (nI y), .int (sdI s)] [(m, .inr (9, [.ref mh, .ref mg, .ref mt, .ref mf, .ref ms, .ref msT, .ref msF, .ref mgv, .ref mP, .ref mW, .ref mV, .ref mco, .ref men, .ref mnt, .int tw, .int mse, .int mbr, .int mwk, .int mns, .int mtp, .int mss])), (mW, .inl (az, 168, .inl Wm))] (fun (r : Int32) (u : (Nat → Int32)) => r = (mwk + (-1)) ∧ WOK u (setS nb (y * 6 + x) s false)) (fun (u : (Nat → Int32)) => [(m, .inr (9, [.ref mh, .ref mg, .ref mt, .ref mf, .ref ms, .ref msT, .ref msF, .ref mgv, .ref mP, .ref mW, .ref mV, .ref mco, .ref men, .ref mnt, .int (nI 0), .int mse, .int mbr, .int (mwk + (-1)), .int mns, .int mtp, .int mss])), (mW, .inl (az, 168, .inl u))]) := by
  refine ofG_I (cc := cX9_removeWall) (nL := 5) (lv0 := [(0, .ref m), (1, .int (nI x)), (2, .int (nI y)), (3, .int (sdI s))]) (by decide) rfl (Nat.le_of_ble_eq_true rfl) rfl ?_
  intro Γ X E
  refine g_iload_n X dX9_removeWall_0 rfl 1 rfl ?_
  refine g_iload_n X dX9_removeWall_1 rfl 2 rfl ?_
  refine g_callSi (As := [.int (nI x), .int (nI y)]) (rest := []) (wr := [(m, .inr (9, [.ref mh, .ref mg, .ref mt, .ref mf, .ref ms, .ref msT, .ref msF, .ref mgv, .ref mP, .ref mW, .ref mV, .ref mco, .ref men, .ref mnt, .int tw, .int mse, .int mbr, .int mwk, .int mns, .int mtp, .int mss])), (mW, .inl (az, 168, .inl Wm))]) X dX9_removeWall_2 (c_X9_at l D ai az al x y ) gX9_removeWall_X9_at rfl rfl ok_X9_at rfl rfl (by decide) ⟨by decide, by decide⟩ (Nat.le_of_ble_eq_true rfl) [] [0, 1] ⟨rfl, by decide, rfl, by decide, by decide⟩ (fun r1 u hp => ?_)
  obtain rfl := hp
  refine g_sub (k := 0) (n := 0) (ws' := [(m, .inr (9, [.ref mh, .ref mg, .ref mt, .ref mf, .ref ms, .ref msT, .ref msF, .ref mgv, .ref mP, .ref mW, .ref mV, .ref mco, .ref men, .ref mnt, .int tw, .int mse, .int mbr, .int mwk, .int mns, .int mtp, .int mss])), (mW, .inl (az, 168, .inl Wm))]) [0, 1] (by decide) rfl ?_
  refine g_istore (lv' := [(4, .int (nI (y * 6 + x))), (0, .ref m), (1, .int (nI x)), (2, .int (nI y)), (3, .int (sdI s))]) X dX9_removeWall_5 (by decide) rfl ?_
  refine g_aload_n X dX9_removeWall_7 rfl 1 rfl ?_
  refine g_aload_n X dX9_removeWall_8 rfl 1 rfl ?_
  refine g_iload_n X dX9_removeWall_9 rfl 2 rfl ?_
  refine g_iload_n X dX9_removeWall_10 rfl 3 rfl ?_
  refine g_iload_n X dX9_removeWall_11 rfl 4 rfl ?_
  refine g_callVi (C := RX9) (As := [.int (nI x), .int (nI y), .int (sdI s)]) (rest := [.ref m]) (wr := [(mW, .inl (az, 168, .inl Wm))]) X dX9_removeWall_12 (c_X9_wrongSide0 l D ai az al m mh mg mt mf ms msT msF mgv mP mW mV mco men mnt tw mse mbr mwk mns mtp mss (nI x) (nI y) s (CP_of hx hy) (hs)) gX9_removeWall_X9_wrongSide rfl rfl ok_X9_wrongSide rfl rfl (by decide) ⟨by decide, by decide⟩ (Nat.le_of_ble_eq_true rfl) [0] [1] ⟨rfl, by decide, rfl, by decide, by decide⟩ 0 rfl rfl rfl (fun r2 u hp => ?_)
  obtain rfl := hp
  refine g_sub (k := 0) (n := 0) (ws' := [(m, .inr (9, [.ref mh, .ref mg, .ref mt, .ref mf, .ref ms, .ref msT, .ref msF, .ref mgv, .ref mP, .ref mW, .ref mV, .ref mco, .ref men, .ref mnt, .int tw, .int mse, .int mbr, .int mwk, .int mns, .int mtp, .int mss])), (mW, .inl (az, 168, .inl Wm))]) [1, 0] (by decide) rfl ?_
  refine g_putf (T := TX9) (v := .int (nI 0)) (ty := tyX9 14) (ws' := [(m, .inr (9, [.ref mh, .ref mg, .ref mt, .ref mf, .ref ms, .ref msT, .ref msF, .ref mgv, .ref mP, .ref mW, .ref mV, .ref mco, .ref men, .ref mnt, .int (nI 0), .int mse, .int mbr, .int mwk, .int mns, .int mtp, .int mss])), (mW, .inl (az, 168, .inl Wm))]) X dX9_removeWall_15 0 rfl rfl in_X9_removeWall_X9 tyX9 tyX9_ok nmX9 14 (by decide) (by decide +kernel) rfl rfl (by decide +kernel) rfl rfl (Nat.le_of_ble_eq_true rfl) rfl ?_
  refine g_aload_n X dX9_removeWall_18 rfl 1 rfl ?_
  refine g_getf (T := TX9) (v := .int (nI 0)) X dX9_removeWall_19 0 rfl rfl in_X9_removeWall_X9 14 (by decide) (by decide +kernel) rfl rfl ?_
  refine g_if_neN (tgt := 47) X dX9_removeWall_22 (by decide) (by decide) (fun b22x => False.elim (by revert b22x; decide)) (fun b22x => ?_)
  refine g_aload_n X dX9_removeWall_25 rfl 1 rfl ?_
  refine g_getf (T := TX9) (v := .ref mW) X dX9_removeWall_26 0 rfl rfl in_X9_removeWall_X9 9 (by decide) (by decide +kernel) rfl rfl ?_
  refine g_iconst (v := nI 4) X dX9_removeWall_29 (by decide) ?_
  refine g_iload X dX9_removeWall_30 0 rfl ?_
  refine g_imul (v := nI ((y * 6 + x) * 4)) X dX9_removeWall_32 (m4 _) ?_
  refine g_iload_n X dX9_removeWall_33 rfl 4 rfl ?_
  refine g_callSi (As := [.int (sdI s)]) (rest := [.int (nI ((y * 6 + x) * 4)), .ref mW]) (wr := [(m, .inr (9, [.ref mh, .ref mg, .ref mt, .ref mf, .ref ms, .ref msT, .ref msF, .ref mgv, .ref mP, .ref mW, .ref mV, .ref mco, .ref men, .ref mnt, .int (nI 0), .int mse, .int mbr, .int mwk, .int mns, .int mtp, .int mss])), (mW, .inl (az, 168, .inl Wm))]) X dX9_removeWall_34 (c_X9_sideOfN l D ai az al s (hs)) gX9_removeWall_X9_sideOf rfl rfl ok_X9_sideOf rfl rfl (by decide) ⟨by decide, by decide⟩ (Nat.le_of_ble_eq_true rfl) [] [0, 1] ⟨rfl, by decide, rfl, by decide, by decide⟩ (fun r3 u hp => ?_)
  obtain rfl := hp
  refine g_sub (k := 0) (n := 0) (ws' := [(m, .inr (9, [.ref mh, .ref mg, .ref mt, .ref mf, .ref ms, .ref msT, .ref msF, .ref mgv, .ref mP, .ref mW, .ref mV, .ref mco, .ref men, .ref mnt, .int (nI 0), .int mse, .int mbr, .int mwk, .int mns, .int mtp, .int mss])), (mW, .inl (az, 168, .inl Wm))]) [0, 1] (by decide) rfl ?_
  refine g_iadd (v := nI (((y * 6 + x) * 4) + s)) X dX9_removeWall_37 (nI_add _ _) ?_
  refine g_zaldN (v := nI 1) X dX9_removeWall_38 1 1 rfl rfl (by omega) (by omega) (by rw [hWm (y * 6 + x) s (by omega) hs]; rw [decide_eq_true he]; rfl) ?_
  refine g_if_neN (tgt := 47) X dX9_removeWall_39 (by decide) (by decide) (fun b39x => ?_) (fun b39x => False.elim (by revert b39x; decide))
  refine g_aload_n X dX9_removeWall_47 rfl 1 rfl ?_
  refine g_getf (T := TX9) (v := .int (nI 0)) X dX9_removeWall_48 0 rfl rfl in_X9_removeWall_X9 14 (by decide) (by decide +kernel) rfl rfl ?_
  refine g_if_leN (tgt := 56) X dX9_removeWall_51 (by decide) (by decide) (fun b51x => ?_) (fun b51x => False.elim (by revert b51x; decide))
  refine g_aload_n X dX9_removeWall_56 rfl 1 rfl ?_
  refine g_iload X dX9_removeWall_57 0 rfl ?_
  refine g_iload_n X dX9_removeWall_59 rfl 4 rfl ?_
  refine g_callSi (As := [.int (sdI s)]) (rest := [.int (nI (y * 6 + x)), .ref m]) (wr := [(m, .inr (9, [.ref mh, .ref mg, .ref mt, .ref mf, .ref ms, .ref msT, .ref msF, .ref mgv, .ref mP, .ref mW, .ref mV, .ref mco, .ref men, .ref mnt, .int (nI 0), .int mse, .int mbr, .int mwk, .int mns, .int mtp, .int mss])), (mW, .inl (az, 168, .inl Wm))]) X dX9_removeWall_60 (c_X9_sideOfN l D ai az al s (hs)) gX9_removeWall_X9_sideOf rfl rfl ok_X9_sideOf rfl rfl (by decide) ⟨by decide, by decide⟩ (Nat.le_of_ble_eq_true rfl) [] [0, 1] ⟨rfl, by decide, rfl, by decide, by decide⟩ (fun r4 u hp => ?_)
  obtain rfl := hp
  refine g_sub (k := 0) (n := 0) (ws' := [(m, .inr (9, [.ref mh, .ref mg, .ref mt, .ref mf, .ref ms, .ref msT, .ref msF, .ref mgv, .ref mP, .ref mW, .ref mV, .ref mco, .ref men, .ref mnt, .int (nI 0), .int mse, .int mbr, .int mwk, .int mns, .int mtp, .int mss])), (mW, .inl (az, 168, .inl Wm))]) [0, 1] (by decide) rfl ?_
  refine g_iconst (v := nI 0) X dX9_removeWall_63 (by decide) ?_
  refine g_callVv (C := RX9) (As := [.int (nI (y * 6 + x)), .int (nI s), .int (nI 0)]) (rest := []) (wr := []) X dX9_removeWall_64 (c_X9_layF l D ai az al m mh mg mt mf ms msT msF mgv mP mW mV mco men mnt (nI 0) mse mbr mwk mns mtp mss Wm nb (y * 6 + x) s (by omega) (hs) (hWm) (he.2)) gX9_removeWall_X9_lay rfl rfl ok_X9_lay rfl rfl (by decide) ⟨by decide, by decide⟩ (Nat.le_of_ble_eq_true rfl) [0, 1] [] ⟨rfl, by decide, rfl, by decide, by decide⟩ 0 rfl rfl rfl (fun W5 hp => ?_)
  try dsimp only at hp
  have hW5 := hp
  refine g_sub (k := 0) (n := 0) (ws' := [(m, .inr (9, [.ref mh, .ref mg, .ref mt, .ref mf, .ref ms, .ref msT, .ref msF, .ref mgv, .ref mP, .ref mW, .ref mV, .ref mco, .ref men, .ref mnt, .int (nI 0), .int mse, .int mbr, .int (mwk + (-1)), .int mns, .int mtp, .int mss])), (mW, .inl (az, 168, .inl W5))]) [0, 1] (by decide) rfl ?_
  refine g_aload_n X dX9_removeWall_67 rfl 1 rfl ?_
  refine g_getf (T := TX9) (v := .int (mwk + (-1))) X dX9_removeWall_68 0 rfl rfl in_X9_removeWall_X9 17 (by decide) (by decide +kernel) rfl rfl ?_
  exact g_iret X E dX9_removeWall_71 W5 rfl (by decide) (by decide) (⟨rfl, hW5⟩)

theorem ok_X9_height : okName yX9_height 2 := by decide +kernel
set_option maxRecDepth 100000 in
set_option maxHeartbeats 4000000 in
theorem c_X9_height1 (l : Launch) (D : va_G) (ai az al : ClassId) (m : Nat) (mh : Nat) (mg : Nat) (mt : Nat) (mf : Nat) (ms : Nat) (msT : Nat) (msF : Nat) (mgv : Nat) (mP : Nat) (mW : Nat) (mV : Nat) (mco : Nat) (men : Nat) (mnt : Nat) (tw : Int32) (mse : Int32) (mbr : Int32) (mwk : Int32) (mns : Int32) (mtp : Int32) (mss : Int32) (p0 : Int32) (p1 : Int32) (hq : ¬ CP p0 p1) : CI l D (tY ai az al) yX9_height wsX9_height { frames := 2, cells := 0, slots := 0, locals := 43 } [.ref m, .int p0, .int p1] [(m, .inr (9, [.ref mh, .ref mg, .ref mt, .ref mf, .ref ms, .ref msT, .ref msF, .ref mgv, .ref mP, .ref mW, .ref mV, .ref mco, .ref men, .ref mnt, .int tw, .int mse, .int mbr, .int mwk, .int mns, .int mtp, .int mss]))] (fun (r : Int32) (u : Unit) => r = nI 0) (fun (u : Unit) => [(m, .inr (9, [.ref mh, .ref mg, .ref mt, .ref mf, .ref ms, .ref msT, .ref msF, .ref mgv, .ref mP, .ref mW, .ref mV, .ref mco, .ref men, .ref mnt, .int (nI 1), .int mse, .int mbr, .int mwk, .int mns, .int mtp, .int mss]))]) := by
  refine ofG_I (cc := cX9_height) (nL := 3) (lv0 := [(0, .ref m), (1, .int p0), (2, .int p1)]) (by decide) rfl (Nat.le_of_ble_eq_true rfl) rfl ?_
  intro Γ X E
  refine g_aload_n X dX9_height_0 rfl 0 rfl ?_
  refine g_iload_n X dX9_height_1 rfl 1 rfl ?_
  refine g_iload_n X dX9_height_2 rfl 2 rfl ?_
  refine g_callSi (As := [.int p0, .int p1]) (rest := [.ref m]) (wr := [(m, .inr (9, [.ref mh, .ref mg, .ref mt, .ref mf, .ref ms, .ref msT, .ref msF, .ref mgv, .ref mP, .ref mW, .ref mV, .ref mco, .ref men, .ref mnt, .int tw, .int mse, .int mbr, .int mwk, .int mns, .int mtp, .int mss]))]) X dX9_height_3 (c_X9_isCellF l D ai az al p0 p1 (hq)) gX9_height_X9_isCell rfl rfl ok_X9_isCell rfl rfl (by decide) ⟨by decide, by decide⟩ (Nat.le_of_ble_eq_true rfl) [] [0] ⟨rfl, by decide, rfl, by decide, by decide⟩ (fun r1 u hp => ?_)
  obtain rfl := hp
  refine g_sub (k := 0) (n := 0) (ws' := [(m, .inr (9, [.ref mh, .ref mg, .ref mt, .ref mf, .ref ms, .ref msT, .ref msF, .ref mgv, .ref mP, .ref mW, .ref mV, .ref mco, .ref men, .ref mnt, .int tw, .int mse, .int mbr, .int mwk, .int mns, .int mtp, .int mss]))]) [0] (by decide) rfl ?_
  refine g_callVi (C := RX9) (As := [.int (nI 0)]) (rest := []) (wr := []) X dX9_height_6 (c_X9_checkedF l D ai az al m mh mg mt mf ms msT msF mgv mP mW mV mco men mnt tw mse mbr mwk mns mtp mss ) gX9_height_X9_checked rfl rfl ok_X9_checked rfl rfl (by decide) ⟨by decide, by decide⟩ (Nat.le_of_ble_eq_true rfl) [0] [] ⟨rfl, by decide, rfl, by decide, by decide⟩ 0 rfl rfl rfl (fun r2 u hp => ?_)
  obtain rfl := hp
  refine g_sub (k := 0) (n := 0) (ws' := [(m, .inr (9, [.ref mh, .ref mg, .ref mt, .ref mf, .ref ms, .ref msT, .ref msF, .ref mgv, .ref mP, .ref mW, .ref mV, .ref mco, .ref men, .ref mnt, .int (nI 1), .int mse, .int mbr, .int mwk, .int mns, .int mtp, .int mss]))]) [0] (by decide) rfl ?_
  refine g_if_leN (tgt := 16) X dX9_height_9 (by decide) (by decide) (fun b9x => False.elim (by revert b9x; decide)) (fun b9x => ?_)
  refine g_iconst (v := nI 0) X dX9_height_12 (by decide) ?_
  refine g_goto (tgt := 26) X dX9_height_13 (by decide) ?_
  exact g_iret X E dX9_height_26 () rfl (by decide) (by decide) (rfl)

theorem in_X9_height_X9 : ∀ w ∈ u_ws RX9 TX9 21, w ∈ wsX9_height := by decide +kernel
set_option maxRecDepth 100000 in
set_option maxHeartbeats 4000000 in
theorem c_X9_height0 (l : Launch) (D : va_G) (ai az al : ClassId) (m : Nat) (mh : Nat) (mg : Nat) (mt : Nat) (mf : Nat) (ms : Nat) (msT : Nat) (msF : Nat) (mgv : Nat) (mP : Nat) (mW : Nat) (mV : Nat) (mco : Nat) (men : Nat) (mnt : Nat) (tw : Int32) (mse : Int32) (mbr : Int32) (mwk : Int32) (mns : Int32) (mtp : Int32) (mss : Int32) (Hm : Nat → Int32) (x : Nat) (y : Nat) (hx : x < 6) (hy : y < 7) : CI l D (tY ai az al) yX9_height wsX9_height { frames := 2, cells := 0, slots := 0, locals := 43 } [.ref m, .int (nI x), .int (nI y)] [(m, .inr (9, [.ref mh, .ref mg, .ref mt, .ref mf, .ref ms, .ref msT, .ref msF, .ref mgv, .ref mP, .ref mW, .ref mV, .ref mco, .ref men, .ref mnt, .int tw, .int mse, .int mbr, .int mwk, .int mns, .int mtp, .int mss])), (mh, .inl (ai, 42, .inl Hm))] (fun (r : Int32) (u : Unit) => r = (Hm (y * 6 + x))) (fun (u : Unit) => [(m, .inr (9, [.ref mh, .ref mg, .ref mt, .ref mf, .ref ms, .ref msT, .ref msF, .ref mgv, .ref mP, .ref mW, .ref mV, .ref mco, .ref men, .ref mnt, .int (nI 0), .int mse, .int mbr, .int mwk, .int mns, .int mtp, .int mss])), (mh, .inl (ai, 42, .inl Hm))]) := by
  refine ofG_I (cc := cX9_height) (nL := 3) (lv0 := [(0, .ref m), (1, .int (nI x)), (2, .int (nI y))]) (by decide) rfl (Nat.le_of_ble_eq_true rfl) rfl ?_
  intro Γ X E
  refine g_aload_n X dX9_height_0 rfl 0 rfl ?_
  refine g_iload_n X dX9_height_1 rfl 1 rfl ?_
  refine g_iload_n X dX9_height_2 rfl 2 rfl ?_
  refine g_callSi (As := [.int (nI x), .int (nI y)]) (rest := [.ref m]) (wr := [(m, .inr (9, [.ref mh, .ref mg, .ref mt, .ref mf, .ref ms, .ref msT, .ref msF, .ref mgv, .ref mP, .ref mW, .ref mV, .ref mco, .ref men, .ref mnt, .int tw, .int mse, .int mbr, .int mwk, .int mns, .int mtp, .int mss])), (mh, .inl (ai, 42, .inl Hm))]) X dX9_height_3 (c_X9_isCellT l D ai az al (nI x) (nI y) (CP_of hx hy)) gX9_height_X9_isCell rfl rfl ok_X9_isCell rfl rfl (by decide) ⟨by decide, by decide⟩ (Nat.le_of_ble_eq_true rfl) [] [0, 1] ⟨rfl, by decide, rfl, by decide, by decide⟩ (fun r1 u hp => ?_)
  obtain rfl := hp
  refine g_sub (k := 0) (n := 0) (ws' := [(m, .inr (9, [.ref mh, .ref mg, .ref mt, .ref mf, .ref ms, .ref msT, .ref msF, .ref mgv, .ref mP, .ref mW, .ref mV, .ref mco, .ref men, .ref mnt, .int tw, .int mse, .int mbr, .int mwk, .int mns, .int mtp, .int mss])), (mh, .inl (ai, 42, .inl Hm))]) [0, 1] (by decide) rfl ?_
  refine g_callVi (C := RX9) (As := [.int (nI 1)]) (rest := []) (wr := [(mh, .inl (ai, 42, .inl Hm))]) X dX9_height_6 (c_X9_checkedT l D ai az al m mh mg mt mf ms msT msF mgv mP mW mV mco men mnt tw mse mbr mwk mns mtp mss ) gX9_height_X9_checked rfl rfl ok_X9_checked rfl rfl (by decide) ⟨by decide, by decide⟩ (Nat.le_of_ble_eq_true rfl) [0] [1] ⟨rfl, by decide, rfl, by decide, by decide⟩ 0 rfl rfl rfl (fun r2 u hp => ?_)
  obtain rfl := hp
  refine g_sub (k := 0) (n := 0) (ws' := [(m, .inr (9, [.ref mh, .ref mg, .ref mt, .ref mf, .ref ms, .ref msT, .ref msF, .ref mgv, .ref mP, .ref mW, .ref mV, .ref mco, .ref men, .ref mnt, .int (nI 0), .int mse, .int mbr, .int mwk, .int mns, .int mtp, .int mss])), (mh, .inl (ai, 42, .inl Hm))]) [1, 0] (by decide) rfl ?_
  refine g_if_leN (tgt := 16) X dX9_height_9 (by decide) (by decide) (fun b9x => ?_) (fun b9x => False.elim (by revert b9x; decide))
  refine g_aload_n X dX9_height_16 rfl 0 rfl ?_
  refine g_getf (T := TX9) (v := .ref mh) X dX9_height_17 0 rfl rfl in_X9_height_X9 0 (by decide) (by decide +kernel) rfl rfl ?_
  refine g_iload_n X dX9_height_20 rfl 1 rfl ?_
  refine g_iload_n X dX9_height_21 rfl 2 rfl ?_
  refine g_callSi (As := [.int (nI x), .int (nI y)]) (rest := [.ref mh]) (wr := [(m, .inr (9, [.ref mh, .ref mg, .ref mt, .ref mf, .ref ms, .ref msT, .ref msF, .ref mgv, .ref mP, .ref mW, .ref mV, .ref mco, .ref men, .ref mnt, .int (nI 0), .int mse, .int mbr, .int mwk, .int mns, .int mtp, .int mss])), (mh, .inl (ai, 42, .inl Hm))]) X dX9_height_22 (c_X9_at l D ai az al x y ) gX9_height_X9_at rfl rfl ok_X9_at rfl rfl (by decide) ⟨by decide, by decide⟩ (Nat.le_of_ble_eq_true rfl) [] [0, 1] ⟨rfl, by decide, rfl, by decide, by decide⟩ (fun r3 u hp => ?_)
  obtain rfl := hp
  refine g_sub (k := 0) (n := 0) (ws' := [(m, .inr (9, [.ref mh, .ref mg, .ref mt, .ref mf, .ref ms, .ref msT, .ref msF, .ref mgv, .ref mP, .ref mW, .ref mV, .ref mco, .ref men, .ref mnt, .int (nI 0), .int mse, .int mbr, .int mwk, .int mns, .int mtp, .int mss])), (mh, .inl (ai, 42, .inl Hm))]) [0, 1] (by decide) rfl ?_
  refine g_ialdN (v := (Hm (y * 6 + x))) X dX9_height_25 1 0 rfl rfl (by omega) (by omega) (rfl) ?_
  exact g_iret X E dX9_height_26 () rfl (by decide) (by decide) (rfl)

theorem ok_X9_topplings : okName yX9_topplings 2 := by decide +kernel
set_option maxRecDepth 100000 in
set_option maxHeartbeats 4000000 in
theorem c_X9_topplings1 (l : Launch) (D : va_G) (ai az al : ClassId) (m : Nat) (mh : Nat) (mg : Nat) (mt : Nat) (mf : Nat) (ms : Nat) (msT : Nat) (msF : Nat) (mgv : Nat) (mP : Nat) (mW : Nat) (mV : Nat) (mco : Nat) (men : Nat) (mnt : Nat) (tw : Int32) (mse : Int32) (mbr : Int32) (mwk : Int32) (mns : Int32) (mtp : Int32) (mss : Int32) (p0 : Int32) (p1 : Int32) (hq : ¬ CP p0 p1) : CI l D (tY ai az al) yX9_topplings wsX9_topplings { frames := 2, cells := 0, slots := 0, locals := 43 } [.ref m, .int p0, .int p1] [(m, .inr (9, [.ref mh, .ref mg, .ref mt, .ref mf, .ref ms, .ref msT, .ref msF, .ref mgv, .ref mP, .ref mW, .ref mV, .ref mco, .ref men, .ref mnt, .int tw, .int mse, .int mbr, .int mwk, .int mns, .int mtp, .int mss]))] (fun (r : Int32) (u : Unit) => r = nI 0) (fun (u : Unit) => [(m, .inr (9, [.ref mh, .ref mg, .ref mt, .ref mf, .ref ms, .ref msT, .ref msF, .ref mgv, .ref mP, .ref mW, .ref mV, .ref mco, .ref men, .ref mnt, .int (nI 1), .int mse, .int mbr, .int mwk, .int mns, .int mtp, .int mss]))]) := by
  refine ofG_I (cc := cX9_topplings) (nL := 3) (lv0 := [(0, .ref m), (1, .int p0), (2, .int p1)]) (by decide) rfl (Nat.le_of_ble_eq_true rfl) rfl ?_
  intro Γ X E
  refine g_aload_n X dX9_topplings_0 rfl 0 rfl ?_
  refine g_iload_n X dX9_topplings_1 rfl 1 rfl ?_
  refine g_iload_n X dX9_topplings_2 rfl 2 rfl ?_
  refine g_callSi (As := [.int p0, .int p1]) (rest := [.ref m]) (wr := [(m, .inr (9, [.ref mh, .ref mg, .ref mt, .ref mf, .ref ms, .ref msT, .ref msF, .ref mgv, .ref mP, .ref mW, .ref mV, .ref mco, .ref men, .ref mnt, .int tw, .int mse, .int mbr, .int mwk, .int mns, .int mtp, .int mss]))]) X dX9_topplings_3 (c_X9_isCellF l D ai az al p0 p1 (hq)) gX9_topplings_X9_isCell rfl rfl ok_X9_isCell rfl rfl (by decide) ⟨by decide, by decide⟩ (Nat.le_of_ble_eq_true rfl) [] [0] ⟨rfl, by decide, rfl, by decide, by decide⟩ (fun r1 u hp => ?_)
  obtain rfl := hp
  refine g_sub (k := 0) (n := 0) (ws' := [(m, .inr (9, [.ref mh, .ref mg, .ref mt, .ref mf, .ref ms, .ref msT, .ref msF, .ref mgv, .ref mP, .ref mW, .ref mV, .ref mco, .ref men, .ref mnt, .int tw, .int mse, .int mbr, .int mwk, .int mns, .int mtp, .int mss]))]) [0] (by decide) rfl ?_
  refine g_callVi (C := RX9) (As := [.int (nI 0)]) (rest := []) (wr := []) X dX9_topplings_6 (c_X9_checkedF l D ai az al m mh mg mt mf ms msT msF mgv mP mW mV mco men mnt tw mse mbr mwk mns mtp mss ) gX9_topplings_X9_checked rfl rfl ok_X9_checked rfl rfl (by decide) ⟨by decide, by decide⟩ (Nat.le_of_ble_eq_true rfl) [0] [] ⟨rfl, by decide, rfl, by decide, by decide⟩ 0 rfl rfl rfl (fun r2 u hp => ?_)
  obtain rfl := hp
  refine g_sub (k := 0) (n := 0) (ws' := [(m, .inr (9, [.ref mh, .ref mg, .ref mt, .ref mf, .ref ms, .ref msT, .ref msF, .ref mgv, .ref mP, .ref mW, .ref mV, .ref mco, .ref men, .ref mnt, .int (nI 1), .int mse, .int mbr, .int mwk, .int mns, .int mtp, .int mss]))]) [0] (by decide) rfl ?_
  refine g_if_leN (tgt := 16) X dX9_topplings_9 (by decide) (by decide) (fun b9x => False.elim (by revert b9x; decide)) (fun b9x => ?_)
  refine g_iconst (v := nI 0) X dX9_topplings_12 (by decide) ?_
  refine g_goto (tgt := 26) X dX9_topplings_13 (by decide) ?_
  exact g_iret X E dX9_topplings_26 () rfl (by decide) (by decide) (rfl)

theorem in_X9_topplings_X9 : ∀ w ∈ u_ws RX9 TX9 21, w ∈ wsX9_topplings := by decide +kernel
set_option maxRecDepth 100000 in
set_option maxHeartbeats 4000000 in
theorem c_X9_topplings0 (l : Launch) (D : va_G) (ai az al : ClassId) (m : Nat) (mh : Nat) (mg : Nat) (mt : Nat) (mf : Nat) (ms : Nat) (msT : Nat) (msF : Nat) (mgv : Nat) (mP : Nat) (mW : Nat) (mV : Nat) (mco : Nat) (men : Nat) (mnt : Nat) (tw : Int32) (mse : Int32) (mbr : Int32) (mwk : Int32) (mns : Int32) (mtp : Int32) (mss : Int32) (Tm : Nat → Int32) (x : Nat) (y : Nat) (hx : x < 6) (hy : y < 7) : CI l D (tY ai az al) yX9_topplings wsX9_topplings { frames := 2, cells := 0, slots := 0, locals := 43 } [.ref m, .int (nI x), .int (nI y)] [(m, .inr (9, [.ref mh, .ref mg, .ref mt, .ref mf, .ref ms, .ref msT, .ref msF, .ref mgv, .ref mP, .ref mW, .ref mV, .ref mco, .ref men, .ref mnt, .int tw, .int mse, .int mbr, .int mwk, .int mns, .int mtp, .int mss])), (mt, .inl (ai, 42, .inl Tm))] (fun (r : Int32) (u : Unit) => r = (Tm (y * 6 + x))) (fun (u : Unit) => [(m, .inr (9, [.ref mh, .ref mg, .ref mt, .ref mf, .ref ms, .ref msT, .ref msF, .ref mgv, .ref mP, .ref mW, .ref mV, .ref mco, .ref men, .ref mnt, .int (nI 0), .int mse, .int mbr, .int mwk, .int mns, .int mtp, .int mss])), (mt, .inl (ai, 42, .inl Tm))]) := by
  refine ofG_I (cc := cX9_topplings) (nL := 3) (lv0 := [(0, .ref m), (1, .int (nI x)), (2, .int (nI y))]) (by decide) rfl (Nat.le_of_ble_eq_true rfl) rfl ?_
  intro Γ X E
  refine g_aload_n X dX9_topplings_0 rfl 0 rfl ?_
  refine g_iload_n X dX9_topplings_1 rfl 1 rfl ?_
  refine g_iload_n X dX9_topplings_2 rfl 2 rfl ?_
  refine g_callSi (As := [.int (nI x), .int (nI y)]) (rest := [.ref m]) (wr := [(m, .inr (9, [.ref mh, .ref mg, .ref mt, .ref mf, .ref ms, .ref msT, .ref msF, .ref mgv, .ref mP, .ref mW, .ref mV, .ref mco, .ref men, .ref mnt, .int tw, .int mse, .int mbr, .int mwk, .int mns, .int mtp, .int mss])), (mt, .inl (ai, 42, .inl Tm))]) X dX9_topplings_3 (c_X9_isCellT l D ai az al (nI x) (nI y) (CP_of hx hy)) gX9_topplings_X9_isCell rfl rfl ok_X9_isCell rfl rfl (by decide) ⟨by decide, by decide⟩ (Nat.le_of_ble_eq_true rfl) [] [0, 1] ⟨rfl, by decide, rfl, by decide, by decide⟩ (fun r1 u hp => ?_)
  obtain rfl := hp
  refine g_sub (k := 0) (n := 0) (ws' := [(m, .inr (9, [.ref mh, .ref mg, .ref mt, .ref mf, .ref ms, .ref msT, .ref msF, .ref mgv, .ref mP, .ref mW, .ref mV, .ref mco, .ref men, .ref mnt, .int tw, .int mse, .int mbr, .int mwk, .int mns, .int mtp, .int mss])), (mt, .inl (ai, 42, .inl Tm))]) [0, 1] (by decide) rfl ?_
  refine g_callVi (C := RX9) (As := [.int (nI 1)]) (rest := []) (wr := [(mt, .inl (ai, 42, .inl Tm))]) X dX9_topplings_6 (c_X9_checkedT l D ai az al m mh mg mt mf ms msT msF mgv mP mW mV mco men mnt tw mse mbr mwk mns mtp mss ) gX9_topplings_X9_checked rfl rfl ok_X9_checked rfl rfl (by decide) ⟨by decide, by decide⟩ (Nat.le_of_ble_eq_true rfl) [0] [1] ⟨rfl, by decide, rfl, by decide, by decide⟩ 0 rfl rfl rfl (fun r2 u hp => ?_)
  obtain rfl := hp
  refine g_sub (k := 0) (n := 0) (ws' := [(m, .inr (9, [.ref mh, .ref mg, .ref mt, .ref mf, .ref ms, .ref msT, .ref msF, .ref mgv, .ref mP, .ref mW, .ref mV, .ref mco, .ref men, .ref mnt, .int (nI 0), .int mse, .int mbr, .int mwk, .int mns, .int mtp, .int mss])), (mt, .inl (ai, 42, .inl Tm))]) [1, 0] (by decide) rfl ?_
  refine g_if_leN (tgt := 16) X dX9_topplings_9 (by decide) (by decide) (fun b9x => ?_) (fun b9x => False.elim (by revert b9x; decide))
  refine g_aload_n X dX9_topplings_16 rfl 0 rfl ?_
  refine g_getf (T := TX9) (v := .ref mt) X dX9_topplings_17 0 rfl rfl in_X9_topplings_X9 2 (by decide) (by decide +kernel) rfl rfl ?_
  refine g_iload_n X dX9_topplings_20 rfl 1 rfl ?_
  refine g_iload_n X dX9_topplings_21 rfl 2 rfl ?_
  refine g_callSi (As := [.int (nI x), .int (nI y)]) (rest := [.ref mt]) (wr := [(m, .inr (9, [.ref mh, .ref mg, .ref mt, .ref mf, .ref ms, .ref msT, .ref msF, .ref mgv, .ref mP, .ref mW, .ref mV, .ref mco, .ref men, .ref mnt, .int (nI 0), .int mse, .int mbr, .int mwk, .int mns, .int mtp, .int mss])), (mt, .inl (ai, 42, .inl Tm))]) X dX9_topplings_22 (c_X9_at l D ai az al x y ) gX9_topplings_X9_at rfl rfl ok_X9_at rfl rfl (by decide) ⟨by decide, by decide⟩ (Nat.le_of_ble_eq_true rfl) [] [0, 1] ⟨rfl, by decide, rfl, by decide, by decide⟩ (fun r3 u hp => ?_)
  obtain rfl := hp
  refine g_sub (k := 0) (n := 0) (ws' := [(m, .inr (9, [.ref mh, .ref mg, .ref mt, .ref mf, .ref ms, .ref msT, .ref msF, .ref mgv, .ref mP, .ref mW, .ref mV, .ref mco, .ref men, .ref mnt, .int (nI 0), .int mse, .int mbr, .int mwk, .int mns, .int mtp, .int mss])), (mt, .inl (ai, 42, .inl Tm))]) [0, 1] (by decide) rfl ?_
  refine g_ialdN (v := (Tm (y * 6 + x))) X dX9_topplings_25 1 0 rfl rfl (by omega) (by omega) (rfl) ?_
  exact g_iret X E dX9_topplings_26 () rfl (by decide) (by decide) (rfl)

theorem ok_X9_heightByFlows : okName yX9_heightByFlows 2 := by decide +kernel
set_option maxRecDepth 100000 in
set_option maxHeartbeats 4000000 in
theorem c_X9_heightByFlows1 (l : Launch) (D : va_G) (ai az al : ClassId) (m : Nat) (mh : Nat) (mg : Nat) (mt : Nat) (mf : Nat) (ms : Nat) (msT : Nat) (msF : Nat) (mgv : Nat) (mP : Nat) (mW : Nat) (mV : Nat) (mco : Nat) (men : Nat) (mnt : Nat) (tw : Int32) (mse : Int32) (mbr : Int32) (mwk : Int32) (mns : Int32) (mtp : Int32) (mss : Int32) (p0 : Int32) (p1 : Int32) (hq : ¬ CP p0 p1) : CI l D (tY ai az al) yX9_heightByFlows wsX9_heightByFlows { frames := 2, cells := 0, slots := 0, locals := 43 } [.ref m, .int p0, .int p1] [(m, .inr (9, [.ref mh, .ref mg, .ref mt, .ref mf, .ref ms, .ref msT, .ref msF, .ref mgv, .ref mP, .ref mW, .ref mV, .ref mco, .ref men, .ref mnt, .int tw, .int mse, .int mbr, .int mwk, .int mns, .int mtp, .int mss]))] (fun (r : Int32) (u : Unit) => r = nI 0) (fun (u : Unit) => [(m, .inr (9, [.ref mh, .ref mg, .ref mt, .ref mf, .ref ms, .ref msT, .ref msF, .ref mgv, .ref mP, .ref mW, .ref mV, .ref mco, .ref men, .ref mnt, .int (nI 1), .int mse, .int mbr, .int mwk, .int mns, .int mtp, .int mss]))]) := by
  refine ofG_I (cc := cX9_heightByFlows) (nL := 6) (lv0 := [(0, .ref m), (1, .int p0), (2, .int p1)]) (by decide) rfl (Nat.le_of_ble_eq_true rfl) rfl ?_
  intro Γ X E
  refine g_aload_n X dX9_heightByFlows_0 rfl 0 rfl ?_
  refine g_iload_n X dX9_heightByFlows_1 rfl 1 rfl ?_
  refine g_iload_n X dX9_heightByFlows_2 rfl 2 rfl ?_
  refine g_callSi (As := [.int p0, .int p1]) (rest := [.ref m]) (wr := [(m, .inr (9, [.ref mh, .ref mg, .ref mt, .ref mf, .ref ms, .ref msT, .ref msF, .ref mgv, .ref mP, .ref mW, .ref mV, .ref mco, .ref men, .ref mnt, .int tw, .int mse, .int mbr, .int mwk, .int mns, .int mtp, .int mss]))]) X dX9_heightByFlows_3 (c_X9_isCellF l D ai az al p0 p1 (hq)) gX9_heightByFlows_X9_isCell rfl rfl ok_X9_isCell rfl rfl (by decide) ⟨by decide, by decide⟩ (Nat.le_of_ble_eq_true rfl) [] [0] ⟨rfl, by decide, rfl, by decide, by decide⟩ (fun r1 u hp => ?_)
  obtain rfl := hp
  refine g_sub (k := 0) (n := 0) (ws' := [(m, .inr (9, [.ref mh, .ref mg, .ref mt, .ref mf, .ref ms, .ref msT, .ref msF, .ref mgv, .ref mP, .ref mW, .ref mV, .ref mco, .ref men, .ref mnt, .int tw, .int mse, .int mbr, .int mwk, .int mns, .int mtp, .int mss]))]) [0] (by decide) rfl ?_
  refine g_callVi (C := RX9) (As := [.int (nI 0)]) (rest := []) (wr := []) X dX9_heightByFlows_6 (c_X9_checkedF l D ai az al m mh mg mt mf ms msT msF mgv mP mW mV mco men mnt tw mse mbr mwk mns mtp mss ) gX9_heightByFlows_X9_checked rfl rfl ok_X9_checked rfl rfl (by decide) ⟨by decide, by decide⟩ (Nat.le_of_ble_eq_true rfl) [0] [] ⟨rfl, by decide, rfl, by decide, by decide⟩ 0 rfl rfl rfl (fun r2 u hp => ?_)
  obtain rfl := hp
  refine g_sub (k := 0) (n := 0) (ws' := [(m, .inr (9, [.ref mh, .ref mg, .ref mt, .ref mf, .ref ms, .ref msT, .ref msF, .ref mgv, .ref mP, .ref mW, .ref mV, .ref mco, .ref men, .ref mnt, .int (nI 1), .int mse, .int mbr, .int mwk, .int mns, .int mtp, .int mss]))]) [0] (by decide) rfl ?_
  refine g_if_leN (tgt := 14) X dX9_heightByFlows_9 (by decide) (by decide) (fun b9x => False.elim (by revert b9x; decide)) (fun b9x => ?_)
  refine g_iconst (v := nI 0) X dX9_heightByFlows_12 (by decide) ?_
  exact g_iret X E dX9_heightByFlows_13 () rfl (by decide) (by decide) (rfl)

theorem in_X9_heightByFlows_X9 : ∀ w ∈ u_ws RX9 TX9 21, w ∈ wsX9_heightByFlows := by decide +kernel
set_option maxRecDepth 100000 in
set_option maxHeartbeats 4000000 in
theorem c_X9_heightByFlows0 (l : Launch) (D : va_G) (ai az al : ClassId) (m : Nat) (mh : Nat) (mg : Nat) (mt : Nat) (mf : Nat) (ms : Nat) (msT : Nat) (msF : Nat) (mgv : Nat) (mP : Nat) (mW : Nat) (mV : Nat) (mco : Nat) (men : Nat) (mnt : Nat) (tw : Int32) (mse : Int32) (mbr : Int32) (mwk : Int32) (mns : Int32) (mtp : Int32) (mss : Int32) (Gm : Nat → Int32) (Fm : Nat → Int32) (x : Nat) (y : Nat) (hx : x < 6) (hy : y < 7) : CI l D (tY ai az al) yX9_heightByFlows wsX9_heightByFlows { frames := 2, cells := 0, slots := 0, locals := 43 } [.ref m, .int (nI x), .int (nI y)] [(m, .inr (9, [.ref mh, .ref mg, .ref mt, .ref mf, .ref ms, .ref msT, .ref msF, .ref mgv, .ref mP, .ref mW, .ref mV, .ref mco, .ref men, .ref mnt, .int tw, .int mse, .int mbr, .int mwk, .int mns, .int mtp, .int mss])), (mg, .inl (ai, 42, .inl Gm)), (mf, .inl (ai, 168, .inl Fm))] (fun (r : Int32) (u : Unit) => r = (Gm (y * 6 + x) - Fm ((y * 6 + x) * 4 + 0) - Fm ((y * 6 + x) * 4 + 1) - Fm ((y * 6 + x) * 4 + 2) - Fm ((y * 6 + x) * 4 + 3))) (fun (u : Unit) => [(m, .inr (9, [.ref mh, .ref mg, .ref mt, .ref mf, .ref ms, .ref msT, .ref msF, .ref mgv, .ref mP, .ref mW, .ref mV, .ref mco, .ref men, .ref mnt, .int (nI 0), .int mse, .int mbr, .int mwk, .int mns, .int mtp, .int mss])), (mg, .inl (ai, 42, .inl Gm)), (mf, .inl (ai, 168, .inl Fm))]) := by
  refine ofG_I (cc := cX9_heightByFlows) (nL := 6) (lv0 := [(0, .ref m), (1, .int (nI x)), (2, .int (nI y))]) (by decide) rfl (Nat.le_of_ble_eq_true rfl) rfl ?_
  intro Γ X E
  refine g_aload_n X dX9_heightByFlows_0 rfl 0 rfl ?_
  refine g_iload_n X dX9_heightByFlows_1 rfl 1 rfl ?_
  refine g_iload_n X dX9_heightByFlows_2 rfl 2 rfl ?_
  refine g_callSi (As := [.int (nI x), .int (nI y)]) (rest := [.ref m]) (wr := [(m, .inr (9, [.ref mh, .ref mg, .ref mt, .ref mf, .ref ms, .ref msT, .ref msF, .ref mgv, .ref mP, .ref mW, .ref mV, .ref mco, .ref men, .ref mnt, .int tw, .int mse, .int mbr, .int mwk, .int mns, .int mtp, .int mss])), (mg, .inl (ai, 42, .inl Gm)), (mf, .inl (ai, 168, .inl Fm))]) X dX9_heightByFlows_3 (c_X9_isCellT l D ai az al (nI x) (nI y) (CP_of hx hy)) gX9_heightByFlows_X9_isCell rfl rfl ok_X9_isCell rfl rfl (by decide) ⟨by decide, by decide⟩ (Nat.le_of_ble_eq_true rfl) [] [0, 1, 2] ⟨rfl, by decide, rfl, by decide, by decide⟩ (fun r1 u hp => ?_)
  obtain rfl := hp
  refine g_sub (k := 0) (n := 0) (ws' := [(m, .inr (9, [.ref mh, .ref mg, .ref mt, .ref mf, .ref ms, .ref msT, .ref msF, .ref mgv, .ref mP, .ref mW, .ref mV, .ref mco, .ref men, .ref mnt, .int tw, .int mse, .int mbr, .int mwk, .int mns, .int mtp, .int mss])), (mg, .inl (ai, 42, .inl Gm)), (mf, .inl (ai, 168, .inl Fm))]) [0, 1, 2] (by decide) rfl ?_
  refine g_callVi (C := RX9) (As := [.int (nI 1)]) (rest := []) (wr := [(mg, .inl (ai, 42, .inl Gm)), (mf, .inl (ai, 168, .inl Fm))]) X dX9_heightByFlows_6 (c_X9_checkedT l D ai az al m mh mg mt mf ms msT msF mgv mP mW mV mco men mnt tw mse mbr mwk mns mtp mss ) gX9_heightByFlows_X9_checked rfl rfl ok_X9_checked rfl rfl (by decide) ⟨by decide, by decide⟩ (Nat.le_of_ble_eq_true rfl) [0] [1, 2] ⟨rfl, by decide, rfl, by decide, by decide⟩ 0 rfl rfl rfl (fun r2 u hp => ?_)
  obtain rfl := hp
  refine g_sub (k := 0) (n := 0) (ws' := [(m, .inr (9, [.ref mh, .ref mg, .ref mt, .ref mf, .ref ms, .ref msT, .ref msF, .ref mgv, .ref mP, .ref mW, .ref mV, .ref mco, .ref men, .ref mnt, .int (nI 0), .int mse, .int mbr, .int mwk, .int mns, .int mtp, .int mss])), (mg, .inl (ai, 42, .inl Gm)), (mf, .inl (ai, 168, .inl Fm))]) [2, 0, 1] (by decide) rfl ?_
  refine g_if_leN (tgt := 14) X dX9_heightByFlows_9 (by decide) (by decide) (fun b9x => ?_) (fun b9x => False.elim (by revert b9x; decide))
  refine g_iload_n X dX9_heightByFlows_14 rfl 1 rfl ?_
  refine g_iload_n X dX9_heightByFlows_15 rfl 2 rfl ?_
  refine g_callSi (As := [.int (nI x), .int (nI y)]) (rest := []) (wr := [(m, .inr (9, [.ref mh, .ref mg, .ref mt, .ref mf, .ref ms, .ref msT, .ref msF, .ref mgv, .ref mP, .ref mW, .ref mV, .ref mco, .ref men, .ref mnt, .int (nI 0), .int mse, .int mbr, .int mwk, .int mns, .int mtp, .int mss])), (mg, .inl (ai, 42, .inl Gm)), (mf, .inl (ai, 168, .inl Fm))]) X dX9_heightByFlows_16 (c_X9_at l D ai az al x y ) gX9_heightByFlows_X9_at rfl rfl ok_X9_at rfl rfl (by decide) ⟨by decide, by decide⟩ (Nat.le_of_ble_eq_true rfl) [] [0, 1, 2] ⟨rfl, by decide, rfl, by decide, by decide⟩ (fun r3 u hp => ?_)
  obtain rfl := hp
  refine g_sub (k := 0) (n := 0) (ws' := [(m, .inr (9, [.ref mh, .ref mg, .ref mt, .ref mf, .ref ms, .ref msT, .ref msF, .ref mgv, .ref mP, .ref mW, .ref mV, .ref mco, .ref men, .ref mnt, .int (nI 0), .int mse, .int mbr, .int mwk, .int mns, .int mtp, .int mss])), (mg, .inl (ai, 42, .inl Gm)), (mf, .inl (ai, 168, .inl Fm))]) [0, 1, 2] (by decide) rfl ?_
  refine g_istore_n (lv' := [(3, .int (nI (y * 6 + x))), (0, .ref m), (1, .int (nI x)), (2, .int (nI y))]) X dX9_heightByFlows_19 rfl (by decide) rfl ?_
  refine g_aload_n X dX9_heightByFlows_20 rfl 1 rfl ?_
  refine g_getf (T := TX9) (v := .ref mg) X dX9_heightByFlows_21 0 rfl rfl in_X9_heightByFlows_X9 1 (by decide) (by decide +kernel) rfl rfl ?_
  refine g_iload_n X dX9_heightByFlows_24 rfl 0 rfl ?_
  refine g_ialdN (v := (Gm (y * 6 + x))) X dX9_heightByFlows_25 1 0 rfl rfl (by omega) (by omega) (rfl) ?_
  refine g_istore (lv' := [(4, .int (Gm (y * 6 + x))), (3, .int (nI (y * 6 + x))), (0, .ref m), (1, .int (nI x)), (2, .int (nI y))]) X dX9_heightByFlows_26 (by decide) rfl ?_
  refine g_iconst (v := nI 0) X dX9_heightByFlows_28 (by decide) ?_
  refine g_istore (lv' := [(5, .int (nI 0)), (4, .int (Gm (y * 6 + x))), (3, .int (nI (y * 6 + x))), (0, .ref m), (1, .int (nI x)), (2, .int (nI y))]) X dX9_heightByFlows_29 (by decide) rfl ?_
  have L31 : ∀ (fl : Nat) (j : Nat) (z : Int32), (j ≤ 4) → (z = sbF Fm ((y * 6 + x) * 4) (Gm (y * 6 + x)) j) → (5 ≤ j + fl) → G Γ 6 0 0 [(m, .inr (9, [.ref mh, .ref mg, .ref mt, .ref mf, .ref ms, .ref msT, .ref msF, .ref mgv, .ref mP, .ref mW, .ref mV, .ref mco, .ref men, .ref mnt, .int (nI 0), .int mse, .int mbr, .int mwk, .int mns, .int mtp, .int mss])), (mg, .inl (ai, 42, .inl Gm)), (mf, .inl (ai, 168, .inl Fm))] [(0, .ref m), (1, .int (nI x)), (2, .int (nI y)), (3, .int (nI (y * 6 + x))), (4, .int z), (5, .int (nI j))] 31 [] := by
    intro fl
    induction fl with
    | zero => intro j z hj hz hk; exact absurd hk (by omega)
    | succ fl ih31 =>
      intro j z hj hz hk
      refine g_iload X dX9_heightByFlows_31 5 rfl ?_
      refine g_iconst (v := nI 4) X dX9_heightByFlows_33 (by decide) ?_
      refine g_icmp_geN (tgt := 59) X dX9_heightByFlows_34 (by decide) (by omega) (by omega) (fun b34 => ?_) (fun b34 => ?_)
      · refine g_iload X dX9_heightByFlows_59 4 rfl ?_
        exact g_iret X E dX9_heightByFlows_61 () rfl (by decide) (by decide) (by rw [hz, show j = 4 by omega]; rfl)
      · refine g_iload X dX9_heightByFlows_37 4 rfl ?_
        refine g_aload_n X dX9_heightByFlows_39 rfl 0 rfl ?_
        refine g_getf (T := TX9) (v := .ref mf) X dX9_heightByFlows_40 0 rfl rfl in_X9_heightByFlows_X9 3 (by decide) (by decide +kernel) rfl rfl ?_
        refine g_iconst (v := nI 4) X dX9_heightByFlows_43 (by decide) ?_
        refine g_iload_n X dX9_heightByFlows_44 rfl 3 rfl ?_
        refine g_imul (v := nI ((y * 6 + x) * 4)) X dX9_heightByFlows_45 (m4 _) ?_
        refine g_iload X dX9_heightByFlows_46 5 rfl ?_
        refine g_iadd (v := nI (((y * 6 + x) * 4) + j)) X dX9_heightByFlows_48 (nI_add _ _) ?_
        refine g_ialdN (v := (Fm (((y * 6 + x) * 4) + j))) X dX9_heightByFlows_49 2 0 rfl rfl (by omega) (by omega) (rfl) ?_
        refine g_isub (v := (z - (Fm (((y * 6 + x) * 4) + j)))) X dX9_heightByFlows_50 (rfl) ?_
        refine g_istore (lv' := [(4, .int (z - (Fm (((y * 6 + x) * 4) + j)))), (0, .ref m), (1, .int (nI x)), (2, .int (nI y)), (3, .int (nI (y * 6 + x))), (5, .int (nI j))]) X dX9_heightByFlows_51 (by decide) rfl ?_
        refine g_iinc (v := nI (j + 1)) (lv' := [(5, .int (nI (j + 1))), (4, .int (z - (Fm (((y * 6 + x) * 4) + j)))), (0, .ref m), (1, .int (nI x)), (2, .int (nI y)), (3, .int (nI (y * 6 + x)))]) X dX9_heightByFlows_53 5 rfl (nI_inc _) (by decide) rfl ?_
        refine g_goto (tgt := 31) X dX9_heightByFlows_56 (by decide) ?_
        refine g_lv (lv' := [(0, .ref m), (1, .int (nI x)), (2, .int (nI y)), (3, .int (nI (y * 6 + x))), (4, .int (z - (Fm (((y * 6 + x) * 4) + j)))), (5, .int (nI (j + 1)))]) [2, 3, 4, 5, 1, 0] rfl ?_
        exact ih31 (j + 1) (z - (Fm (((y * 6 + x) * 4) + j))) (by omega) (by rw [hz]; rfl) (by omega)
  refine g_lv (lv' := [(0, .ref m), (1, .int (nI x)), (2, .int (nI y)), (3, .int (nI (y * 6 + x))), (4, .int (Gm (y * 6 + x))), (5, .int (nI 0))]) [3, 4, 5, 2, 1, 0] rfl ?_
  exact L31 5 0 (Gm (y * 6 + x)) (by decide) (rfl) (by decide)

theorem ok_X9_flow : okName yX9_flow 3 := by decide +kernel
theorem in_X9_flow_X9 : ∀ w ∈ u_ws RX9 TX9 21, w ∈ wsX9_flow := by decide +kernel
set_option maxRecDepth 100000 in
set_option maxHeartbeats 4000000 in
theorem c_X9_flow1 (l : Launch) (D : va_G) (ai az al : ClassId) (m : Nat) (mh : Nat) (mg : Nat) (mt : Nat) (mf : Nat) (ms : Nat) (msT : Nat) (msF : Nat) (mgv : Nat) (mP : Nat) (mW : Nat) (mV : Nat) (mco : Nat) (men : Nat) (mnt : Nat) (tw : Int32) (mse : Int32) (mbr : Int32) (mwk : Int32) (mns : Int32) (mtp : Int32) (mss : Int32) (p0 : Int32) (p1 : Int32) (p2 : Int32) (hq : ¬ CP p0 p1) : CI l D (tY ai az al) yX9_flow wsX9_flow { frames := 3, cells := 0, slots := 0, locals := 66 } [.ref m, .int p0, .int p1, .int p2] [(m, .inr (9, [.ref mh, .ref mg, .ref mt, .ref mf, .ref ms, .ref msT, .ref msF, .ref mgv, .ref mP, .ref mW, .ref mV, .ref mco, .ref men, .ref mnt, .int tw, .int mse, .int mbr, .int mwk, .int mns, .int mtp, .int mss]))] (fun (r : Int32) (u : Unit) => r = nI 0) (fun (u : Unit) => [(m, .inr (9, [.ref mh, .ref mg, .ref mt, .ref mf, .ref ms, .ref msT, .ref msF, .ref mgv, .ref mP, .ref mW, .ref mV, .ref mco, .ref men, .ref mnt, .int (nI 1), .int mse, .int mbr, .int mwk, .int mns, .int mtp, .int mss]))]) := by
  refine ofG_I (cc := cX9_flow) (nL := 4) (lv0 := [(0, .ref m), (1, .int p0), (2, .int p1), (3, .int p2)]) (by decide) rfl (Nat.le_of_ble_eq_true rfl) rfl ?_
  intro Γ X E
  refine g_aload_n X dX9_flow_0 rfl 0 rfl ?_
  refine g_aload_n X dX9_flow_1 rfl 0 rfl ?_
  refine g_iload_n X dX9_flow_2 rfl 1 rfl ?_
  refine g_iload_n X dX9_flow_3 rfl 2 rfl ?_
  refine g_iload_n X dX9_flow_4 rfl 3 rfl ?_
  refine g_callVi (C := RX9) (As := [.int p0, .int p1, .int p2]) (rest := [.ref m]) (wr := []) X dX9_flow_5 (c_X9_wrongSide1 l D ai az al m mh mg mt mf ms msT msF mgv mP mW mV mco men mnt tw mse mbr mwk mns mtp mss p0 p1 p2 (hq)) gX9_flow_X9_wrongSide rfl rfl ok_X9_wrongSide rfl rfl (by decide) ⟨by decide, by decide⟩ (Nat.le_of_ble_eq_true rfl) [0] [] ⟨rfl, by decide, rfl, by decide, by decide⟩ 0 rfl rfl rfl (fun r1 u hp => ?_)
  obtain rfl := hp
  refine g_sub (k := 0) (n := 0) (ws' := [(m, .inr (9, [.ref mh, .ref mg, .ref mt, .ref mf, .ref ms, .ref msT, .ref msF, .ref mgv, .ref mP, .ref mW, .ref mV, .ref mco, .ref men, .ref mnt, .int tw, .int mse, .int mbr, .int mwk, .int mns, .int mtp, .int mss]))]) [0] (by decide) rfl ?_
  refine g_putf (T := TX9) (v := .int (nI 1)) (ty := tyX9 14) (ws' := [(m, .inr (9, [.ref mh, .ref mg, .ref mt, .ref mf, .ref ms, .ref msT, .ref msF, .ref mgv, .ref mP, .ref mW, .ref mV, .ref mco, .ref men, .ref mnt, .int (nI 1), .int mse, .int mbr, .int mwk, .int mns, .int mtp, .int mss]))]) X dX9_flow_8 0 rfl rfl in_X9_flow_X9 tyX9 tyX9_ok nmX9 14 (by decide) (by decide +kernel) rfl rfl (by decide +kernel) rfl rfl (Nat.le_of_ble_eq_true rfl) rfl ?_
  refine g_aload_n X dX9_flow_11 rfl 0 rfl ?_
  refine g_getf (T := TX9) (v := .int (nI 1)) X dX9_flow_12 0 rfl rfl in_X9_flow_X9 14 (by decide) (by decide +kernel) rfl rfl ?_
  refine g_if_leN (tgt := 22) X dX9_flow_15 (by decide) (by decide) (fun b15x => False.elim (by revert b15x; decide)) (fun b15x => ?_)
  refine g_iconst (v := nI 0) X dX9_flow_18 (by decide) ?_
  refine g_goto (tgt := 39) X dX9_flow_19 (by decide) ?_
  exact g_iret X E dX9_flow_39 () rfl (by decide) (by decide) (rfl)

set_option maxRecDepth 100000 in
set_option maxHeartbeats 4000000 in
theorem c_X9_flow2 (l : Launch) (D : va_G) (ai az al : ClassId) (m : Nat) (mh : Nat) (mg : Nat) (mt : Nat) (mf : Nat) (ms : Nat) (msT : Nat) (msF : Nat) (mgv : Nat) (mP : Nat) (mW : Nat) (mV : Nat) (mco : Nat) (men : Nat) (mnt : Nat) (tw : Int32) (mse : Int32) (mbr : Int32) (mwk : Int32) (mns : Int32) (mtp : Int32) (mss : Int32) (p0 : Int32) (p1 : Int32) (p2 : Int32) (hq : CP p0 p1) (hq2 : ¬ isSd p2) : CI l D (tY ai az al) yX9_flow wsX9_flow { frames := 3, cells := 0, slots := 0, locals := 66 } [.ref m, .int p0, .int p1, .int p2] [(m, .inr (9, [.ref mh, .ref mg, .ref mt, .ref mf, .ref ms, .ref msT, .ref msF, .ref mgv, .ref mP, .ref mW, .ref mV, .ref mco, .ref men, .ref mnt, .int tw, .int mse, .int mbr, .int mwk, .int mns, .int mtp, .int mss]))] (fun (r : Int32) (u : Unit) => r = nI 0) (fun (u : Unit) => [(m, .inr (9, [.ref mh, .ref mg, .ref mt, .ref mf, .ref ms, .ref msT, .ref msF, .ref mgv, .ref mP, .ref mW, .ref mV, .ref mco, .ref men, .ref mnt, .int (nI 2), .int mse, .int mbr, .int mwk, .int mns, .int mtp, .int mss]))]) := by
  refine ofG_I (cc := cX9_flow) (nL := 4) (lv0 := [(0, .ref m), (1, .int p0), (2, .int p1), (3, .int p2)]) (by decide) rfl (Nat.le_of_ble_eq_true rfl) rfl ?_
  intro Γ X E
  refine g_aload_n X dX9_flow_0 rfl 0 rfl ?_
  refine g_aload_n X dX9_flow_1 rfl 0 rfl ?_
  refine g_iload_n X dX9_flow_2 rfl 1 rfl ?_
  refine g_iload_n X dX9_flow_3 rfl 2 rfl ?_
  refine g_iload_n X dX9_flow_4 rfl 3 rfl ?_
  refine g_callVi (C := RX9) (As := [.int p0, .int p1, .int p2]) (rest := [.ref m]) (wr := []) X dX9_flow_5 (c_X9_wrongSide2 l D ai az al m mh mg mt mf ms msT msF mgv mP mW mV mco men mnt tw mse mbr mwk mns mtp mss p0 p1 p2 (hq) (hq2)) gX9_flow_X9_wrongSide rfl rfl ok_X9_wrongSide rfl rfl (by decide) ⟨by decide, by decide⟩ (Nat.le_of_ble_eq_true rfl) [0] [] ⟨rfl, by decide, rfl, by decide, by decide⟩ 0 rfl rfl rfl (fun r1 u hp => ?_)
  obtain rfl := hp
  refine g_sub (k := 0) (n := 0) (ws' := [(m, .inr (9, [.ref mh, .ref mg, .ref mt, .ref mf, .ref ms, .ref msT, .ref msF, .ref mgv, .ref mP, .ref mW, .ref mV, .ref mco, .ref men, .ref mnt, .int tw, .int mse, .int mbr, .int mwk, .int mns, .int mtp, .int mss]))]) [0] (by decide) rfl ?_
  refine g_putf (T := TX9) (v := .int (nI 2)) (ty := tyX9 14) (ws' := [(m, .inr (9, [.ref mh, .ref mg, .ref mt, .ref mf, .ref ms, .ref msT, .ref msF, .ref mgv, .ref mP, .ref mW, .ref mV, .ref mco, .ref men, .ref mnt, .int (nI 2), .int mse, .int mbr, .int mwk, .int mns, .int mtp, .int mss]))]) X dX9_flow_8 0 rfl rfl in_X9_flow_X9 tyX9 tyX9_ok nmX9 14 (by decide) (by decide +kernel) rfl rfl (by decide +kernel) rfl rfl (Nat.le_of_ble_eq_true rfl) rfl ?_
  refine g_aload_n X dX9_flow_11 rfl 0 rfl ?_
  refine g_getf (T := TX9) (v := .int (nI 2)) X dX9_flow_12 0 rfl rfl in_X9_flow_X9 14 (by decide) (by decide +kernel) rfl rfl ?_
  refine g_if_leN (tgt := 22) X dX9_flow_15 (by decide) (by decide) (fun b15x => False.elim (by revert b15x; decide)) (fun b15x => ?_)
  refine g_iconst (v := nI 0) X dX9_flow_18 (by decide) ?_
  refine g_goto (tgt := 39) X dX9_flow_19 (by decide) ?_
  exact g_iret X E dX9_flow_39 () rfl (by decide) (by decide) (rfl)

set_option maxRecDepth 100000 in
set_option maxHeartbeats 4000000 in
theorem c_X9_flow0 (l : Launch) (D : va_G) (ai az al : ClassId) (m : Nat) (mh : Nat) (mg : Nat) (mt : Nat) (mf : Nat) (ms : Nat) (msT : Nat) (msF : Nat) (mgv : Nat) (mP : Nat) (mW : Nat) (mV : Nat) (mco : Nat) (men : Nat) (mnt : Nat) (tw : Int32) (mse : Int32) (mbr : Int32) (mwk : Int32) (mns : Int32) (mtp : Int32) (mss : Int32) (Fm : Nat → Int32) (x : Nat) (y : Nat) (s : Nat) (hx : x < 6) (hy : y < 7) (hs : s < 4) : CI l D (tY ai az al) yX9_flow wsX9_flow { frames := 3, cells := 0, slots := 0, locals := 66 } [.ref m, .int (nI x), .int (nI y), .int (sdI s)] [(m, .inr (9, [.ref mh, .ref mg, .ref mt, .ref mf, .ref ms, .ref msT, .ref msF, .ref mgv, .ref mP, .ref mW, .ref mV, .ref mco, .ref men, .ref mnt, .int tw, .int mse, .int mbr, .int mwk, .int mns, .int mtp, .int mss])), (mf, .inl (ai, 168, .inl Fm))] (fun (r : Int32) (u : Unit) => r = (Fm ((y * 6 + x) * 4 + s))) (fun (u : Unit) => [(m, .inr (9, [.ref mh, .ref mg, .ref mt, .ref mf, .ref ms, .ref msT, .ref msF, .ref mgv, .ref mP, .ref mW, .ref mV, .ref mco, .ref men, .ref mnt, .int (nI 0), .int mse, .int mbr, .int mwk, .int mns, .int mtp, .int mss])), (mf, .inl (ai, 168, .inl Fm))]) := by
  refine ofG_I (cc := cX9_flow) (nL := 4) (lv0 := [(0, .ref m), (1, .int (nI x)), (2, .int (nI y)), (3, .int (sdI s))]) (by decide) rfl (Nat.le_of_ble_eq_true rfl) rfl ?_
  intro Γ X E
  refine g_aload_n X dX9_flow_0 rfl 0 rfl ?_
  refine g_aload_n X dX9_flow_1 rfl 0 rfl ?_
  refine g_iload_n X dX9_flow_2 rfl 1 rfl ?_
  refine g_iload_n X dX9_flow_3 rfl 2 rfl ?_
  refine g_iload_n X dX9_flow_4 rfl 3 rfl ?_
  refine g_callVi (C := RX9) (As := [.int (nI x), .int (nI y), .int (sdI s)]) (rest := [.ref m]) (wr := [(mf, .inl (ai, 168, .inl Fm))]) X dX9_flow_5 (c_X9_wrongSide0 l D ai az al m mh mg mt mf ms msT msF mgv mP mW mV mco men mnt tw mse mbr mwk mns mtp mss (nI x) (nI y) s (CP_of hx hy) (hs)) gX9_flow_X9_wrongSide rfl rfl ok_X9_wrongSide rfl rfl (by decide) ⟨by decide, by decide⟩ (Nat.le_of_ble_eq_true rfl) [0] [1] ⟨rfl, by decide, rfl, by decide, by decide⟩ 0 rfl rfl rfl (fun r1 u hp => ?_)
  obtain rfl := hp
  refine g_sub (k := 0) (n := 0) (ws' := [(m, .inr (9, [.ref mh, .ref mg, .ref mt, .ref mf, .ref ms, .ref msT, .ref msF, .ref mgv, .ref mP, .ref mW, .ref mV, .ref mco, .ref men, .ref mnt, .int tw, .int mse, .int mbr, .int mwk, .int mns, .int mtp, .int mss])), (mf, .inl (ai, 168, .inl Fm))]) [1, 0] (by decide) rfl ?_
  refine g_putf (T := TX9) (v := .int (nI 0)) (ty := tyX9 14) (ws' := [(m, .inr (9, [.ref mh, .ref mg, .ref mt, .ref mf, .ref ms, .ref msT, .ref msF, .ref mgv, .ref mP, .ref mW, .ref mV, .ref mco, .ref men, .ref mnt, .int (nI 0), .int mse, .int mbr, .int mwk, .int mns, .int mtp, .int mss])), (mf, .inl (ai, 168, .inl Fm))]) X dX9_flow_8 0 rfl rfl in_X9_flow_X9 tyX9 tyX9_ok nmX9 14 (by decide) (by decide +kernel) rfl rfl (by decide +kernel) rfl rfl (Nat.le_of_ble_eq_true rfl) rfl ?_
  refine g_aload_n X dX9_flow_11 rfl 0 rfl ?_
  refine g_getf (T := TX9) (v := .int (nI 0)) X dX9_flow_12 0 rfl rfl in_X9_flow_X9 14 (by decide) (by decide +kernel) rfl rfl ?_
  refine g_if_leN (tgt := 22) X dX9_flow_15 (by decide) (by decide) (fun b15x => ?_) (fun b15x => False.elim (by revert b15x; decide))
  refine g_aload_n X dX9_flow_22 rfl 0 rfl ?_
  refine g_getf (T := TX9) (v := .ref mf) X dX9_flow_23 0 rfl rfl in_X9_flow_X9 3 (by decide) (by decide +kernel) rfl rfl ?_
  refine g_iconst (v := nI 4) X dX9_flow_26 (by decide) ?_
  refine g_iload_n X dX9_flow_27 rfl 1 rfl ?_
  refine g_iload_n X dX9_flow_28 rfl 2 rfl ?_
  refine g_callSi (As := [.int (nI x), .int (nI y)]) (rest := [.int (nI 4), .ref mf]) (wr := [(m, .inr (9, [.ref mh, .ref mg, .ref mt, .ref mf, .ref ms, .ref msT, .ref msF, .ref mgv, .ref mP, .ref mW, .ref mV, .ref mco, .ref men, .ref mnt, .int (nI 0), .int mse, .int mbr, .int mwk, .int mns, .int mtp, .int mss])), (mf, .inl (ai, 168, .inl Fm))]) X dX9_flow_29 (c_X9_at l D ai az al x y ) gX9_flow_X9_at rfl rfl ok_X9_at rfl rfl (by decide) ⟨by decide, by decide⟩ (Nat.le_of_ble_eq_true rfl) [] [0, 1] ⟨rfl, by decide, rfl, by decide, by decide⟩ (fun r2 u hp => ?_)
  obtain rfl := hp
  refine g_sub (k := 0) (n := 0) (ws' := [(m, .inr (9, [.ref mh, .ref mg, .ref mt, .ref mf, .ref ms, .ref msT, .ref msF, .ref mgv, .ref mP, .ref mW, .ref mV, .ref mco, .ref men, .ref mnt, .int (nI 0), .int mse, .int mbr, .int mwk, .int mns, .int mtp, .int mss])), (mf, .inl (ai, 168, .inl Fm))]) [0, 1] (by decide) rfl ?_
  refine g_imul (v := nI ((y * 6 + x) * 4)) X dX9_flow_32 (m4 _) ?_
  refine g_iload_n X dX9_flow_33 rfl 3 rfl ?_
  refine g_callSi (As := [.int (sdI s)]) (rest := [.int (nI ((y * 6 + x) * 4)), .ref mf]) (wr := [(m, .inr (9, [.ref mh, .ref mg, .ref mt, .ref mf, .ref ms, .ref msT, .ref msF, .ref mgv, .ref mP, .ref mW, .ref mV, .ref mco, .ref men, .ref mnt, .int (nI 0), .int mse, .int mbr, .int mwk, .int mns, .int mtp, .int mss])), (mf, .inl (ai, 168, .inl Fm))]) X dX9_flow_34 (c_X9_sideOfN l D ai az al s (hs)) gX9_flow_X9_sideOf rfl rfl ok_X9_sideOf rfl rfl (by decide) ⟨by decide, by decide⟩ (Nat.le_of_ble_eq_true rfl) [] [0, 1] ⟨rfl, by decide, rfl, by decide, by decide⟩ (fun r3 u hp => ?_)
  obtain rfl := hp
  refine g_sub (k := 0) (n := 0) (ws' := [(m, .inr (9, [.ref mh, .ref mg, .ref mt, .ref mf, .ref ms, .ref msT, .ref msF, .ref mgv, .ref mP, .ref mW, .ref mV, .ref mco, .ref men, .ref mnt, .int (nI 0), .int mse, .int mbr, .int mwk, .int mns, .int mtp, .int mss])), (mf, .inl (ai, 168, .inl Fm))]) [0, 1] (by decide) rfl ?_
  refine g_iadd (v := nI (((y * 6 + x) * 4) + s)) X dX9_flow_37 (nI_add _ _) ?_
  refine g_ialdN (v := (Fm (((y * 6 + x) * 4) + s))) X dX9_flow_38 1 0 rfl rfl (by omega) (by omega) (rfl) ?_
  exact g_iret X E dX9_flow_39 () rfl (by decide) (by decide) (rfl)

theorem ok_X9_highest : okName yX9_highest 1 := by decide +kernel
set_option maxRecDepth 100000 in
set_option maxHeartbeats 4000000 in
theorem c_X9_highest1 (l : Launch) (D : va_G) (ai az al : ClassId) (m : Nat) (mh : Nat) (mg : Nat) (mt : Nat) (mf : Nat) (ms : Nat) (msT : Nat) (msF : Nat) (mgv : Nat) (mP : Nat) (mW : Nat) (mV : Nat) (mco : Nat) (men : Nat) (mnt : Nat) (tw : Int32) (mse : Int32) (mbr : Int32) (mwk : Int32) (mns : Int32) (mtp : Int32) (mss : Int32) (p0 : Int32) (hq : ¬ inN p0 0 5) : CI l D (tY ai az al) yX9_highest wsX9_highest { frames := 2, cells := 0, slots := 0, locals := 42 } [.ref m, .int p0] [(m, .inr (9, [.ref mh, .ref mg, .ref mt, .ref mf, .ref ms, .ref msT, .ref msF, .ref mgv, .ref mP, .ref mW, .ref mV, .ref mco, .ref men, .ref mnt, .int tw, .int mse, .int mbr, .int mwk, .int mns, .int mtp, .int mss]))] (fun (r : Int32) (u : Unit) => r = nI 0) (fun (u : Unit) => [(m, .inr (9, [.ref mh, .ref mg, .ref mt, .ref mf, .ref ms, .ref msT, .ref msF, .ref mgv, .ref mP, .ref mW, .ref mV, .ref mco, .ref men, .ref mnt, .int (nI 1), .int mse, .int mbr, .int mwk, .int mns, .int mtp, .int mss]))]) := by
  refine ofG_I (cc := cX9_highest) (nL := 4) (lv0 := [(0, .ref m), (1, .int p0)]) (by decide) rfl (Nat.le_of_ble_eq_true rfl) rfl ?_
  intro Γ X E
  refine g_aload_n X dX9_highest_0 rfl 0 rfl ?_
  refine g_iload_n X dX9_highest_1 rfl 1 rfl ?_
  refine g_callSi (As := [.int p0]) (rest := [.ref m]) (wr := [(m, .inr (9, [.ref mh, .ref mg, .ref mt, .ref mf, .ref ms, .ref msT, .ref msF, .ref mgv, .ref mP, .ref mW, .ref mV, .ref mco, .ref men, .ref mnt, .int tw, .int mse, .int mbr, .int mwk, .int mns, .int mtp, .int mss]))]) X dX9_highest_2 (c_X9_isColumnF l D ai az al p0 (hq)) gX9_highest_X9_isColumn rfl rfl ok_X9_isColumn rfl rfl (by decide) ⟨by decide, by decide⟩ (Nat.le_of_ble_eq_true rfl) [] [0] ⟨rfl, by decide, rfl, by decide, by decide⟩ (fun r1 u hp => ?_)
  obtain rfl := hp
  refine g_sub (k := 0) (n := 0) (ws' := [(m, .inr (9, [.ref mh, .ref mg, .ref mt, .ref mf, .ref ms, .ref msT, .ref msF, .ref mgv, .ref mP, .ref mW, .ref mV, .ref mco, .ref men, .ref mnt, .int tw, .int mse, .int mbr, .int mwk, .int mns, .int mtp, .int mss]))]) [0] (by decide) rfl ?_
  refine g_callVi (C := RX9) (As := [.int (nI 0)]) (rest := []) (wr := []) X dX9_highest_5 (c_X9_checkedF l D ai az al m mh mg mt mf ms msT msF mgv mP mW mV mco men mnt tw mse mbr mwk mns mtp mss ) gX9_highest_X9_checked rfl rfl ok_X9_checked rfl rfl (by decide) ⟨by decide, by decide⟩ (Nat.le_of_ble_eq_true rfl) [0] [] ⟨rfl, by decide, rfl, by decide, by decide⟩ 0 rfl rfl rfl (fun r2 u hp => ?_)
  obtain rfl := hp
  refine g_sub (k := 0) (n := 0) (ws' := [(m, .inr (9, [.ref mh, .ref mg, .ref mt, .ref mf, .ref ms, .ref msT, .ref msF, .ref mgv, .ref mP, .ref mW, .ref mV, .ref mco, .ref men, .ref mnt, .int (nI 1), .int mse, .int mbr, .int mwk, .int mns, .int mtp, .int mss]))]) [0] (by decide) rfl ?_
  refine g_if_leN (tgt := 13) X dX9_highest_8 (by decide) (by decide) (fun b8x => False.elim (by revert b8x; decide)) (fun b8x => ?_)
  refine g_iconst (v := nI 0) X dX9_highest_11 (by decide) ?_
  exact g_iret X E dX9_highest_12 () rfl (by decide) (by decide) (rfl)

theorem ok_X9_roughness : okName yX9_roughness 1 := by decide +kernel
set_option maxRecDepth 100000 in
set_option maxHeartbeats 4000000 in
theorem c_X9_roughness1 (l : Launch) (D : va_G) (ai az al : ClassId) (m : Nat) (mh : Nat) (mg : Nat) (mt : Nat) (mf : Nat) (ms : Nat) (msT : Nat) (msF : Nat) (mgv : Nat) (mP : Nat) (mW : Nat) (mV : Nat) (mco : Nat) (men : Nat) (mnt : Nat) (tw : Int32) (mse : Int32) (mbr : Int32) (mwk : Int32) (mns : Int32) (mtp : Int32) (mss : Int32) (p0 : Int32) (hq : ¬ inN p0 0 5) : CI l D (tY ai az al) yX9_roughness wsX9_roughness { frames := 2, cells := 0, slots := 0, locals := 42 } [.ref m, .int p0] [(m, .inr (9, [.ref mh, .ref mg, .ref mt, .ref mf, .ref ms, .ref msT, .ref msF, .ref mgv, .ref mP, .ref mW, .ref mV, .ref mco, .ref men, .ref mnt, .int tw, .int mse, .int mbr, .int mwk, .int mns, .int mtp, .int mss]))] (fun (r : Int32) (u : Unit) => r = nI 0) (fun (u : Unit) => [(m, .inr (9, [.ref mh, .ref mg, .ref mt, .ref mf, .ref ms, .ref msT, .ref msF, .ref mgv, .ref mP, .ref mW, .ref mV, .ref mco, .ref men, .ref mnt, .int (nI 1), .int mse, .int mbr, .int mwk, .int mns, .int mtp, .int mss]))]) := by
  refine ofG_I (cc := cX9_roughness) (nL := 5) (lv0 := [(0, .ref m), (1, .int p0)]) (by decide) rfl (Nat.le_of_ble_eq_true rfl) rfl ?_
  intro Γ X E
  refine g_aload_n X dX9_roughness_0 rfl 0 rfl ?_
  refine g_iload_n X dX9_roughness_1 rfl 1 rfl ?_
  refine g_callSi (As := [.int p0]) (rest := [.ref m]) (wr := [(m, .inr (9, [.ref mh, .ref mg, .ref mt, .ref mf, .ref ms, .ref msT, .ref msF, .ref mgv, .ref mP, .ref mW, .ref mV, .ref mco, .ref men, .ref mnt, .int tw, .int mse, .int mbr, .int mwk, .int mns, .int mtp, .int mss]))]) X dX9_roughness_2 (c_X9_isColumnF l D ai az al p0 (hq)) gX9_roughness_X9_isColumn rfl rfl ok_X9_isColumn rfl rfl (by decide) ⟨by decide, by decide⟩ (Nat.le_of_ble_eq_true rfl) [] [0] ⟨rfl, by decide, rfl, by decide, by decide⟩ (fun r1 u hp => ?_)
  obtain rfl := hp
  refine g_sub (k := 0) (n := 0) (ws' := [(m, .inr (9, [.ref mh, .ref mg, .ref mt, .ref mf, .ref ms, .ref msT, .ref msF, .ref mgv, .ref mP, .ref mW, .ref mV, .ref mco, .ref men, .ref mnt, .int tw, .int mse, .int mbr, .int mwk, .int mns, .int mtp, .int mss]))]) [0] (by decide) rfl ?_
  refine g_callVi (C := RX9) (As := [.int (nI 0)]) (rest := []) (wr := []) X dX9_roughness_5 (c_X9_checkedF l D ai az al m mh mg mt mf ms msT msF mgv mP mW mV mco men mnt tw mse mbr mwk mns mtp mss ) gX9_roughness_X9_checked rfl rfl ok_X9_checked rfl rfl (by decide) ⟨by decide, by decide⟩ (Nat.le_of_ble_eq_true rfl) [0] [] ⟨rfl, by decide, rfl, by decide, by decide⟩ 0 rfl rfl rfl (fun r2 u hp => ?_)
  obtain rfl := hp
  refine g_sub (k := 0) (n := 0) (ws' := [(m, .inr (9, [.ref mh, .ref mg, .ref mt, .ref mf, .ref ms, .ref msT, .ref msF, .ref mgv, .ref mP, .ref mW, .ref mV, .ref mco, .ref men, .ref mnt, .int (nI 1), .int mse, .int mbr, .int mwk, .int mns, .int mtp, .int mss]))]) [0] (by decide) rfl ?_
  refine g_if_leN (tgt := 13) X dX9_roughness_8 (by decide) (by decide) (fun b8x => False.elim (by revert b8x; decide)) (fun b8x => ?_)
  refine g_iconst (v := nI 0) X dX9_roughness_11 (by decide) ?_
  exact g_iret X E dX9_roughness_12 () rfl (by decide) (by decide) (rfl)

theorem in_X9_highest_X9 : ∀ w ∈ u_ws RX9 TX9 21, w ∈ wsX9_highest := by decide +kernel
set_option maxRecDepth 100000 in
set_option maxHeartbeats 4000000 in
theorem c_X9_highest0 (l : Launch) (D : va_G) (ai az al : ClassId) (m : Nat) (mh : Nat) (mg : Nat) (mt : Nat) (mf : Nat) (ms : Nat) (msT : Nat) (msF : Nat) (mgv : Nat) (mP : Nat) (mW : Nat) (mV : Nat) (mco : Nat) (men : Nat) (mnt : Nat) (tw : Int32) (mse : Int32) (mbr : Int32) (mwk : Int32) (mns : Int32) (mtp : Int32) (mss : Int32) (Hm : Nat → Int32) (h : Nat → Nat) (x : Nat) (hx : x < 6) (hH : HOK Hm h) (hb : ∀ c, c < 42 → h c < 2 ^ 30) : CI l D (tY ai az al) yX9_highest wsX9_highest { frames := 2, cells := 0, slots := 0, locals := 42 } [.ref m, .int (nI x)] [(m, .inr (9, [.ref mh, .ref mg, .ref mt, .ref mf, .ref ms, .ref msT, .ref msF, .ref mgv, .ref mP, .ref mW, .ref mV, .ref mco, .ref men, .ref mnt, .int tw, .int mse, .int mbr, .int mwk, .int mns, .int mtp, .int mss])), (mh, .inl (ai, 42, .inl Hm))] (fun (r : Int32) (u : Unit) => r = nI (hiR h x 6)) (fun (u : Unit) => [(m, .inr (9, [.ref mh, .ref mg, .ref mt, .ref mf, .ref ms, .ref msT, .ref msF, .ref mgv, .ref mP, .ref mW, .ref mV, .ref mco, .ref men, .ref mnt, .int (nI 0), .int mse, .int mbr, .int mwk, .int mns, .int mtp, .int mss])), (mh, .inl (ai, 42, .inl Hm))]) := by
  refine ofG_I (cc := cX9_highest) (nL := 4) (lv0 := [(0, .ref m), (1, .int (nI x))]) (by decide) rfl (Nat.le_of_ble_eq_true rfl) rfl ?_
  intro Γ X E
  refine g_aload_n X dX9_highest_0 rfl 0 rfl ?_
  refine g_iload_n X dX9_highest_1 rfl 1 rfl ?_
  refine g_callSi (As := [.int (nI x)]) (rest := [.ref m]) (wr := [(m, .inr (9, [.ref mh, .ref mg, .ref mt, .ref mf, .ref ms, .ref msT, .ref msF, .ref mgv, .ref mP, .ref mW, .ref mV, .ref mco, .ref men, .ref mnt, .int tw, .int mse, .int mbr, .int mwk, .int mns, .int mtp, .int mss])), (mh, .inl (ai, 42, .inl Hm))]) X dX9_highest_2 (c_X9_isColumnT l D ai az al (nI x) (⟨x, Nat.zero_le _, by omega, rfl⟩)) gX9_highest_X9_isColumn rfl rfl ok_X9_isColumn rfl rfl (by decide) ⟨by decide, by decide⟩ (Nat.le_of_ble_eq_true rfl) [] [0, 1] ⟨rfl, by decide, rfl, by decide, by decide⟩ (fun r1 u hp => ?_)
  obtain rfl := hp
  refine g_sub (k := 0) (n := 0) (ws' := [(m, .inr (9, [.ref mh, .ref mg, .ref mt, .ref mf, .ref ms, .ref msT, .ref msF, .ref mgv, .ref mP, .ref mW, .ref mV, .ref mco, .ref men, .ref mnt, .int tw, .int mse, .int mbr, .int mwk, .int mns, .int mtp, .int mss])), (mh, .inl (ai, 42, .inl Hm))]) [0, 1] (by decide) rfl ?_
  refine g_callVi (C := RX9) (As := [.int (nI 1)]) (rest := []) (wr := [(mh, .inl (ai, 42, .inl Hm))]) X dX9_highest_5 (c_X9_checkedT l D ai az al m mh mg mt mf ms msT msF mgv mP mW mV mco men mnt tw mse mbr mwk mns mtp mss ) gX9_highest_X9_checked rfl rfl ok_X9_checked rfl rfl (by decide) ⟨by decide, by decide⟩ (Nat.le_of_ble_eq_true rfl) [0] [1] ⟨rfl, by decide, rfl, by decide, by decide⟩ 0 rfl rfl rfl (fun r2 u hp => ?_)
  obtain rfl := hp
  refine g_sub (k := 0) (n := 0) (ws' := [(m, .inr (9, [.ref mh, .ref mg, .ref mt, .ref mf, .ref ms, .ref msT, .ref msF, .ref mgv, .ref mP, .ref mW, .ref mV, .ref mco, .ref men, .ref mnt, .int (nI 0), .int mse, .int mbr, .int mwk, .int mns, .int mtp, .int mss])), (mh, .inl (ai, 42, .inl Hm))]) [1, 0] (by decide) rfl ?_
  refine g_if_leN (tgt := 13) X dX9_highest_8 (by decide) (by decide) (fun b8x => ?_) (fun b8x => False.elim (by revert b8x; decide))
  refine g_iconst (v := nI 0) X dX9_highest_13 (by decide) ?_
  refine g_istore_n (lv' := [(2, .int (nI 0)), (0, .ref m), (1, .int (nI x))]) X dX9_highest_14 rfl (by decide) rfl ?_
  refine g_iconst (v := nI 1) X dX9_highest_15 (by decide) ?_
  refine g_istore_n (lv' := [(3, .int (nI 1)), (2, .int (nI 0)), (0, .ref m), (1, .int (nI x))]) X dX9_highest_16 rfl (by decide) rfl ?_
  have L17 : ∀ (fl : Nat) (i : Nat) (o : Nat), (1 ≤ i) → (i ≤ 7) → (o = hiR h x (i - 1)) → (8 ≤ i + fl) → G Γ 4 0 0 [(m, .inr (9, [.ref mh, .ref mg, .ref mt, .ref mf, .ref ms, .ref msT, .ref msF, .ref mgv, .ref mP, .ref mW, .ref mV, .ref mco, .ref men, .ref mnt, .int (nI 0), .int mse, .int mbr, .int mwk, .int mns, .int mtp, .int mss])), (mh, .inl (ai, 42, .inl Hm))] [(0, .ref m), (1, .int (nI x)), (2, .int (nI o)), (3, .int (nI i))] 17 [] := by
    intro fl
    induction fl with
    | zero => intro i o h1i hi ho hk; exact absurd hk (by omega)
    | succ fl ih17 =>
      intro i o h1i hi ho hk
      refine g_iload_n X dX9_highest_17 rfl 3 rfl ?_
      refine g_bipush (v := nI 7) X dX9_highest_18 (by decide) ?_
      refine g_icmp_geN (tgt := 58) X dX9_highest_20 (by decide) (by omega) (by omega) (fun b20 => ?_) (fun b20 => ?_)
      · refine g_iload_n X dX9_highest_58 rfl 2 rfl ?_
        exact g_iret X E dX9_highest_59 () rfl (by decide) (by decide) (by rw [ho, show i - 1 = 6 by omega])
      · have hil := hiR_le h x (i - 1)
        have ho6 : o ≤ 6 := by omega
        have hb1 := hb (i * 6 + x) (by omega)
        have hb2 := hb (o * 6 + x) (by omega)
        refine g_aload_n X dX9_highest_23 rfl 0 rfl ?_
        refine g_getf (T := TX9) (v := .ref mh) X dX9_highest_24 0 rfl rfl in_X9_highest_X9 0 (by decide) (by decide +kernel) rfl rfl ?_
        refine g_iload_n X dX9_highest_27 rfl 1 rfl ?_
        refine g_iload_n X dX9_highest_28 rfl 3 rfl ?_
        refine g_callSi (As := [.int (nI x), .int (nI i)]) (rest := [.ref mh]) (wr := [(m, .inr (9, [.ref mh, .ref mg, .ref mt, .ref mf, .ref ms, .ref msT, .ref msF, .ref mgv, .ref mP, .ref mW, .ref mV, .ref mco, .ref men, .ref mnt, .int (nI 0), .int mse, .int mbr, .int mwk, .int mns, .int mtp, .int mss])), (mh, .inl (ai, 42, .inl Hm))]) X dX9_highest_29 (c_X9_at l D ai az al x i ) gX9_highest_X9_at rfl rfl ok_X9_at rfl rfl (by decide) ⟨by decide, by decide⟩ (Nat.le_of_ble_eq_true rfl) [] [0, 1] ⟨rfl, by decide, rfl, by decide, by decide⟩ (fun r3 u hp => ?_)
        obtain rfl := hp
        refine g_sub (k := 0) (n := 0) (ws' := [(m, .inr (9, [.ref mh, .ref mg, .ref mt, .ref mf, .ref ms, .ref msT, .ref msF, .ref mgv, .ref mP, .ref mW, .ref mV, .ref mco, .ref men, .ref mnt, .int (nI 0), .int mse, .int mbr, .int mwk, .int mns, .int mtp, .int mss])), (mh, .inl (ai, 42, .inl Hm))]) [0, 1] (by decide) rfl ?_
        refine g_ialdN (v := nI (h (i * 6 + x))) X dX9_highest_32 1 0 rfl rfl (by omega) (by omega) (hH (i * 6 + x) (by omega)) ?_
        refine g_aload_n X dX9_highest_33 rfl 0 rfl ?_
        refine g_getf (T := TX9) (v := .ref mh) X dX9_highest_34 0 rfl rfl in_X9_highest_X9 0 (by decide) (by decide +kernel) rfl rfl ?_
        refine g_iload_n X dX9_highest_37 rfl 1 rfl ?_
        refine g_iload_n X dX9_highest_38 rfl 2 rfl ?_
        refine g_callSi (As := [.int (nI x), .int (nI o)]) (rest := [.ref mh, .int (nI (h (i * 6 + x)))]) (wr := [(m, .inr (9, [.ref mh, .ref mg, .ref mt, .ref mf, .ref ms, .ref msT, .ref msF, .ref mgv, .ref mP, .ref mW, .ref mV, .ref mco, .ref men, .ref mnt, .int (nI 0), .int mse, .int mbr, .int mwk, .int mns, .int mtp, .int mss])), (mh, .inl (ai, 42, .inl Hm))]) X dX9_highest_39 (c_X9_at l D ai az al x o ) gX9_highest_X9_at rfl rfl ok_X9_at rfl rfl (by decide) ⟨by decide, by decide⟩ (Nat.le_of_ble_eq_true rfl) [] [0, 1] ⟨rfl, by decide, rfl, by decide, by decide⟩ (fun r4 u hp => ?_)
        obtain rfl := hp
        refine g_sub (k := 0) (n := 0) (ws' := [(m, .inr (9, [.ref mh, .ref mg, .ref mt, .ref mf, .ref ms, .ref msT, .ref msF, .ref mgv, .ref mP, .ref mW, .ref mV, .ref mco, .ref men, .ref mnt, .int (nI 0), .int mse, .int mbr, .int mwk, .int mns, .int mtp, .int mss])), (mh, .inl (ai, 42, .inl Hm))]) [0, 1] (by decide) rfl ?_
        refine g_ialdN (v := nI (h (o * 6 + x))) X dX9_highest_42 1 0 rfl rfl (by omega) (by omega) (hH (o * 6 + x) (by omega)) ?_
        refine g_icmp_leN (tgt := 50) X dX9_highest_43 (by decide) (by omega) (by omega) (fun b43 => ?_) (fun b43 => ?_)
        · refine g_iload_n X dX9_highest_50 rfl 2 rfl ?_
          refine g_istore_n (lv' := [(2, .int (nI o)), (0, .ref m), (1, .int (nI x)), (3, .int (nI i))]) X dX9_highest_51 rfl (by decide) rfl ?_
          refine g_iinc (v := nI (i + 1)) (lv' := [(3, .int (nI (i + 1))), (2, .int (nI o)), (0, .ref m), (1, .int (nI x))]) X dX9_highest_52 3 rfl (nI_inc _) (by decide) rfl ?_
          refine g_goto (tgt := 17) X dX9_highest_55 (by decide) ?_
          refine g_lv (lv' := [(0, .ref m), (1, .int (nI x)), (2, .int (nI o)), (3, .int (nI (i + 1)))]) [2, 3, 1, 0] rfl ?_
          exact ih17 (i + 1) _ (by omega) (by omega) (by obtain ⟨k, rfl⟩ : ∃ k, i = k + 1 := ⟨i - 1, by omega⟩; rw [show k + 1 + 1 - 1 = k + 1 by omega]; rw [show k + 1 - 1 = k by omega] at ho; subst ho; first | exact (if_neg (by omega)).symm | exact (if_pos (by omega)).symm) (by omega)
        · refine g_iload_n X dX9_highest_46 rfl 3 rfl ?_
          refine g_goto (tgt := 51) X dX9_highest_47 (by decide) ?_
          refine g_istore_n (lv' := [(2, .int (nI i)), (0, .ref m), (1, .int (nI x)), (3, .int (nI i))]) X dX9_highest_51 rfl (by decide) rfl ?_
          refine g_iinc (v := nI (i + 1)) (lv' := [(3, .int (nI (i + 1))), (2, .int (nI i)), (0, .ref m), (1, .int (nI x))]) X dX9_highest_52 3 rfl (nI_inc _) (by decide) rfl ?_
          refine g_goto (tgt := 17) X dX9_highest_55 (by decide) ?_
          refine g_lv (lv' := [(0, .ref m), (1, .int (nI x)), (2, .int (nI i)), (3, .int (nI (i + 1)))]) [2, 3, 1, 0] rfl ?_
          exact ih17 (i + 1) i (by omega) (by omega) (by obtain ⟨k, rfl⟩ : ∃ k, i = k + 1 := ⟨i - 1, by omega⟩; rw [show k + 1 + 1 - 1 = k + 1 by omega]; rw [show k + 1 - 1 = k by omega] at ho; subst ho; first | exact (if_neg (by omega)).symm | exact (if_pos (by omega)).symm) (by omega)
  refine g_lv (lv' := [(0, .ref m), (1, .int (nI x)), (2, .int (nI 0)), (3, .int (nI 1))]) [2, 3, 1, 0] rfl ?_
  exact L17 7 1 0 (by decide) (by decide) (rfl) (by decide)

theorem in_X9_roughness_X9 : ∀ w ∈ u_ws RX9 TX9 21, w ∈ wsX9_roughness := by decide +kernel
set_option maxRecDepth 100000 in
set_option maxHeartbeats 4000000 in
theorem c_X9_roughness0 (l : Launch) (D : va_G) (ai az al : ClassId) (m : Nat) (mh : Nat) (mg : Nat) (mt : Nat) (mf : Nat) (ms : Nat) (msT : Nat) (msF : Nat) (mgv : Nat) (mP : Nat) (mW : Nat) (mV : Nat) (mco : Nat) (men : Nat) (mnt : Nat) (tw : Int32) (mse : Int32) (mbr : Int32) (mwk : Int32) (mns : Int32) (mtp : Int32) (mss : Int32) (Hm : Nat → Int32) (h : Nat → Nat) (x : Nat) (hx : x < 6) (hH : HOK Hm h) (hb : ∀ c, c < 42 → h c < 2 ^ 30) : CI l D (tY ai az al) yX9_roughness wsX9_roughness { frames := 2, cells := 0, slots := 0, locals := 42 } [.ref m, .int (nI x)] [(m, .inr (9, [.ref mh, .ref mg, .ref mt, .ref mf, .ref ms, .ref msT, .ref msF, .ref mgv, .ref mP, .ref mW, .ref mV, .ref mco, .ref men, .ref mnt, .int tw, .int mse, .int mbr, .int mwk, .int mns, .int mtp, .int mss])), (mh, .inl (ai, 42, .inl Hm))] (fun (r : Int32) (u : Unit) => r = nI (rgR h x 6)) (fun (u : Unit) => [(m, .inr (9, [.ref mh, .ref mg, .ref mt, .ref mf, .ref ms, .ref msT, .ref msF, .ref mgv, .ref mP, .ref mW, .ref mV, .ref mco, .ref men, .ref mnt, .int (nI 0), .int mse, .int mbr, .int mwk, .int mns, .int mtp, .int mss])), (mh, .inl (ai, 42, .inl Hm))]) := by
  refine ofG_I (cc := cX9_roughness) (nL := 5) (lv0 := [(0, .ref m), (1, .int (nI x))]) (by decide) rfl (Nat.le_of_ble_eq_true rfl) rfl ?_
  intro Γ X E
  refine g_aload_n X dX9_roughness_0 rfl 0 rfl ?_
  refine g_iload_n X dX9_roughness_1 rfl 1 rfl ?_
  refine g_callSi (As := [.int (nI x)]) (rest := [.ref m]) (wr := [(m, .inr (9, [.ref mh, .ref mg, .ref mt, .ref mf, .ref ms, .ref msT, .ref msF, .ref mgv, .ref mP, .ref mW, .ref mV, .ref mco, .ref men, .ref mnt, .int tw, .int mse, .int mbr, .int mwk, .int mns, .int mtp, .int mss])), (mh, .inl (ai, 42, .inl Hm))]) X dX9_roughness_2 (c_X9_isColumnT l D ai az al (nI x) (⟨x, Nat.zero_le _, by omega, rfl⟩)) gX9_roughness_X9_isColumn rfl rfl ok_X9_isColumn rfl rfl (by decide) ⟨by decide, by decide⟩ (Nat.le_of_ble_eq_true rfl) [] [0, 1] ⟨rfl, by decide, rfl, by decide, by decide⟩ (fun r1 u hp => ?_)
  obtain rfl := hp
  refine g_sub (k := 0) (n := 0) (ws' := [(m, .inr (9, [.ref mh, .ref mg, .ref mt, .ref mf, .ref ms, .ref msT, .ref msF, .ref mgv, .ref mP, .ref mW, .ref mV, .ref mco, .ref men, .ref mnt, .int tw, .int mse, .int mbr, .int mwk, .int mns, .int mtp, .int mss])), (mh, .inl (ai, 42, .inl Hm))]) [0, 1] (by decide) rfl ?_
  refine g_callVi (C := RX9) (As := [.int (nI 1)]) (rest := []) (wr := [(mh, .inl (ai, 42, .inl Hm))]) X dX9_roughness_5 (c_X9_checkedT l D ai az al m mh mg mt mf ms msT msF mgv mP mW mV mco men mnt tw mse mbr mwk mns mtp mss ) gX9_roughness_X9_checked rfl rfl ok_X9_checked rfl rfl (by decide) ⟨by decide, by decide⟩ (Nat.le_of_ble_eq_true rfl) [0] [1] ⟨rfl, by decide, rfl, by decide, by decide⟩ 0 rfl rfl rfl (fun r2 u hp => ?_)
  obtain rfl := hp
  refine g_sub (k := 0) (n := 0) (ws' := [(m, .inr (9, [.ref mh, .ref mg, .ref mt, .ref mf, .ref ms, .ref msT, .ref msF, .ref mgv, .ref mP, .ref mW, .ref mV, .ref mco, .ref men, .ref mnt, .int (nI 0), .int mse, .int mbr, .int mwk, .int mns, .int mtp, .int mss])), (mh, .inl (ai, 42, .inl Hm))]) [1, 0] (by decide) rfl ?_
  refine g_if_leN (tgt := 13) X dX9_roughness_8 (by decide) (by decide) (fun b8x => ?_) (fun b8x => False.elim (by revert b8x; decide))
  refine g_iconst (v := nI 0) X dX9_roughness_13 (by decide) ?_
  refine g_istore_n (lv' := [(2, .int (nI 0)), (0, .ref m), (1, .int (nI x))]) X dX9_roughness_14 rfl (by decide) rfl ?_
  refine g_iconst (v := nI 1) X dX9_roughness_15 (by decide) ?_
  refine g_istore_n (lv' := [(3, .int (nI 1)), (2, .int (nI 0)), (0, .ref m), (1, .int (nI x))]) X dX9_roughness_16 rfl (by decide) rfl ?_
  have L17 : ∀ (fl : Nat) (i : Nat) (o : Int32), (1 ≤ i) → (i ≤ 7) → (o = nI (rgR h x (i - 1))) → (8 ≤ i + fl) → G Γ 5 0 0 [(m, .inr (9, [.ref mh, .ref mg, .ref mt, .ref mf, .ref ms, .ref msT, .ref msF, .ref mgv, .ref mP, .ref mW, .ref mV, .ref mco, .ref men, .ref mnt, .int (nI 0), .int mse, .int mbr, .int mwk, .int mns, .int mtp, .int mss])), (mh, .inl (ai, 42, .inl Hm))] [(0, .ref m), (1, .int (nI x)), (2, .int o), (3, .int (nI i))] 17 [] := by
    intro fl
    induction fl with
    | zero => intro i o h1i hi ho hk; exact absurd hk (by omega)
    | succ fl ih17 =>
      intro i o h1i hi ho hk
      refine g_iload_n X dX9_roughness_17 rfl 3 rfl ?_
      refine g_bipush (v := nI 7) X dX9_roughness_18 (by decide) ?_
      refine g_icmp_geN (tgt := 70) X dX9_roughness_20 (by decide) (by omega) (by omega) (fun b20 => ?_) (fun b20 => ?_)
      · refine g_iload_n X dX9_roughness_70 rfl 2 rfl ?_
        exact g_iret X E dX9_roughness_71 () rfl (by decide) (by decide) (by rw [ho, show i - 1 = 6 by omega])
      · refine g_aload_n X dX9_roughness_23 rfl 0 rfl ?_
        refine g_getf (T := TX9) (v := .ref mh) X dX9_roughness_24 0 rfl rfl in_X9_roughness_X9 0 (by decide) (by decide +kernel) rfl rfl ?_
        refine g_iload_n X dX9_roughness_27 rfl 1 rfl ?_
        refine g_iload_n X dX9_roughness_28 rfl 3 rfl ?_
        refine g_callSi (As := [.int (nI x), .int (nI i)]) (rest := [.ref mh]) (wr := [(m, .inr (9, [.ref mh, .ref mg, .ref mt, .ref mf, .ref ms, .ref msT, .ref msF, .ref mgv, .ref mP, .ref mW, .ref mV, .ref mco, .ref men, .ref mnt, .int (nI 0), .int mse, .int mbr, .int mwk, .int mns, .int mtp, .int mss])), (mh, .inl (ai, 42, .inl Hm))]) X dX9_roughness_29 (c_X9_at l D ai az al x i ) gX9_roughness_X9_at rfl rfl ok_X9_at rfl rfl (by decide) ⟨by decide, by decide⟩ (Nat.le_of_ble_eq_true rfl) [] [0, 1] ⟨rfl, by decide, rfl, by decide, by decide⟩ (fun r3 u hp => ?_)
        obtain rfl := hp
        refine g_sub (k := 0) (n := 0) (ws' := [(m, .inr (9, [.ref mh, .ref mg, .ref mt, .ref mf, .ref ms, .ref msT, .ref msF, .ref mgv, .ref mP, .ref mW, .ref mV, .ref mco, .ref men, .ref mnt, .int (nI 0), .int mse, .int mbr, .int mwk, .int mns, .int mtp, .int mss])), (mh, .inl (ai, 42, .inl Hm))]) [0, 1] (by decide) rfl ?_
        refine g_ialdN (v := nI (h (i * 6 + x))) X dX9_roughness_32 1 0 rfl rfl (by omega) (by omega) (hH (i * 6 + x) (by omega)) ?_
        refine g_aload_n X dX9_roughness_33 rfl 0 rfl ?_
        refine g_getf (T := TX9) (v := .ref mh) X dX9_roughness_34 0 rfl rfl in_X9_roughness_X9 0 (by decide) (by decide +kernel) rfl rfl ?_
        refine g_iload_n X dX9_roughness_37 rfl 1 rfl ?_
        refine g_iload_n X dX9_roughness_38 rfl 3 rfl ?_
        refine g_iconst (v := nI 1) X dX9_roughness_39 (by decide) ?_
        refine g_isub (v := nI (i - 1)) X dX9_roughness_40 (pk_sub h1i) ?_
        refine g_callSi (As := [.int (nI x), .int (nI (i - 1))]) (rest := [.ref mh, .int (nI (h (i * 6 + x)))]) (wr := [(m, .inr (9, [.ref mh, .ref mg, .ref mt, .ref mf, .ref ms, .ref msT, .ref msF, .ref mgv, .ref mP, .ref mW, .ref mV, .ref mco, .ref men, .ref mnt, .int (nI 0), .int mse, .int mbr, .int mwk, .int mns, .int mtp, .int mss])), (mh, .inl (ai, 42, .inl Hm))]) X dX9_roughness_41 (c_X9_at l D ai az al x (i - 1) ) gX9_roughness_X9_at rfl rfl ok_X9_at rfl rfl (by decide) ⟨by decide, by decide⟩ (Nat.le_of_ble_eq_true rfl) [] [0, 1] ⟨rfl, by decide, rfl, by decide, by decide⟩ (fun r4 u hp => ?_)
        obtain rfl := hp
        refine g_sub (k := 0) (n := 0) (ws' := [(m, .inr (9, [.ref mh, .ref mg, .ref mt, .ref mf, .ref ms, .ref msT, .ref msF, .ref mgv, .ref mP, .ref mW, .ref mV, .ref mco, .ref men, .ref mnt, .int (nI 0), .int mse, .int mbr, .int mwk, .int mns, .int mtp, .int mss])), (mh, .inl (ai, 42, .inl Hm))]) [0, 1] (by decide) rfl ?_
        refine g_ialdN (v := nI (h ((i - 1) * 6 + x))) X dX9_roughness_44 1 0 rfl rfl (by omega) (by omega) (hH ((i - 1) * 6 + x) (by omega)) ?_
        refine g_isub (v := (nI (h (i * 6 + x)) - nI (h ((i - 1) * 6 + x)))) X dX9_roughness_45 (rfl) ?_
        refine g_istore (lv' := [(4, .int (nI (h (i * 6 + x)) - nI (h ((i - 1) * 6 + x)))), (0, .ref m), (1, .int (nI x)), (2, .int o), (3, .int (nI i))]) X dX9_roughness_46 (by decide) rfl ?_
        refine g_iload_n X dX9_roughness_48 rfl 3 rfl ?_
        refine g_iload X dX9_roughness_49 0 rfl ?_
        refine g_if_ge (tgt := 60) X dX9_roughness_51 (by decide) (fun b51 => ?_) (fun b51 => ?_)
        · refine g_iload X dX9_roughness_60 0 rfl ?_
          refine g_iadd (v := (o + (nI (h (i * 6 + x)) - nI (h ((i - 1) * 6 + x))))) X dX9_roughness_62 (rfl) ?_
          refine g_istore_n (lv' := [(2, .int (o + (nI (h (i * 6 + x)) - nI (h ((i - 1) * 6 + x))))), (4, .int (nI (h (i * 6 + x)) - nI (h ((i - 1) * 6 + x)))), (0, .ref m), (1, .int (nI x)), (3, .int (nI i))]) X dX9_roughness_63 rfl (by decide) rfl ?_
          refine g_iinc (v := nI (i + 1)) (lv' := [(3, .int (nI (i + 1))), (2, .int (o + (nI (h (i * 6 + x)) - nI (h ((i - 1) * 6 + x))))), (4, .int (nI (h (i * 6 + x)) - nI (h ((i - 1) * 6 + x)))), (0, .ref m), (1, .int (nI x))]) X dX9_roughness_64 4 rfl (nI_inc _) (by decide) rfl ?_
          refine g_goto (tgt := 17) X dX9_roughness_67 (by decide) ?_
          refine g_lv (lv' := [(0, .ref m), (1, .int (nI x)), (2, .int (o + (nI (h (i * 6 + x)) - nI (h ((i - 1) * 6 + x))))), (3, .int (nI (i + 1)))]) [3, 4, 1, 0] rfl ?_
          exact ih17 (i + 1) (o + (nI (h (i * 6 + x)) - nI (h ((i - 1) * 6 + x)))) (by omega) (by omega) (by obtain ⟨k, rfl⟩ : ∃ k, i = k + 1 := ⟨i - 1, by omega⟩; rw [show k + 1 + 1 - 1 = k + 1 by omega]; rw [show k + 1 - 1 = k by omega] at ho b51 ⊢; have q := rg_abs (hb ((k + 1) * 6 + x) (by omega)) (hb (k * 6 + x) (by omega)); first | (rw [ho, q.1 b51, nI_add]; rfl) | (rw [ho, q.2 b51, nI_add]; rfl)) (by omega)
        · refine g_iload X dX9_roughness_54 0 rfl ?_
          refine g_ineg (v := (-(nI (h (i * 6 + x)) - nI (h ((i - 1) * 6 + x))))) X dX9_roughness_56 rfl ?_
          refine g_goto (tgt := 62) X dX9_roughness_57 (by decide) ?_
          refine g_iadd (v := (o + (-(nI (h (i * 6 + x)) - nI (h ((i - 1) * 6 + x)))))) X dX9_roughness_62 (rfl) ?_
          refine g_istore_n (lv' := [(2, .int (o + (-(nI (h (i * 6 + x)) - nI (h ((i - 1) * 6 + x)))))), (4, .int (nI (h (i * 6 + x)) - nI (h ((i - 1) * 6 + x)))), (0, .ref m), (1, .int (nI x)), (3, .int (nI i))]) X dX9_roughness_63 rfl (by decide) rfl ?_
          refine g_iinc (v := nI (i + 1)) (lv' := [(3, .int (nI (i + 1))), (2, .int (o + (-(nI (h (i * 6 + x)) - nI (h ((i - 1) * 6 + x)))))), (4, .int (nI (h (i * 6 + x)) - nI (h ((i - 1) * 6 + x)))), (0, .ref m), (1, .int (nI x))]) X dX9_roughness_64 4 rfl (nI_inc _) (by decide) rfl ?_
          refine g_goto (tgt := 17) X dX9_roughness_67 (by decide) ?_
          refine g_lv (lv' := [(0, .ref m), (1, .int (nI x)), (2, .int (o + (-(nI (h (i * 6 + x)) - nI (h ((i - 1) * 6 + x)))))), (3, .int (nI (i + 1)))]) [3, 4, 1, 0] rfl ?_
          exact ih17 (i + 1) (o + (-(nI (h (i * 6 + x)) - nI (h ((i - 1) * 6 + x))))) (by omega) (by omega) (by obtain ⟨k, rfl⟩ : ∃ k, i = k + 1 := ⟨i - 1, by omega⟩; rw [show k + 1 + 1 - 1 = k + 1 by omega]; rw [show k + 1 - 1 = k by omega] at ho b51 ⊢; have q := rg_abs (hb ((k + 1) * 6 + x) (by omega)) (hb (k * 6 + x) (by omega)); first | (rw [ho, q.1 b51, nI_add]; rfl) | (rw [ho, q.2 b51, nI_add]; rfl)) (by omega)
  refine g_lv (lv' := [(0, .ref m), (1, .int (nI x)), (2, .int (nI 0)), (3, .int (nI 1))]) [2, 3, 1, 0] rfl ?_
  exact L17 7 1 (nI 0) (by decide) (by decide) (rfl) (by decide)

theorem ok_X9_flooded : okName yX9_flooded 1 := by decide +kernel
set_option maxRecDepth 100000 in
set_option maxHeartbeats 4000000 in
theorem c_X9_flooded1 (l : Launch) (D : va_G) (ai az al : ClassId) (m : Nat) (mh : Nat) (mg : Nat) (mt : Nat) (mf : Nat) (ms : Nat) (msT : Nat) (msF : Nat) (mgv : Nat) (mP : Nat) (mW : Nat) (mV : Nat) (mco : Nat) (men : Nat) (mnt : Nat) (tw : Int32) (mse : Int32) (mbr : Int32) (mwk : Int32) (mns : Int32) (mtp : Int32) (mss : Int32) (p0 : Int32) (hq : ¬ inN p0 0 20) : CI l D (tY ai az al) yX9_flooded wsX9_flooded { frames := 1, cells := 0, slots := 0, locals := 22 } [.ref m, .int p0] [(m, .inr (9, [.ref mh, .ref mg, .ref mt, .ref mf, .ref ms, .ref msT, .ref msF, .ref mgv, .ref mP, .ref mW, .ref mV, .ref mco, .ref men, .ref mnt, .int tw, .int mse, .int mbr, .int mwk, .int mns, .int mtp, .int mss]))] (fun (r : Int32) (u : Unit) => r = nI 0) (fun (u : Unit) => [(m, .inr (9, [.ref mh, .ref mg, .ref mt, .ref mf, .ref ms, .ref msT, .ref msF, .ref mgv, .ref mP, .ref mW, .ref mV, .ref mco, .ref men, .ref mnt, .int (nI 1), .int mse, .int mbr, .int mwk, .int mns, .int mtp, .int mss]))]) := by
  refine ofG_I (cc := cX9_flooded) (nL := 2) (lv0 := [(0, .ref m), (1, .int p0)]) (by decide) rfl (Nat.le_of_ble_eq_true rfl) rfl ?_
  intro Γ X E
  refine g_aload_n X dX9_flooded_0 rfl 0 rfl ?_
  refine g_iload_n X dX9_flooded_1 rfl 1 rfl ?_
  refine g_iconst (v := nI 0) X dX9_flooded_2 (by decide) ?_
  refine g_bipush (v := nI 20) X dX9_flooded_3 (by decide) ?_
  refine g_callSi (As := [.int p0, .int (nI 0), .int (nI 20)]) (rest := [.ref m]) (wr := [(m, .inr (9, [.ref mh, .ref mg, .ref mt, .ref mf, .ref ms, .ref msT, .ref msF, .ref mgv, .ref mP, .ref mW, .ref mV, .ref mco, .ref men, .ref mnt, .int tw, .int mse, .int mbr, .int mwk, .int mns, .int mtp, .int mss]))]) X dX9_flooded_5 (c_X9_inF l D ai az al p0 0 20 (by decide) (by decide) (hq)) gX9_flooded_X9_in rfl rfl ok_X9_in rfl rfl (by decide) ⟨by decide, by decide⟩ (Nat.le_of_ble_eq_true rfl) [] [0] ⟨rfl, by decide, rfl, by decide, by decide⟩ (fun r1 u hp => ?_)
  obtain rfl := hp
  refine g_sub (k := 0) (n := 0) (ws' := [(m, .inr (9, [.ref mh, .ref mg, .ref mt, .ref mf, .ref ms, .ref msT, .ref msF, .ref mgv, .ref mP, .ref mW, .ref mV, .ref mco, .ref men, .ref mnt, .int tw, .int mse, .int mbr, .int mwk, .int mns, .int mtp, .int mss]))]) [0] (by decide) rfl ?_
  refine g_callVi (C := RX9) (As := [.int (nI 0)]) (rest := []) (wr := []) X dX9_flooded_8 (c_X9_checkedF l D ai az al m mh mg mt mf ms msT msF mgv mP mW mV mco men mnt tw mse mbr mwk mns mtp mss ) gX9_flooded_X9_checked rfl rfl ok_X9_checked rfl rfl (by decide) ⟨by decide, by decide⟩ (Nat.le_of_ble_eq_true rfl) [0] [] ⟨rfl, by decide, rfl, by decide, by decide⟩ 0 rfl rfl rfl (fun r2 u hp => ?_)
  obtain rfl := hp
  refine g_sub (k := 0) (n := 0) (ws' := [(m, .inr (9, [.ref mh, .ref mg, .ref mt, .ref mf, .ref ms, .ref msT, .ref msF, .ref mgv, .ref mP, .ref mW, .ref mV, .ref mco, .ref men, .ref mnt, .int (nI 1), .int mse, .int mbr, .int mwk, .int mns, .int mtp, .int mss]))]) [0] (by decide) rfl ?_
  refine g_if_leN (tgt := 18) X dX9_flooded_11 (by decide) (by decide) (fun b11x => False.elim (by revert b11x; decide)) (fun b11x => ?_)
  refine g_iconst (v := nI 0) X dX9_flooded_14 (by decide) ?_
  refine g_goto (tgt := 23) X dX9_flooded_15 (by decide) ?_
  exact g_iret X E dX9_flooded_23 () rfl (by decide) (by decide) (rfl)

set_option maxRecDepth 100000 in
set_option maxHeartbeats 4000000 in
theorem c_X9_flooded0 (l : Launch) (D : va_G) (ai az al : ClassId) (m : Nat) (mh : Nat) (mg : Nat) (mt : Nat) (mf : Nat) (ms : Nat) (msT : Nat) (msF : Nat) (mgv : Nat) (mP : Nat) (mW : Nat) (mV : Nat) (mco : Nat) (men : Nat) (mnt : Nat) (tw : Int32) (mse : Int32) (mbr : Int32) (mwk : Int32) (mns : Int32) (mtp : Int32) (mss : Int32) (Am : Nat → Int32) (Hm : Nat → Int32) (Wm : Nat → Int32) (nb : Nat → Nat → Nat) (h : Nat → Nat) (lv : Nat) (hW : NW nb) (hWm : WOK Wm nb) (hH : HOK Hm h) (hb : ∀ c, c < 42 → h c < 2 ^ 31) (hlv : lv ≤ 20) : CI l D (tY ai az al) yX9_flooded wsX9_flooded { frames := 3, cells := 0, slots := 0, locals := 71 } [.ref m, .int (nI lv)] [(m, .inr (9, [.ref mh, .ref mg, .ref mt, .ref mf, .ref ms, .ref msT, .ref msF, .ref mgv, .ref mP, .ref mW, .ref mV, .ref mco, .ref men, .ref mnt, .int tw, .int mse, .int mbr, .int mwk, .int mns, .int mtp, .int mss])), (mV, .inl (az, 42, .inl Am)), (mh, .inl (ai, 42, .inl Hm)), (mW, .inl (az, 168, .inl Wm))] (fun (r : Int32) (u : (Nat → Int32) × (Nat → Bool)) => r = nI (cB u.2 42) ∧ FL nb (lowB h lv) u.2 ∧ POK u.1 u.2) (fun (u : (Nat → Int32) × (Nat → Bool)) => [(m, .inr (9, [.ref mh, .ref mg, .ref mt, .ref mf, .ref ms, .ref msT, .ref msF, .ref mgv, .ref mP, .ref mW, .ref mV, .ref mco, .ref men, .ref mnt, .int (nI 0), .int mse, .int mbr, .int mwk, .int mns, .int mtp, .int mss])), (mV, .inl (az, 42, .inl u.1)), (mh, .inl (ai, 42, .inl Hm)), (mW, .inl (az, 168, .inl Wm))]) := by
  refine ofG_I (cc := cX9_flooded) (nL := 2) (lv0 := [(0, .ref m), (1, .int (nI lv))]) (by decide) rfl (Nat.le_of_ble_eq_true rfl) rfl ?_
  intro Γ X E
  refine g_aload_n X dX9_flooded_0 rfl 0 rfl ?_
  refine g_iload_n X dX9_flooded_1 rfl 1 rfl ?_
  refine g_iconst (v := nI 0) X dX9_flooded_2 (by decide) ?_
  refine g_bipush (v := nI 20) X dX9_flooded_3 (by decide) ?_
  refine g_callSi (As := [.int (nI lv), .int (nI 0), .int (nI 20)]) (rest := [.ref m]) (wr := [(m, .inr (9, [.ref mh, .ref mg, .ref mt, .ref mf, .ref ms, .ref msT, .ref msF, .ref mgv, .ref mP, .ref mW, .ref mV, .ref mco, .ref men, .ref mnt, .int tw, .int mse, .int mbr, .int mwk, .int mns, .int mtp, .int mss])), (mV, .inl (az, 42, .inl Am)), (mh, .inl (ai, 42, .inl Hm)), (mW, .inl (az, 168, .inl Wm))]) X dX9_flooded_5 (c_X9_inT l D ai az al (nI lv) 0 20 (by decide) (by decide) (⟨lv, Nat.zero_le _, hlv, rfl⟩)) gX9_flooded_X9_in rfl rfl ok_X9_in rfl rfl (by decide) ⟨by decide, by decide⟩ (Nat.le_of_ble_eq_true rfl) [] [0, 1, 2, 3] ⟨rfl, by decide, rfl, by decide, by decide⟩ (fun r1 u hp => ?_)
  obtain rfl := hp
  refine g_sub (k := 0) (n := 0) (ws' := [(m, .inr (9, [.ref mh, .ref mg, .ref mt, .ref mf, .ref ms, .ref msT, .ref msF, .ref mgv, .ref mP, .ref mW, .ref mV, .ref mco, .ref men, .ref mnt, .int tw, .int mse, .int mbr, .int mwk, .int mns, .int mtp, .int mss])), (mV, .inl (az, 42, .inl Am)), (mh, .inl (ai, 42, .inl Hm)), (mW, .inl (az, 168, .inl Wm))]) [0, 1, 2, 3] (by decide) rfl ?_
  refine g_callVi (C := RX9) (As := [.int (nI 1)]) (rest := []) (wr := [(mV, .inl (az, 42, .inl Am)), (mh, .inl (ai, 42, .inl Hm)), (mW, .inl (az, 168, .inl Wm))]) X dX9_flooded_8 (c_X9_checkedT l D ai az al m mh mg mt mf ms msT msF mgv mP mW mV mco men mnt tw mse mbr mwk mns mtp mss ) gX9_flooded_X9_checked rfl rfl ok_X9_checked rfl rfl (by decide) ⟨by decide, by decide⟩ (Nat.le_of_ble_eq_true rfl) [0] [1, 2, 3] ⟨rfl, by decide, rfl, by decide, by decide⟩ 0 rfl rfl rfl (fun r2 u hp => ?_)
  obtain rfl := hp
  refine g_sub (k := 0) (n := 0) (ws' := [(m, .inr (9, [.ref mh, .ref mg, .ref mt, .ref mf, .ref ms, .ref msT, .ref msF, .ref mgv, .ref mP, .ref mW, .ref mV, .ref mco, .ref men, .ref mnt, .int (nI 0), .int mse, .int mbr, .int mwk, .int mns, .int mtp, .int mss])), (mV, .inl (az, 42, .inl Am)), (mh, .inl (ai, 42, .inl Hm)), (mW, .inl (az, 168, .inl Wm))]) [3, 0, 1, 2] (by decide) rfl ?_
  refine g_if_leN (tgt := 18) X dX9_flooded_11 (by decide) (by decide) (fun b11x => ?_) (fun b11x => False.elim (by revert b11x; decide))
  refine g_aload_n X dX9_flooded_18 rfl 0 rfl ?_
  refine g_iload_n X dX9_flooded_19 rfl 1 rfl ?_
  refine g_callVi (C := RX9) (As := [.int (nI lv)]) (rest := []) (wr := []) X dX9_flooded_20 (c_X9_wets l D ai az al m mh mg mt mf ms msT msF mgv mP mW mV mco men mnt (nI 0) mse mbr mwk mns mtp mss Am Hm Wm nb h lv (hW) (hWm) (hH) (hb) (by omega)) gX9_flooded_X9_wets rfl rfl ok_X9_wets rfl rfl (by decide) ⟨by decide, by decide⟩ (Nat.le_of_ble_eq_true rfl) [0, 1, 2, 3] [] ⟨rfl, by decide, rfl, by decide, by decide⟩ 0 rfl rfl rfl (fun r3 u hp => ?_)
  obtain ⟨A6, V6⟩ := u
  try dsimp only at hp
  obtain ⟨rfl, hF6, hV6⟩ := hp
  refine g_sub (k := 0) (n := 0) (ws' := [(m, .inr (9, [.ref mh, .ref mg, .ref mt, .ref mf, .ref ms, .ref msT, .ref msF, .ref mgv, .ref mP, .ref mW, .ref mV, .ref mco, .ref men, .ref mnt, .int (nI 0), .int mse, .int mbr, .int mwk, .int mns, .int mtp, .int mss])), (mV, .inl (az, 42, .inl A6)), (mh, .inl (ai, 42, .inl Hm)), (mW, .inl (az, 168, .inl Wm))]) [0, 1, 2, 3] (by decide) rfl ?_
  exact g_iret X E dX9_flooded_23 (⟨A6, V6⟩) rfl (by decide) (by decide) (⟨rfl, hF6, hV6⟩)

theorem ok_X9_floodedByRounds : okName yX9_floodedByRounds 1 := by decide +kernel
set_option maxRecDepth 100000 in
set_option maxHeartbeats 4000000 in
theorem c_X9_floodedByRounds1 (l : Launch) (D : va_G) (ai az al : ClassId) (m : Nat) (mh : Nat) (mg : Nat) (mt : Nat) (mf : Nat) (ms : Nat) (msT : Nat) (msF : Nat) (mgv : Nat) (mP : Nat) (mW : Nat) (mV : Nat) (mco : Nat) (men : Nat) (mnt : Nat) (tw : Int32) (mse : Int32) (mbr : Int32) (mwk : Int32) (mns : Int32) (mtp : Int32) (mss : Int32) (p0 : Int32) (hq : ¬ inN p0 0 20) : CI l D (tY ai az al) yX9_floodedByRounds wsX9_floodedByRounds { frames := 2, cells := 0, slots := 0, locals := 43 } [.ref m, .int p0] [(m, .inr (9, [.ref mh, .ref mg, .ref mt, .ref mf, .ref ms, .ref msT, .ref msF, .ref mgv, .ref mP, .ref mW, .ref mV, .ref mco, .ref men, .ref mnt, .int tw, .int mse, .int mbr, .int mwk, .int mns, .int mtp, .int mss]))] (fun (r : Int32) (u : Unit) => r = nI 0) (fun (u : Unit) => [(m, .inr (9, [.ref mh, .ref mg, .ref mt, .ref mf, .ref ms, .ref msT, .ref msF, .ref mgv, .ref mP, .ref mW, .ref mV, .ref mco, .ref men, .ref mnt, .int (nI 1), .int mse, .int mbr, .int mwk, .int mns, .int mtp, .int mss]))]) := by
  refine ofG_I (cc := cX9_floodedByRounds) (nL := 2) (lv0 := [(0, .ref m), (1, .int p0)]) (by decide) rfl (Nat.le_of_ble_eq_true rfl) rfl ?_
  intro Γ X E
  refine g_aload_n X dX9_floodedByRounds_0 rfl 0 rfl ?_
  refine g_iload_n X dX9_floodedByRounds_1 rfl 1 rfl ?_
  refine g_callVi (C := RX9) (As := [.int p0]) (rest := []) (wr := []) X dX9_floodedByRounds_2 (c_X9_flooded1 l D ai az al m mh mg mt mf ms msT msF mgv mP mW mV mco men mnt tw mse mbr mwk mns mtp mss p0 (hq)) gX9_floodedByRounds_X9_flooded rfl rfl ok_X9_flooded rfl rfl (by decide) ⟨by decide, by decide⟩ (Nat.le_of_ble_eq_true rfl) [0] [] ⟨rfl, by decide, rfl, by decide, by decide⟩ 0 rfl rfl rfl (fun r1 u hp => ?_)
  obtain rfl := hp
  refine g_sub (k := 0) (n := 0) (ws' := [(m, .inr (9, [.ref mh, .ref mg, .ref mt, .ref mf, .ref ms, .ref msT, .ref msF, .ref mgv, .ref mP, .ref mW, .ref mV, .ref mco, .ref men, .ref mnt, .int (nI 1), .int mse, .int mbr, .int mwk, .int mns, .int mtp, .int mss]))]) [0] (by decide) rfl ?_
  exact g_iret X E dX9_floodedByRounds_5 () rfl (by decide) (by decide) (rfl)

set_option maxRecDepth 100000 in
set_option maxHeartbeats 4000000 in
theorem c_X9_floodedByRounds0 (l : Launch) (D : va_G) (ai az al : ClassId) (m : Nat) (mh : Nat) (mg : Nat) (mt : Nat) (mf : Nat) (ms : Nat) (msT : Nat) (msF : Nat) (mgv : Nat) (mP : Nat) (mW : Nat) (mV : Nat) (mco : Nat) (men : Nat) (mnt : Nat) (tw : Int32) (mse : Int32) (mbr : Int32) (mwk : Int32) (mns : Int32) (mtp : Int32) (mss : Int32) (Am : Nat → Int32) (Hm : Nat → Int32) (Wm : Nat → Int32) (nb : Nat → Nat → Nat) (h : Nat → Nat) (lv : Nat) (hW : NW nb) (hWm : WOK Wm nb) (hH : HOK Hm h) (hb : ∀ c, c < 42 → h c < 2 ^ 31) (hlv : lv ≤ 20) : CI l D (tY ai az al) yX9_floodedByRounds wsX9_floodedByRounds { frames := 4, cells := 0, slots := 0, locals := 92 } [.ref m, .int (nI lv)] [(m, .inr (9, [.ref mh, .ref mg, .ref mt, .ref mf, .ref ms, .ref msT, .ref msF, .ref mgv, .ref mP, .ref mW, .ref mV, .ref mco, .ref men, .ref mnt, .int tw, .int mse, .int mbr, .int mwk, .int mns, .int mtp, .int mss])), (mV, .inl (az, 42, .inl Am)), (mh, .inl (ai, 42, .inl Hm)), (mW, .inl (az, 168, .inl Wm))] (fun (r : Int32) (u : (Nat → Int32) × (Nat → Bool)) => r = nI (cB u.2 42) ∧ FL nb (lowB h lv) u.2 ∧ POK u.1 u.2) (fun (u : (Nat → Int32) × (Nat → Bool)) => [(m, .inr (9, [.ref mh, .ref mg, .ref mt, .ref mf, .ref ms, .ref msT, .ref msF, .ref mgv, .ref mP, .ref mW, .ref mV, .ref mco, .ref men, .ref mnt, .int (nI 0), .int mse, .int mbr, .int mwk, .int mns, .int mtp, .int mss])), (mV, .inl (az, 42, .inl u.1)), (mh, .inl (ai, 42, .inl Hm)), (mW, .inl (az, 168, .inl Wm))]) := by
  refine ofG_I (cc := cX9_floodedByRounds) (nL := 2) (lv0 := [(0, .ref m), (1, .int (nI lv))]) (by decide) rfl (Nat.le_of_ble_eq_true rfl) rfl ?_
  intro Γ X E
  refine g_aload_n X dX9_floodedByRounds_0 rfl 0 rfl ?_
  refine g_iload_n X dX9_floodedByRounds_1 rfl 1 rfl ?_
  refine g_callVi (C := RX9) (As := [.int (nI lv)]) (rest := []) (wr := []) X dX9_floodedByRounds_2 (c_X9_flooded0 l D ai az al m mh mg mt mf ms msT msF mgv mP mW mV mco men mnt tw mse mbr mwk mns mtp mss Am Hm Wm nb h lv (hW) (hWm) (hH) (hb) (hlv)) gX9_floodedByRounds_X9_flooded rfl rfl ok_X9_flooded rfl rfl (by decide) ⟨by decide, by decide⟩ (Nat.le_of_ble_eq_true rfl) [0, 1, 2, 3] [] ⟨rfl, by decide, rfl, by decide, by decide⟩ 0 rfl rfl rfl (fun r1 u hp => ?_)
  obtain ⟨A6, V6⟩ := u
  try dsimp only at hp
  obtain ⟨rfl, hF6, hV6⟩ := hp
  refine g_sub (k := 0) (n := 0) (ws' := [(m, .inr (9, [.ref mh, .ref mg, .ref mt, .ref mf, .ref ms, .ref msT, .ref msF, .ref mgv, .ref mP, .ref mW, .ref mV, .ref mco, .ref men, .ref mnt, .int (nI 0), .int mse, .int mbr, .int mwk, .int mns, .int mtp, .int mss])), (mV, .inl (az, 42, .inl A6)), (mh, .inl (ai, 42, .inl Hm)), (mW, .inl (az, 168, .inl Wm))]) [0, 1, 2, 3] (by decide) rfl ?_
  exact g_iret X E dX9_floodedByRounds_5 (⟨A6, V6⟩) rfl (by decide) (by decide) (⟨rfl, hF6, hV6⟩)

theorem ok_X9_isFlooded : okName yX9_isFlooded 3 := by decide +kernel
theorem in_X9_isFlooded_X9 : ∀ w ∈ u_ws RX9 TX9 21, w ∈ wsX9_isFlooded := by decide +kernel
set_option maxRecDepth 100000 in
set_option maxHeartbeats 4000000 in
theorem c_X9_isFlooded1 (l : Launch) (D : va_G) (ai az al : ClassId) (m : Nat) (mh : Nat) (mg : Nat) (mt : Nat) (mf : Nat) (ms : Nat) (msT : Nat) (msF : Nat) (mgv : Nat) (mP : Nat) (mW : Nat) (mV : Nat) (mco : Nat) (men : Nat) (mnt : Nat) (tw : Int32) (mse : Int32) (mbr : Int32) (mwk : Int32) (mns : Int32) (mtp : Int32) (mss : Int32) (p0 : Int32) (p1 : Int32) (p2 : Int32) (hq : ¬ CP p0 p1) : CI l D (tY ai az al) yX9_isFlooded wsX9_isFlooded { frames := 2, cells := 0, slots := 0, locals := 43 } [.ref m, .int p0, .int p1, .int p2] [(m, .inr (9, [.ref mh, .ref mg, .ref mt, .ref mf, .ref ms, .ref msT, .ref msF, .ref mgv, .ref mP, .ref mW, .ref mV, .ref mco, .ref men, .ref mnt, .int tw, .int mse, .int mbr, .int mwk, .int mns, .int mtp, .int mss]))] (fun (r : Int32) (u : Unit) => r = nI 0) (fun (u : Unit) => [(m, .inr (9, [.ref mh, .ref mg, .ref mt, .ref mf, .ref ms, .ref msT, .ref msF, .ref mgv, .ref mP, .ref mW, .ref mV, .ref mco, .ref men, .ref mnt, .int (nI 1), .int mse, .int mbr, .int mwk, .int mns, .int mtp, .int mss]))]) := by
  refine ofG_I (cc := cX9_isFlooded) (nL := 4) (lv0 := [(0, .ref m), (1, .int p0), (2, .int p1), (3, .int p2)]) (by decide) rfl (Nat.le_of_ble_eq_true rfl) rfl ?_
  intro Γ X E
  refine g_aload_n X dX9_isFlooded_0 rfl 0 rfl ?_
  refine g_iload_n X dX9_isFlooded_1 rfl 1 rfl ?_
  refine g_iload_n X dX9_isFlooded_2 rfl 2 rfl ?_
  refine g_callSi (As := [.int p0, .int p1]) (rest := [.ref m]) (wr := [(m, .inr (9, [.ref mh, .ref mg, .ref mt, .ref mf, .ref ms, .ref msT, .ref msF, .ref mgv, .ref mP, .ref mW, .ref mV, .ref mco, .ref men, .ref mnt, .int tw, .int mse, .int mbr, .int mwk, .int mns, .int mtp, .int mss]))]) X dX9_isFlooded_3 (c_X9_isCellF l D ai az al p0 p1 (hq)) gX9_isFlooded_X9_isCell rfl rfl ok_X9_isCell rfl rfl (by decide) ⟨by decide, by decide⟩ (Nat.le_of_ble_eq_true rfl) [] [0] ⟨rfl, by decide, rfl, by decide, by decide⟩ (fun r1 u hp => ?_)
  obtain rfl := hp
  refine g_sub (k := 0) (n := 0) (ws' := [(m, .inr (9, [.ref mh, .ref mg, .ref mt, .ref mf, .ref ms, .ref msT, .ref msF, .ref mgv, .ref mP, .ref mW, .ref mV, .ref mco, .ref men, .ref mnt, .int tw, .int mse, .int mbr, .int mwk, .int mns, .int mtp, .int mss]))]) [0] (by decide) rfl ?_
  refine g_if_neN (tgt := 13) X dX9_isFlooded_6 (by decide) (by decide) (fun b6x => False.elim (by revert b6x; decide)) (fun b6x => ?_)
  refine g_iconst (v := nI 1) X dX9_isFlooded_9 (by decide) ?_
  refine g_goto (tgt := 28) X dX9_isFlooded_10 (by decide) ?_
  refine g_putf (T := TX9) (v := .int (nI 1)) (ty := tyX9 14) (ws' := [(m, .inr (9, [.ref mh, .ref mg, .ref mt, .ref mf, .ref ms, .ref msT, .ref msF, .ref mgv, .ref mP, .ref mW, .ref mV, .ref mco, .ref men, .ref mnt, .int (nI 1), .int mse, .int mbr, .int mwk, .int mns, .int mtp, .int mss]))]) X dX9_isFlooded_28 0 rfl rfl in_X9_isFlooded_X9 tyX9 tyX9_ok nmX9 14 (by decide) (by decide +kernel) rfl rfl (by decide +kernel) rfl rfl (Nat.le_of_ble_eq_true rfl) rfl ?_
  refine g_aload_n X dX9_isFlooded_31 rfl 0 rfl ?_
  refine g_getf (T := TX9) (v := .int (nI 1)) X dX9_isFlooded_32 0 rfl rfl in_X9_isFlooded_X9 14 (by decide) (by decide +kernel) rfl rfl ?_
  refine g_if_neN (tgt := 63) X dX9_isFlooded_35 (by decide) (by decide) (fun b35x => ?_) (fun b35x => False.elim (by revert b35x; decide))
  refine g_iconst (v := nI 0) X dX9_isFlooded_63 (by decide) ?_
  exact g_zret X E dX9_isFlooded_64 () rfl (by decide) (by decide) (rfl) (rfl)

set_option maxRecDepth 100000 in
set_option maxHeartbeats 4000000 in
theorem c_X9_isFlooded2 (l : Launch) (D : va_G) (ai az al : ClassId) (m : Nat) (mh : Nat) (mg : Nat) (mt : Nat) (mf : Nat) (ms : Nat) (msT : Nat) (msF : Nat) (mgv : Nat) (mP : Nat) (mW : Nat) (mV : Nat) (mco : Nat) (men : Nat) (mnt : Nat) (tw : Int32) (mse : Int32) (mbr : Int32) (mwk : Int32) (mns : Int32) (mtp : Int32) (mss : Int32) (p0 : Int32) (p1 : Int32) (p2 : Int32) (hq : CP p0 p1) (hq2 : ¬ inN p2 0 20) : CI l D (tY ai az al) yX9_isFlooded wsX9_isFlooded { frames := 2, cells := 0, slots := 0, locals := 43 } [.ref m, .int p0, .int p1, .int p2] [(m, .inr (9, [.ref mh, .ref mg, .ref mt, .ref mf, .ref ms, .ref msT, .ref msF, .ref mgv, .ref mP, .ref mW, .ref mV, .ref mco, .ref men, .ref mnt, .int tw, .int mse, .int mbr, .int mwk, .int mns, .int mtp, .int mss]))] (fun (r : Int32) (u : Unit) => r = nI 0) (fun (u : Unit) => [(m, .inr (9, [.ref mh, .ref mg, .ref mt, .ref mf, .ref ms, .ref msT, .ref msF, .ref mgv, .ref mP, .ref mW, .ref mV, .ref mco, .ref men, .ref mnt, .int (nI 2), .int mse, .int mbr, .int mwk, .int mns, .int mtp, .int mss]))]) := by
  refine ofG_I (cc := cX9_isFlooded) (nL := 4) (lv0 := [(0, .ref m), (1, .int p0), (2, .int p1), (3, .int p2)]) (by decide) rfl (Nat.le_of_ble_eq_true rfl) rfl ?_
  intro Γ X E
  refine g_aload_n X dX9_isFlooded_0 rfl 0 rfl ?_
  refine g_iload_n X dX9_isFlooded_1 rfl 1 rfl ?_
  refine g_iload_n X dX9_isFlooded_2 rfl 2 rfl ?_
  refine g_callSi (As := [.int p0, .int p1]) (rest := [.ref m]) (wr := [(m, .inr (9, [.ref mh, .ref mg, .ref mt, .ref mf, .ref ms, .ref msT, .ref msF, .ref mgv, .ref mP, .ref mW, .ref mV, .ref mco, .ref men, .ref mnt, .int tw, .int mse, .int mbr, .int mwk, .int mns, .int mtp, .int mss]))]) X dX9_isFlooded_3 (c_X9_isCellT l D ai az al p0 p1 (hq)) gX9_isFlooded_X9_isCell rfl rfl ok_X9_isCell rfl rfl (by decide) ⟨by decide, by decide⟩ (Nat.le_of_ble_eq_true rfl) [] [0] ⟨rfl, by decide, rfl, by decide, by decide⟩ (fun r1 u hp => ?_)
  obtain rfl := hp
  refine g_sub (k := 0) (n := 0) (ws' := [(m, .inr (9, [.ref mh, .ref mg, .ref mt, .ref mf, .ref ms, .ref msT, .ref msF, .ref mgv, .ref mP, .ref mW, .ref mV, .ref mco, .ref men, .ref mnt, .int tw, .int mse, .int mbr, .int mwk, .int mns, .int mtp, .int mss]))]) [0] (by decide) rfl ?_
  refine g_if_neN (tgt := 13) X dX9_isFlooded_6 (by decide) (by decide) (fun b6x => ?_) (fun b6x => False.elim (by revert b6x; decide))
  refine g_iload_n X dX9_isFlooded_13 rfl 3 rfl ?_
  refine g_iconst (v := nI 0) X dX9_isFlooded_14 (by decide) ?_
  refine g_bipush (v := nI 20) X dX9_isFlooded_15 (by decide) ?_
  refine g_callSi (As := [.int p2, .int (nI 0), .int (nI 20)]) (rest := [.ref m]) (wr := [(m, .inr (9, [.ref mh, .ref mg, .ref mt, .ref mf, .ref ms, .ref msT, .ref msF, .ref mgv, .ref mP, .ref mW, .ref mV, .ref mco, .ref men, .ref mnt, .int tw, .int mse, .int mbr, .int mwk, .int mns, .int mtp, .int mss]))]) X dX9_isFlooded_17 (c_X9_inF l D ai az al p2 0 20 (by decide) (by decide) (hq2)) gX9_isFlooded_X9_in rfl rfl ok_X9_in rfl rfl (by decide) ⟨by decide, by decide⟩ (Nat.le_of_ble_eq_true rfl) [] [0] ⟨rfl, by decide, rfl, by decide, by decide⟩ (fun r2 u hp => ?_)
  obtain rfl := hp
  refine g_sub (k := 0) (n := 0) (ws' := [(m, .inr (9, [.ref mh, .ref mg, .ref mt, .ref mf, .ref ms, .ref msT, .ref msF, .ref mgv, .ref mP, .ref mW, .ref mV, .ref mco, .ref men, .ref mnt, .int tw, .int mse, .int mbr, .int mwk, .int mns, .int mtp, .int mss]))]) [0] (by decide) rfl ?_
  refine g_if_neN (tgt := 27) X dX9_isFlooded_20 (by decide) (by decide) (fun b20x => False.elim (by revert b20x; decide)) (fun b20x => ?_)
  refine g_iconst (v := nI 2) X dX9_isFlooded_23 (by decide) ?_
  refine g_goto (tgt := 28) X dX9_isFlooded_24 (by decide) ?_
  refine g_putf (T := TX9) (v := .int (nI 2)) (ty := tyX9 14) (ws' := [(m, .inr (9, [.ref mh, .ref mg, .ref mt, .ref mf, .ref ms, .ref msT, .ref msF, .ref mgv, .ref mP, .ref mW, .ref mV, .ref mco, .ref men, .ref mnt, .int (nI 2), .int mse, .int mbr, .int mwk, .int mns, .int mtp, .int mss]))]) X dX9_isFlooded_28 0 rfl rfl in_X9_isFlooded_X9 tyX9 tyX9_ok nmX9 14 (by decide) (by decide +kernel) rfl rfl (by decide +kernel) rfl rfl (Nat.le_of_ble_eq_true rfl) rfl ?_
  refine g_aload_n X dX9_isFlooded_31 rfl 0 rfl ?_
  refine g_getf (T := TX9) (v := .int (nI 2)) X dX9_isFlooded_32 0 rfl rfl in_X9_isFlooded_X9 14 (by decide) (by decide +kernel) rfl rfl ?_
  refine g_if_neN (tgt := 63) X dX9_isFlooded_35 (by decide) (by decide) (fun b35x => ?_) (fun b35x => False.elim (by revert b35x; decide))
  refine g_iconst (v := nI 0) X dX9_isFlooded_63 (by decide) ?_
  exact g_zret X E dX9_isFlooded_64 () rfl (by decide) (by decide) (rfl) (rfl)

set_option maxRecDepth 100000 in
set_option maxHeartbeats 4000000 in
theorem c_X9_isFlooded0 (l : Launch) (D : va_G) (ai az al : ClassId) (m : Nat) (mh : Nat) (mg : Nat) (mt : Nat) (mf : Nat) (ms : Nat) (msT : Nat) (msF : Nat) (mgv : Nat) (mP : Nat) (mW : Nat) (mV : Nat) (mco : Nat) (men : Nat) (mnt : Nat) (tw : Int32) (mse : Int32) (mbr : Int32) (mwk : Int32) (mns : Int32) (mtp : Int32) (mss : Int32) (Am : Nat → Int32) (Hm : Nat → Int32) (Wm : Nat → Int32) (nb : Nat → Nat → Nat) (h : Nat → Nat) (x : Nat) (y : Nat) (lv : Nat) (hW : NW nb) (hWm : WOK Wm nb) (hH : HOK Hm h) (hb : ∀ c, c < 42 → h c < 2 ^ 31) (hx : x < 6) (hy : y < 7) (hlv : lv ≤ 20) : CI l D (tY ai az al) yX9_isFlooded wsX9_isFlooded { frames := 3, cells := 0, slots := 0, locals := 71 } [.ref m, .int (nI x), .int (nI y), .int (nI lv)] [(m, .inr (9, [.ref mh, .ref mg, .ref mt, .ref mf, .ref ms, .ref msT, .ref msF, .ref mgv, .ref mP, .ref mW, .ref mV, .ref mco, .ref men, .ref mnt, .int tw, .int mse, .int mbr, .int mwk, .int mns, .int mtp, .int mss])), (mV, .inl (az, 42, .inl Am)), (mh, .inl (ai, 42, .inl Hm)), (mW, .inl (az, 168, .inl Wm))] (fun (r : Int32) (u : (Nat → Int32) × (Nat → Bool)) => r = nI (bn (u.2 (y * 6 + x))) ∧ FL nb (lowB h lv) u.2 ∧ POK u.1 u.2) (fun (u : (Nat → Int32) × (Nat → Bool)) => [(m, .inr (9, [.ref mh, .ref mg, .ref mt, .ref mf, .ref ms, .ref msT, .ref msF, .ref mgv, .ref mP, .ref mW, .ref mV, .ref mco, .ref men, .ref mnt, .int (nI 0), .int mse, .int mbr, .int mwk, .int mns, .int mtp, .int mss])), (mV, .inl (az, 42, .inl u.1)), (mh, .inl (ai, 42, .inl Hm)), (mW, .inl (az, 168, .inl Wm))]) := by
  refine ofG_I (cc := cX9_isFlooded) (nL := 4) (lv0 := [(0, .ref m), (1, .int (nI x)), (2, .int (nI y)), (3, .int (nI lv))]) (by decide) rfl (Nat.le_of_ble_eq_true rfl) rfl ?_
  intro Γ X E
  refine g_aload_n X dX9_isFlooded_0 rfl 0 rfl ?_
  refine g_iload_n X dX9_isFlooded_1 rfl 1 rfl ?_
  refine g_iload_n X dX9_isFlooded_2 rfl 2 rfl ?_
  refine g_callSi (As := [.int (nI x), .int (nI y)]) (rest := [.ref m]) (wr := [(m, .inr (9, [.ref mh, .ref mg, .ref mt, .ref mf, .ref ms, .ref msT, .ref msF, .ref mgv, .ref mP, .ref mW, .ref mV, .ref mco, .ref men, .ref mnt, .int tw, .int mse, .int mbr, .int mwk, .int mns, .int mtp, .int mss])), (mV, .inl (az, 42, .inl Am)), (mh, .inl (ai, 42, .inl Hm)), (mW, .inl (az, 168, .inl Wm))]) X dX9_isFlooded_3 (c_X9_isCellT l D ai az al (nI x) (nI y) (CP_of hx hy)) gX9_isFlooded_X9_isCell rfl rfl ok_X9_isCell rfl rfl (by decide) ⟨by decide, by decide⟩ (Nat.le_of_ble_eq_true rfl) [] [0, 1, 2, 3] ⟨rfl, by decide, rfl, by decide, by decide⟩ (fun r1 u hp => ?_)
  obtain rfl := hp
  refine g_sub (k := 0) (n := 0) (ws' := [(m, .inr (9, [.ref mh, .ref mg, .ref mt, .ref mf, .ref ms, .ref msT, .ref msF, .ref mgv, .ref mP, .ref mW, .ref mV, .ref mco, .ref men, .ref mnt, .int tw, .int mse, .int mbr, .int mwk, .int mns, .int mtp, .int mss])), (mV, .inl (az, 42, .inl Am)), (mh, .inl (ai, 42, .inl Hm)), (mW, .inl (az, 168, .inl Wm))]) [0, 1, 2, 3] (by decide) rfl ?_
  refine g_if_neN (tgt := 13) X dX9_isFlooded_6 (by decide) (by decide) (fun b6x => ?_) (fun b6x => False.elim (by revert b6x; decide))
  refine g_iload_n X dX9_isFlooded_13 rfl 3 rfl ?_
  refine g_iconst (v := nI 0) X dX9_isFlooded_14 (by decide) ?_
  refine g_bipush (v := nI 20) X dX9_isFlooded_15 (by decide) ?_
  refine g_callSi (As := [.int (nI lv), .int (nI 0), .int (nI 20)]) (rest := [.ref m]) (wr := [(m, .inr (9, [.ref mh, .ref mg, .ref mt, .ref mf, .ref ms, .ref msT, .ref msF, .ref mgv, .ref mP, .ref mW, .ref mV, .ref mco, .ref men, .ref mnt, .int tw, .int mse, .int mbr, .int mwk, .int mns, .int mtp, .int mss])), (mV, .inl (az, 42, .inl Am)), (mh, .inl (ai, 42, .inl Hm)), (mW, .inl (az, 168, .inl Wm))]) X dX9_isFlooded_17 (c_X9_inT l D ai az al (nI lv) 0 20 (by decide) (by decide) (⟨lv, Nat.zero_le _, hlv, rfl⟩)) gX9_isFlooded_X9_in rfl rfl ok_X9_in rfl rfl (by decide) ⟨by decide, by decide⟩ (Nat.le_of_ble_eq_true rfl) [] [0, 1, 2, 3] ⟨rfl, by decide, rfl, by decide, by decide⟩ (fun r2 u hp => ?_)
  obtain rfl := hp
  refine g_sub (k := 0) (n := 0) (ws' := [(m, .inr (9, [.ref mh, .ref mg, .ref mt, .ref mf, .ref ms, .ref msT, .ref msF, .ref mgv, .ref mP, .ref mW, .ref mV, .ref mco, .ref men, .ref mnt, .int tw, .int mse, .int mbr, .int mwk, .int mns, .int mtp, .int mss])), (mV, .inl (az, 42, .inl Am)), (mh, .inl (ai, 42, .inl Hm)), (mW, .inl (az, 168, .inl Wm))]) [0, 1, 2, 3] (by decide) rfl ?_
  refine g_if_neN (tgt := 27) X dX9_isFlooded_20 (by decide) (by decide) (fun b20x => ?_) (fun b20x => False.elim (by revert b20x; decide))
  refine g_iconst (v := nI 0) X dX9_isFlooded_27 (by decide) ?_
  refine g_putf (T := TX9) (v := .int (nI 0)) (ty := tyX9 14) (ws' := [(m, .inr (9, [.ref mh, .ref mg, .ref mt, .ref mf, .ref ms, .ref msT, .ref msF, .ref mgv, .ref mP, .ref mW, .ref mV, .ref mco, .ref men, .ref mnt, .int (nI 0), .int mse, .int mbr, .int mwk, .int mns, .int mtp, .int mss])), (mV, .inl (az, 42, .inl Am)), (mh, .inl (ai, 42, .inl Hm)), (mW, .inl (az, 168, .inl Wm))]) X dX9_isFlooded_28 0 rfl rfl in_X9_isFlooded_X9 tyX9 tyX9_ok nmX9 14 (by decide) (by decide +kernel) rfl rfl (by decide +kernel) rfl rfl (Nat.le_of_ble_eq_true rfl) rfl ?_
  refine g_aload_n X dX9_isFlooded_31 rfl 0 rfl ?_
  refine g_getf (T := TX9) (v := .int (nI 0)) X dX9_isFlooded_32 0 rfl rfl in_X9_isFlooded_X9 14 (by decide) (by decide +kernel) rfl rfl ?_
  refine g_if_neN (tgt := 63) X dX9_isFlooded_35 (by decide) (by decide) (fun b35x => False.elim (by revert b35x; decide)) (fun b35x => ?_)
  refine g_aload_n X dX9_isFlooded_38 rfl 0 rfl ?_
  refine g_iload_n X dX9_isFlooded_39 rfl 3 rfl ?_
  refine g_callVi (C := RX9) (As := [.int (nI lv)]) (rest := []) (wr := []) X dX9_isFlooded_40 (c_X9_wets l D ai az al m mh mg mt mf ms msT msF mgv mP mW mV mco men mnt (nI 0) mse mbr mwk mns mtp mss Am Hm Wm nb h lv (hW) (hWm) (hH) (hb) (by omega)) gX9_isFlooded_X9_wets rfl rfl ok_X9_wets rfl rfl (by decide) ⟨by decide, by decide⟩ (Nat.le_of_ble_eq_true rfl) [0, 1, 2, 3] [] ⟨rfl, by decide, rfl, by decide, by decide⟩ 0 rfl rfl rfl (fun r3 u hp => ?_)
  obtain ⟨A6, V6⟩ := u
  try dsimp only at hp
  obtain ⟨rfl, hF6, hV6⟩ := hp
  refine g_sub (k := 0) (n := 0) (ws' := [(m, .inr (9, [.ref mh, .ref mg, .ref mt, .ref mf, .ref ms, .ref msT, .ref msF, .ref mgv, .ref mP, .ref mW, .ref mV, .ref mco, .ref men, .ref mnt, .int (nI 0), .int mse, .int mbr, .int mwk, .int mns, .int mtp, .int mss])), (mV, .inl (az, 42, .inl A6)), (mh, .inl (ai, 42, .inl Hm)), (mW, .inl (az, 168, .inl Wm))]) [0, 1, 2, 3] (by decide) rfl ?_
  have hcl := cB_le V6 42
  refine g_if_leN (tgt := 63) X dX9_isFlooded_43 (by decide) (by omega) (fun b43 => ?_) (fun b43 => ?_)
  · refine g_iconst (v := nI 0) X dX9_isFlooded_63 (by decide) ?_
    exact g_zret X E dX9_isFlooded_64 (⟨A6, V6⟩) rfl (by decide) (by decide) (rfl) (⟨by show _ = nI (bn (V6 (y * 6 + x))); first
            | (rw [(hV6.z (c := (y * 6 + x)) (by omega)).mp b56]; rfl)
            | (rw [hV6.n (c := (y * 6 + x)) (by omega) b56]; rfl)
            | (cases hv : V6 (y * 6 + x)
               · rfl
               · exfalso; have q := cB_pos (n := 42) (show (y * 6 + x) < 42 by omega) hv; omega), hF6, hV6⟩)
  · refine g_aload_n X dX9_isFlooded_46 rfl 0 rfl ?_
    refine g_getf (T := TX9) (v := .ref mV) X dX9_isFlooded_47 0 rfl rfl in_X9_isFlooded_X9 10 (by decide) (by decide +kernel) rfl rfl ?_
    refine g_iload_n X dX9_isFlooded_50 rfl 1 rfl ?_
    refine g_iload_n X dX9_isFlooded_51 rfl 2 rfl ?_
    refine g_callSi (As := [.int (nI x), .int (nI y)]) (rest := [.ref mV]) (wr := [(m, .inr (9, [.ref mh, .ref mg, .ref mt, .ref mf, .ref ms, .ref msT, .ref msF, .ref mgv, .ref mP, .ref mW, .ref mV, .ref mco, .ref men, .ref mnt, .int (nI 0), .int mse, .int mbr, .int mwk, .int mns, .int mtp, .int mss])), (mV, .inl (az, 42, .inl A6)), (mh, .inl (ai, 42, .inl Hm)), (mW, .inl (az, 168, .inl Wm))]) X dX9_isFlooded_52 (c_X9_at l D ai az al x y ) gX9_isFlooded_X9_at rfl rfl ok_X9_at rfl rfl (by decide) ⟨by decide, by decide⟩ (Nat.le_of_ble_eq_true rfl) [] [0, 1, 2, 3] ⟨rfl, by decide, rfl, by decide, by decide⟩ (fun r4 u hp => ?_)
    obtain rfl := hp
    refine g_sub (k := 0) (n := 0) (ws' := [(m, .inr (9, [.ref mh, .ref mg, .ref mt, .ref mf, .ref ms, .ref msT, .ref msF, .ref mgv, .ref mP, .ref mW, .ref mV, .ref mco, .ref men, .ref mnt, .int (nI 0), .int mse, .int mbr, .int mwk, .int mns, .int mtp, .int mss])), (mV, .inl (az, 42, .inl A6)), (mh, .inl (ai, 42, .inl Hm)), (mW, .inl (az, 168, .inl Wm))]) [0, 1, 2, 3] (by decide) rfl ?_
    refine g_zaldN (v := (A6 (y * 6 + x))) X dX9_isFlooded_55 1 1 rfl rfl (by omega) (by omega) (rfl) ?_
    refine g_if_eq (tgt := 63) X dX9_isFlooded_56 (by decide) (fun b56 => ?_) (fun b56 => ?_)
    · refine g_iconst (v := nI 0) X dX9_isFlooded_63 (by decide) ?_
      exact g_zret X E dX9_isFlooded_64 (⟨A6, V6⟩) rfl (by decide) (by decide) (rfl) (⟨by show _ = nI (bn (V6 (y * 6 + x))); first
            | (rw [(hV6.z (c := (y * 6 + x)) (by omega)).mp b56]; rfl)
            | (rw [hV6.n (c := (y * 6 + x)) (by omega) b56]; rfl)
            | (cases hv : V6 (y * 6 + x)
               · rfl
               · exfalso; have q := cB_pos (n := 42) (show (y * 6 + x) < 42 by omega) hv; omega), hF6, hV6⟩)
    · refine g_iconst (v := nI 1) X dX9_isFlooded_59 (by decide) ?_
      refine g_goto (tgt := 64) X dX9_isFlooded_60 (by decide) ?_
      exact g_zret X E dX9_isFlooded_64 (⟨A6, V6⟩) rfl (by decide) (by decide) (rfl) (⟨by show _ = nI (bn (V6 (y * 6 + x))); first
            | (rw [(hV6.z (c := (y * 6 + x)) (by omega)).mp b56]; rfl)
            | (rw [hV6.n (c := (y * 6 + x)) (by omega) b56]; rfl)
            | (cases hv : V6 (y * 6 + x)
               · rfl
               · exfalso; have q := cB_pos (n := 42) (show (y * 6 + x) < 42 by omega) hv; omega), hF6, hV6⟩)

theorem ok_X9_sandOf : okName yX9_sandOf 0 := by decide +kernel
theorem in_X9_sandOf_X9 : ∀ w ∈ u_ws RX9 TX9 21, w ∈ wsX9_sandOf := by decide +kernel
set_option maxRecDepth 100000 in
set_option maxHeartbeats 4000000 in
theorem c_X9_sandOf (l : Launch) (D : va_G) (ai az al : ClassId) (m : Nat) (mh : Nat) (mg : Nat) (mt : Nat) (mf : Nat) (ms : Nat) (msT : Nat) (msF : Nat) (mgv : Nat) (mP : Nat) (mW : Nat) (mV : Nat) (mco : Nat) (men : Nat) (mnt : Nat) (tw : Int32) (mse : Int32) (mbr : Int32) (mwk : Int32) (mns : Int32) (mtp : Int32) (mss : Int32) (Hm : Nat → Int32) (h : Nat → Nat) (hH : HOK Hm h) : CI l D (tY ai az al) yX9_sandOf wsX9_sandOf { frames := 0, cells := 0, slots := 0, locals := 0 } [.ref m] [(m, .inr (9, [.ref mh, .ref mg, .ref mt, .ref mf, .ref ms, .ref msT, .ref msF, .ref mgv, .ref mP, .ref mW, .ref mV, .ref mco, .ref men, .ref mnt, .int tw, .int mse, .int mbr, .int mwk, .int mns, .int mtp, .int mss])), (mh, .inl (ai, 42, .inl Hm))] (fun (r : Int32) (u : Unit) => r = nI (sN h 42)) (fun (u : Unit) => [(m, .inr (9, [.ref mh, .ref mg, .ref mt, .ref mf, .ref ms, .ref msT, .ref msF, .ref mgv, .ref mP, .ref mW, .ref mV, .ref mco, .ref men, .ref mnt, .int tw, .int mse, .int mbr, .int mwk, .int mns, .int mtp, .int mss])), (mh, .inl (ai, 42, .inl Hm))]) := by
  refine ofG_I (cc := cX9_sandOf) (nL := 3) (lv0 := [(0, .ref m)]) (by decide) rfl (Nat.le_of_ble_eq_true rfl) rfl ?_
  intro Γ X E
  refine g_iconst (v := nI 0) X dX9_sandOf_0 (by decide) ?_
  refine g_istore_n (lv' := [(1, .int (nI 0)), (0, .ref m)]) X dX9_sandOf_1 rfl (by decide) rfl ?_
  refine g_iconst (v := nI 0) X dX9_sandOf_2 (by decide) ?_
  refine g_istore_n (lv' := [(2, .int (nI 0)), (1, .int (nI 0)), (0, .ref m)]) X dX9_sandOf_3 rfl (by decide) rfl ?_
  have L4 : ∀ (fl : Nat) (i : Nat) (o : Nat), (i ≤ 42) → (o = sN h i) → (43 ≤ i + fl) → G Γ 3 0 0 [(m, .inr (9, [.ref mh, .ref mg, .ref mt, .ref mf, .ref ms, .ref msT, .ref msF, .ref mgv, .ref mP, .ref mW, .ref mV, .ref mco, .ref men, .ref mnt, .int tw, .int mse, .int mbr, .int mwk, .int mns, .int mtp, .int mss])), (mh, .inl (ai, 42, .inl Hm))] [(0, .ref m), (1, .int (nI o)), (2, .int (nI i))] 4 [] := by
    intro fl
    induction fl with
    | zero => intro i o hi ho hk; exact absurd hk (by omega)
    | succ fl ih4 =>
      intro i o hi ho hk
      refine g_iload_n X dX9_sandOf_4 rfl 2 rfl ?_
      refine g_bipush (v := nI 42) X dX9_sandOf_5 (by decide) ?_
      refine g_icmp_geN (tgt := 25) X dX9_sandOf_7 (by decide) (by omega) (by omega) (fun b7 => ?_) (fun b7 => ?_)
      · refine g_iload_n X dX9_sandOf_25 rfl 1 rfl ?_
        exact g_iret X E dX9_sandOf_26 () rfl (by decide) (by decide) (by rw [ho, show i = 42 by omega])
      · refine g_iload_n X dX9_sandOf_10 rfl 1 rfl ?_
        refine g_aload_n X dX9_sandOf_11 rfl 0 rfl ?_
        refine g_getf (T := TX9) (v := .ref mh) X dX9_sandOf_12 0 rfl rfl in_X9_sandOf_X9 0 (by decide) (by decide +kernel) rfl rfl ?_
        refine g_iload_n X dX9_sandOf_15 rfl 2 rfl ?_
        refine g_ialdN (v := nI (h i)) X dX9_sandOf_16 1 0 rfl rfl (by omega) (by omega) (hH i (by omega)) ?_
        refine g_iadd (v := nI (o + (h i))) X dX9_sandOf_17 (nI_add _ _) ?_
        refine g_istore_n (lv' := [(1, .int (nI (o + (h i)))), (0, .ref m), (2, .int (nI i))]) X dX9_sandOf_18 rfl (by decide) rfl ?_
        refine g_iinc (v := nI (i + 1)) (lv' := [(2, .int (nI (i + 1))), (1, .int (nI (o + (h i)))), (0, .ref m)]) X dX9_sandOf_19 2 rfl (nI_inc _) (by decide) rfl ?_
        refine g_goto (tgt := 4) X dX9_sandOf_22 (by decide) ?_
        refine g_lv (lv' := [(0, .ref m), (1, .int (nI (o + (h i)))), (2, .int (nI (i + 1)))]) [2, 1, 0] rfl ?_
        exact ih4 (i + 1) (o + (h i)) (by omega) (by rw [ho]; rfl) (by omega)
  refine g_lv (lv' := [(0, .ref m), (1, .int (nI 0)), (2, .int (nI 0))]) [2, 1, 0] rfl ?_
  exact L4 43 0 0 (by decide) (rfl) (by decide)

theorem ok_X9_sand : okName yX9_sand 0 := by decide +kernel
set_option maxRecDepth 100000 in
set_option maxHeartbeats 4000000 in
theorem c_X9_sand (l : Launch) (D : va_G) (ai az al : ClassId) (m : Nat) (mh : Nat) (mg : Nat) (mt : Nat) (mf : Nat) (ms : Nat) (msT : Nat) (msF : Nat) (mgv : Nat) (mP : Nat) (mW : Nat) (mV : Nat) (mco : Nat) (men : Nat) (mnt : Nat) (tw : Int32) (mse : Int32) (mbr : Int32) (mwk : Int32) (mns : Int32) (mtp : Int32) (mss : Int32) (Hm : Nat → Int32) (h : Nat → Nat) (hH : HOK Hm h) : CI l D (tY ai az al) yX9_sand wsX9_sand { frames := 1, cells := 0, slots := 0, locals := 22 } [.ref m] [(m, .inr (9, [.ref mh, .ref mg, .ref mt, .ref mf, .ref ms, .ref msT, .ref msF, .ref mgv, .ref mP, .ref mW, .ref mV, .ref mco, .ref men, .ref mnt, .int tw, .int mse, .int mbr, .int mwk, .int mns, .int mtp, .int mss])), (mh, .inl (ai, 42, .inl Hm))] (fun (r : Int32) (u : Unit) => r = nI (sN h 42)) (fun (u : Unit) => [(m, .inr (9, [.ref mh, .ref mg, .ref mt, .ref mf, .ref ms, .ref msT, .ref msF, .ref mgv, .ref mP, .ref mW, .ref mV, .ref mco, .ref men, .ref mnt, .int (nI 0), .int mse, .int mbr, .int mwk, .int mns, .int mtp, .int mss])), (mh, .inl (ai, 42, .inl Hm))]) := by
  refine ofG_I (cc := cX9_sand) (nL := 1) (lv0 := [(0, .ref m)]) (by decide) rfl (Nat.le_of_ble_eq_true rfl) rfl ?_
  intro Γ X E
  refine g_aload_n X dX9_sand_0 rfl 0 rfl ?_
  refine g_aload_n X dX9_sand_1 rfl 0 rfl ?_
  refine g_callVi (C := RX9) (As := []) (rest := [.ref m]) (wr := []) X dX9_sand_2 (c_X9_sandOf l D ai az al m mh mg mt mf ms msT msF mgv mP mW mV mco men mnt tw mse mbr mwk mns mtp mss Hm h (hH)) gX9_sand_X9_sandOf rfl rfl ok_X9_sandOf rfl rfl (by decide) ⟨by decide, by decide⟩ (Nat.le_of_ble_eq_true rfl) [0, 1] [] ⟨rfl, by decide, rfl, by decide, by decide⟩ 0 rfl rfl rfl (fun r1 u hp => ?_)
  obtain rfl := hp
  refine g_sub (k := 0) (n := 0) (ws' := [(m, .inr (9, [.ref mh, .ref mg, .ref mt, .ref mf, .ref ms, .ref msT, .ref msF, .ref mgv, .ref mP, .ref mW, .ref mV, .ref mco, .ref men, .ref mnt, .int tw, .int mse, .int mbr, .int mwk, .int mns, .int mtp, .int mss])), (mh, .inl (ai, 42, .inl Hm))]) [0, 1] (by decide) rfl ?_
  refine g_callVi (C := RX9) (As := [.int (nI (sN h 42))]) (rest := []) (wr := [(mh, .inl (ai, 42, .inl Hm))]) X dX9_sand_5 (c_X9_plain l D ai az al m mh mg mt mf ms msT msF mgv mP mW mV mco men mnt tw mse mbr mwk mns mtp mss (nI (sN h 42)) ) gX9_sand_X9_plain rfl rfl ok_X9_plain rfl rfl (by decide) ⟨by decide, by decide⟩ (Nat.le_of_ble_eq_true rfl) [0] [1] ⟨rfl, by decide, rfl, by decide, by decide⟩ 0 rfl rfl rfl (fun r2 u hp => ?_)
  obtain rfl := hp
  refine g_sub (k := 0) (n := 0) (ws' := [(m, .inr (9, [.ref mh, .ref mg, .ref mt, .ref mf, .ref ms, .ref msT, .ref msF, .ref mgv, .ref mP, .ref mW, .ref mV, .ref mco, .ref men, .ref mnt, .int (nI 0), .int mse, .int mbr, .int mwk, .int mns, .int mtp, .int mss])), (mh, .inl (ai, 42, .inl Hm))]) [1, 0] (by decide) rfl ?_
  exact g_iret X E dX9_sand_8 () rfl (by decide) (by decide) (rfl)

theorem ok_X9_sea : okName yX9_sea 0 := by decide +kernel
theorem in_X9_sea_X9 : ∀ w ∈ u_ws RX9 TX9 21, w ∈ wsX9_sea := by decide +kernel
set_option maxRecDepth 100000 in
set_option maxHeartbeats 4000000 in
theorem c_X9_sea (l : Launch) (D : va_G) (ai az al : ClassId) (m : Nat) (mh : Nat) (mg : Nat) (mt : Nat) (mf : Nat) (ms : Nat) (msT : Nat) (msF : Nat) (mgv : Nat) (mP : Nat) (mW : Nat) (mV : Nat) (mco : Nat) (men : Nat) (mnt : Nat) (tw : Int32) (mse : Int32) (mbr : Int32) (mwk : Int32) (mns : Int32) (mtp : Int32) (mss : Int32) : CI l D (tY ai az al) yX9_sea wsX9_sea { frames := 1, cells := 0, slots := 0, locals := 21 } [.ref m] [(m, .inr (9, [.ref mh, .ref mg, .ref mt, .ref mf, .ref ms, .ref msT, .ref msF, .ref mgv, .ref mP, .ref mW, .ref mV, .ref mco, .ref men, .ref mnt, .int tw, .int mse, .int mbr, .int mwk, .int mns, .int mtp, .int mss]))] (fun (r : Int32) (u : Unit) => r = mse) (fun (u : Unit) => [(m, .inr (9, [.ref mh, .ref mg, .ref mt, .ref mf, .ref ms, .ref msT, .ref msF, .ref mgv, .ref mP, .ref mW, .ref mV, .ref mco, .ref men, .ref mnt, .int (nI 0), .int mse, .int mbr, .int mwk, .int mns, .int mtp, .int mss]))]) := by
  refine ofG_I (cc := cX9_sea) (nL := 1) (lv0 := [(0, .ref m)]) (by decide) rfl (Nat.le_of_ble_eq_true rfl) rfl ?_
  intro Γ X E
  refine g_aload_n X dX9_sea_0 rfl 0 rfl ?_
  refine g_aload_n X dX9_sea_1 rfl 0 rfl ?_
  refine g_getf (T := TX9) (v := .int mse) X dX9_sea_2 0 rfl rfl in_X9_sea_X9 15 (by decide) (by decide +kernel) rfl rfl ?_
  refine g_callVi (C := RX9) (As := [.int mse]) (rest := []) (wr := []) X dX9_sea_5 (c_X9_plain l D ai az al m mh mg mt mf ms msT msF mgv mP mW mV mco men mnt tw mse mbr mwk mns mtp mss mse ) gX9_sea_X9_plain rfl rfl ok_X9_plain rfl rfl (by decide) ⟨by decide, by decide⟩ (Nat.le_of_ble_eq_true rfl) [0] [] ⟨rfl, by decide, rfl, by decide, by decide⟩ 0 rfl rfl rfl (fun r1 u hp => ?_)
  have hr := hp
  refine g_sub (k := 0) (n := 0) (ws' := [(m, .inr (9, [.ref mh, .ref mg, .ref mt, .ref mf, .ref ms, .ref msT, .ref msF, .ref mgv, .ref mP, .ref mW, .ref mV, .ref mco, .ref men, .ref mnt, .int (nI 0), .int mse, .int mbr, .int mwk, .int mns, .int mtp, .int mss]))]) [0] (by decide) rfl ?_
  exact g_iret X E dX9_sea_8 () rfl (by decide) (by decide) (hr)

theorem ok_X9_brought : okName yX9_brought 0 := by decide +kernel
theorem in_X9_brought_X9 : ∀ w ∈ u_ws RX9 TX9 21, w ∈ wsX9_brought := by decide +kernel
set_option maxRecDepth 100000 in
set_option maxHeartbeats 4000000 in
theorem c_X9_brought (l : Launch) (D : va_G) (ai az al : ClassId) (m : Nat) (mh : Nat) (mg : Nat) (mt : Nat) (mf : Nat) (ms : Nat) (msT : Nat) (msF : Nat) (mgv : Nat) (mP : Nat) (mW : Nat) (mV : Nat) (mco : Nat) (men : Nat) (mnt : Nat) (tw : Int32) (mse : Int32) (mbr : Int32) (mwk : Int32) (mns : Int32) (mtp : Int32) (mss : Int32) : CI l D (tY ai az al) yX9_brought wsX9_brought { frames := 1, cells := 0, slots := 0, locals := 21 } [.ref m] [(m, .inr (9, [.ref mh, .ref mg, .ref mt, .ref mf, .ref ms, .ref msT, .ref msF, .ref mgv, .ref mP, .ref mW, .ref mV, .ref mco, .ref men, .ref mnt, .int tw, .int mse, .int mbr, .int mwk, .int mns, .int mtp, .int mss]))] (fun (r : Int32) (u : Unit) => r = mbr) (fun (u : Unit) => [(m, .inr (9, [.ref mh, .ref mg, .ref mt, .ref mf, .ref ms, .ref msT, .ref msF, .ref mgv, .ref mP, .ref mW, .ref mV, .ref mco, .ref men, .ref mnt, .int (nI 0), .int mse, .int mbr, .int mwk, .int mns, .int mtp, .int mss]))]) := by
  refine ofG_I (cc := cX9_brought) (nL := 1) (lv0 := [(0, .ref m)]) (by decide) rfl (Nat.le_of_ble_eq_true rfl) rfl ?_
  intro Γ X E
  refine g_aload_n X dX9_brought_0 rfl 0 rfl ?_
  refine g_aload_n X dX9_brought_1 rfl 0 rfl ?_
  refine g_getf (T := TX9) (v := .int mbr) X dX9_brought_2 0 rfl rfl in_X9_brought_X9 16 (by decide) (by decide +kernel) rfl rfl ?_
  refine g_callVi (C := RX9) (As := [.int mbr]) (rest := []) (wr := []) X dX9_brought_5 (c_X9_plain l D ai az al m mh mg mt mf ms msT msF mgv mP mW mV mco men mnt tw mse mbr mwk mns mtp mss mbr ) gX9_brought_X9_plain rfl rfl ok_X9_plain rfl rfl (by decide) ⟨by decide, by decide⟩ (Nat.le_of_ble_eq_true rfl) [0] [] ⟨rfl, by decide, rfl, by decide, by decide⟩ 0 rfl rfl rfl (fun r1 u hp => ?_)
  have hr := hp
  refine g_sub (k := 0) (n := 0) (ws' := [(m, .inr (9, [.ref mh, .ref mg, .ref mt, .ref mf, .ref ms, .ref msT, .ref msF, .ref mgv, .ref mP, .ref mW, .ref mV, .ref mco, .ref men, .ref mnt, .int (nI 0), .int mse, .int mbr, .int mwk, .int mns, .int mtp, .int mss]))]) [0] (by decide) rfl ?_
  exact g_iret X E dX9_brought_8 () rfl (by decide) (by decide) (hr)

theorem ok_X9_meanHeight : okName yX9_meanHeight 0 := by decide +kernel
theorem in_X9_meanHeight_X9 : ∀ w ∈ u_ws RX9 TX9 21, w ∈ wsX9_meanHeight := by decide +kernel
set_option maxRecDepth 100000 in
set_option maxHeartbeats 4000000 in
theorem c_X9_meanHeight (l : Launch) (D : va_G) (ai az al : ClassId) (m : Nat) (mh : Nat) (mg : Nat) (mt : Nat) (mf : Nat) (ms : Nat) (msT : Nat) (msF : Nat) (mgv : Nat) (mP : Nat) (mW : Nat) (mV : Nat) (mco : Nat) (men : Nat) (mnt : Nat) (tw : Int32) (mse : Int32) (mbr : Int32) (mwk : Int32) (mns : Int32) (mtp : Int32) (mss : Int32) (Hm : Nat → Int32) (h : Nat → Nat) (hH : HOK Hm h) (hn : sN h 42 < 500) : CF l D (tY ai az al) yX9_meanHeight wsX9_meanHeight { frames := 1, cells := 0, slots := 0, locals := 22 } [.ref m] [(m, .inr (9, [.ref mh, .ref mg, .ref mt, .ref mf, .ref ms, .ref msT, .ref msF, .ref mgv, .ref mP, .ref mW, .ref mV, .ref mco, .ref men, .ref mnt, .int tw, .int mse, .int mbr, .int mwk, .int mns, .int mtp, .int mss])), (mh, .inl (ai, 42, .inl Hm))] (fun (r : UInt32) (u : Unit) => r = (FP.fdiv (FP.i2f (nI (sN h 42))) 1109917696)) (fun (u : Unit) => [(m, .inr (9, [.ref mh, .ref mg, .ref mt, .ref mf, .ref ms, .ref msT, .ref msF, .ref mgv, .ref mP, .ref mW, .ref mV, .ref mco, .ref men, .ref mnt, .int (nI 0), .int mse, .int mbr, .int mwk, .int mns, .int mtp, .int mss])), (mh, .inl (ai, 42, .inl Hm))]) := by
  refine ofG_F (cc := cX9_meanHeight) (nL := 1) (lv0 := [(0, .ref m)]) (by decide) rfl (Nat.le_of_ble_eq_true rfl) rfl ?_
  intro Γ X E
  refine g_aload_n X dX9_meanHeight_0 rfl 0 rfl ?_
  refine g_iconst (v := nI 0) X dX9_meanHeight_1 (by decide) ?_
  refine g_putf (T := TX9) (v := .int (nI 0)) (ty := tyX9 14) (ws' := [(m, .inr (9, [.ref mh, .ref mg, .ref mt, .ref mf, .ref ms, .ref msT, .ref msF, .ref mgv, .ref mP, .ref mW, .ref mV, .ref mco, .ref men, .ref mnt, .int (nI 0), .int mse, .int mbr, .int mwk, .int mns, .int mtp, .int mss])), (mh, .inl (ai, 42, .inl Hm))]) X dX9_meanHeight_2 0 rfl rfl in_X9_meanHeight_X9 tyX9 tyX9_ok nmX9 14 (by decide) (by decide +kernel) rfl rfl (by decide +kernel) rfl rfl (Nat.le_of_ble_eq_true rfl) rfl ?_
  refine g_aload_n X dX9_meanHeight_5 rfl 0 rfl ?_
  refine g_callVi (C := RX9) (As := []) (rest := []) (wr := []) X dX9_meanHeight_6 (c_X9_sandOf l D ai az al m mh mg mt mf ms msT msF mgv mP mW mV mco men mnt (nI 0) mse mbr mwk mns mtp mss Hm h (hH)) gX9_meanHeight_X9_sandOf rfl rfl ok_X9_sandOf rfl rfl (by decide) ⟨by decide, by decide⟩ (Nat.le_of_ble_eq_true rfl) [0, 1] [] ⟨rfl, by decide, rfl, by decide, by decide⟩ 0 rfl rfl rfl (fun r1 u hp => ?_)
  obtain rfl := hp
  refine g_sub (k := 0) (n := 0) (ws' := [(m, .inr (9, [.ref mh, .ref mg, .ref mt, .ref mf, .ref ms, .ref msT, .ref msF, .ref mgv, .ref mP, .ref mW, .ref mV, .ref mco, .ref men, .ref mnt, .int (nI 0), .int mse, .int mbr, .int mwk, .int mns, .int mtp, .int mss])), (mh, .inl (ai, 42, .inl Hm))]) [0, 1] (by decide) rfl ?_
  refine g_i2f X dX9_meanHeight_9 ?_
  refine g_ldcf (v := 1109917696) X dX9_meanHeight_10 (by decide +kernel) ?_
  refine g_fdiv X dX9_meanHeight_12 (f42 _ hn) ?_
  exact g_fret X E dX9_meanHeight_13 () rfl (by decide) (by decide) (rfl)

theorem ok_X9_clearStorm : okName yX9_clearStorm 0 := by decide +kernel
theorem in_X9_clearStorm_X9 : ∀ w ∈ u_ws RX9 TX9 21, w ∈ wsX9_clearStorm := by decide +kernel
set_option maxRecDepth 100000 in
set_option maxHeartbeats 4000000 in
theorem c_X9_clearStorm (l : Launch) (D : va_G) (ai az al : ClassId) (m : Nat) (mh : Nat) (mg : Nat) (mt : Nat) (mf : Nat) (ms : Nat) (msT : Nat) (msF : Nat) (mgv : Nat) (mP : Nat) (mW : Nat) (mV : Nat) (mco : Nat) (men : Nat) (mnt : Nat) (tw : Int32) (mse : Int32) (mbr : Int32) (mwk : Int32) (mns : Int32) (mtp : Int32) (mss : Int32) : CI l D (tY ai az al) yX9_clearStorm wsX9_clearStorm { frames := 1, cells := 0, slots := 0, locals := 21 } [.ref m] [(m, .inr (9, [.ref mh, .ref mg, .ref mt, .ref mf, .ref ms, .ref msT, .ref msF, .ref mgv, .ref mP, .ref mW, .ref mV, .ref mco, .ref men, .ref mnt, .int tw, .int mse, .int mbr, .int mwk, .int mns, .int mtp, .int mss]))] (fun (r : Int32) (u : Unit) => r = mns) (fun (u : Unit) => [(m, .inr (9, [.ref mh, .ref mg, .ref mt, .ref mf, .ref ms, .ref msT, .ref msF, .ref mgv, .ref mP, .ref mW, .ref mV, .ref mco, .ref men, .ref mnt, .int (nI 0), .int mse, .int mbr, .int mwk, .int (nI 0), .int mtp, .int mss]))]) := by
  refine ofG_I (cc := cX9_clearStorm) (nL := 2) (lv0 := [(0, .ref m)]) (by decide) rfl (Nat.le_of_ble_eq_true rfl) rfl ?_
  intro Γ X E
  refine g_aload_n X dX9_clearStorm_0 rfl 0 rfl ?_
  refine g_getf (T := TX9) (v := .int mns) X dX9_clearStorm_1 0 rfl rfl in_X9_clearStorm_X9 18 (by decide) (by decide +kernel) rfl rfl ?_
  refine g_istore_n (lv' := [(1, .int mns), (0, .ref m)]) X dX9_clearStorm_4 rfl (by decide) rfl ?_
  refine g_aload_n X dX9_clearStorm_5 rfl 1 rfl ?_
  refine g_iconst (v := nI 0) X dX9_clearStorm_6 (by decide) ?_
  refine g_putf (T := TX9) (v := .int (nI 0)) (ty := tyX9 18) (ws' := [(m, .inr (9, [.ref mh, .ref mg, .ref mt, .ref mf, .ref ms, .ref msT, .ref msF, .ref mgv, .ref mP, .ref mW, .ref mV, .ref mco, .ref men, .ref mnt, .int tw, .int mse, .int mbr, .int mwk, .int (nI 0), .int mtp, .int mss]))]) X dX9_clearStorm_7 0 rfl rfl in_X9_clearStorm_X9 tyX9 tyX9_ok nmX9 18 (by decide) (by decide +kernel) rfl rfl (by decide +kernel) rfl rfl (Nat.le_of_ble_eq_true rfl) rfl ?_
  refine g_aload_n X dX9_clearStorm_10 rfl 1 rfl ?_
  refine g_iload_n X dX9_clearStorm_11 rfl 0 rfl ?_
  refine g_callVi (C := RX9) (As := [.int mns]) (rest := []) (wr := []) X dX9_clearStorm_12 (c_X9_plain l D ai az al m mh mg mt mf ms msT msF mgv mP mW mV mco men mnt tw mse mbr mwk (nI 0) mtp mss mns ) gX9_clearStorm_X9_plain rfl rfl ok_X9_plain rfl rfl (by decide) ⟨by decide, by decide⟩ (Nat.le_of_ble_eq_true rfl) [0] [] ⟨rfl, by decide, rfl, by decide, by decide⟩ 0 rfl rfl rfl (fun r1 u hp => ?_)
  have hr := hp
  refine g_sub (k := 0) (n := 0) (ws' := [(m, .inr (9, [.ref mh, .ref mg, .ref mt, .ref mf, .ref ms, .ref msT, .ref msF, .ref mgv, .ref mP, .ref mW, .ref mV, .ref mco, .ref men, .ref mnt, .int (nI 0), .int mse, .int mbr, .int mwk, .int (nI 0), .int mtp, .int mss]))]) [0] (by decide) rfl ?_
  exact g_iret X E dX9_clearStorm_15 () rfl (by decide) (by decide) (hr)
