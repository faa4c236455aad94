/-! the waves of the model -/
theorem ok_X9_takes : okName yX9_takes 1 := by decide +kernel
theorem in_X9_takes_X9 : ∀ w ∈ u_ws RX9 TX9 21, w ∈ wsX9_takes := by decide +kernel
set_option maxRecDepth 100000 in
set_option maxHeartbeats 4000000 in
theorem c_X9_takes (l : Launch) (D : va_G) (ai az al : ClassId) (m : Nat) (mh : Nat) (mg : Nat) (mt : Nat) (mf : Nat) (ms : Nat) (msT : Nat) (msF : Nat) (mgv : Nat) (mP : Nat) (mW : Nat) (mV : Nat) (mco : Nat) (men : Nat) (mnt : Nat) (tw : Int32) (mse : Int32) (mbr : Int32) (mwk : Int32) (mns : Int32) (mtp : Int32) (mss : Int32) (Hm : Nat → Int32) (Gm : Nat → Int32) (Pm : Nat → Int32) (pl : Nat → Bool) (h : Nat → Nat) (c : Nat) (hc : c < 42) (hP : POK Pm pl) (hH : HOK Hm h) (hb : h c < 2 ^ 31) : CI l D (tY ai az al) yX9_takes wsX9_takes { frames := 0, cells := 0, slots := 0, locals := 0 } [.ref m, .int (nI c)] [(m, .inr (9, [.ref mh, .ref mg, .ref mt, .ref mf, .ref ms, .ref msT, .ref msF, .ref mgv, .ref mP, .ref mW, .ref mV, .ref mco, .ref men, .ref mnt, .int tw, .int mse, .int mbr, .int mwk, .int mns, .int mtp, .int mss])), (mh, .inl (ai, 42, .inl Hm)), (mg, .inl (ai, 42, .inl Gm)), (mP, .inl (az, 42, .inl Pm))] (fun (r : Int32) (u : (Nat → Int32) × (Nat → Int32)) => r = nI (tk pl h c) ∧ u.1 = tkC pl h Gm c ∧ HOK u.2 (tkH pl h c)) (fun (u : (Nat → Int32) × (Nat → Int32)) => [(m, .inr (9, [.ref mh, .ref mg, .ref mt, .ref mf, .ref ms, .ref msT, .ref msF, .ref mgv, .ref mP, .ref mW, .ref mV, .ref mco, .ref men, .ref mnt, .int tw, .int mse, .int mbr, .int mwk, .int mns, .int mtp, .int mss])), (mh, .inl (ai, 42, .inl u.2)), (mg, .inl (ai, 42, .inl u.1)), (mP, .inl (az, 42, .inl Pm))]) := by
  refine ofG_I (cc := cX9_takes) (nL := 2) (lv0 := [(0, .ref m), (1, .int (nI c))]) (by decide) rfl (Nat.le_of_ble_eq_true rfl) rfl ?_
  intro Γ X E
  refine g_aload_n X dX9_takes_0 rfl 0 rfl ?_
  refine g_getf (T := TX9) (v := .ref mP) X dX9_takes_1 0 rfl rfl in_X9_takes_X9 8 (by decide) (by decide +kernel) rfl rfl ?_
  refine g_iload_n X dX9_takes_4 rfl 1 rfl ?_
  refine g_zaldN (v := (Pm c)) X dX9_takes_5 3 1 rfl rfl (by omega) (by omega) (rfl) ?_
  refine g_if_ne (tgt := 18) X dX9_takes_6 (by decide) (fun b6 => ?_) (fun b6 => ?_)
  · refine g_iconst (v := nI 0) X dX9_takes_18 (by decide) ?_
    exact g_iret X E dX9_takes_19 (⟨Gm, Hm⟩) rfl (by decide) (by decide) (by
        have hz : ¬ (pl c = false ∧ 0 < h c) := fun q => by first | (have q2 := hP c hc; rw [q.1] at q2; exact b6 q2) | omega
        unfold tkC tk tkH; rw [if_neg hz, if_neg hz, if_neg hz]
        exact ⟨rfl, rfl, hH⟩)
  · refine g_aload_n X dX9_takes_9 rfl 0 rfl ?_
    refine g_getf (T := TX9) (v := .ref mh) X dX9_takes_10 0 rfl rfl in_X9_takes_X9 0 (by decide) (by decide +kernel) rfl rfl ?_
    refine g_iload_n X dX9_takes_13 rfl 1 rfl ?_
    refine g_ialdN (v := nI (h c)) X dX9_takes_14 1 0 rfl rfl (by omega) (by omega) (hH c hc) ?_
    refine g_if_neN (tgt := 20) X dX9_takes_15 (by decide) hb (fun b15 => ?_) (fun b15 => ?_)
    · refine g_aload_n X dX9_takes_20 rfl 0 rfl ?_
      refine g_getf (T := TX9) (v := .ref mh) X dX9_takes_21 0 rfl rfl in_X9_takes_X9 0 (by decide) (by decide +kernel) rfl rfl ?_
      refine g_iload_n X dX9_takes_24 rfl 1 rfl ?_
      refine g_dup2 X dX9_takes_25 rfl rfl ?_
      refine g_ialdN (v := (Hm c)) X dX9_takes_26 1 0 rfl rfl (by omega) (by omega) (rfl) ?_
      refine g_iconst (v := nI 1) X dX9_takes_27 (by decide) ?_
      refine g_isub (v := ((Hm c) - nI 1)) X dX9_takes_28 (rfl) ?_
      refine g_iastN (g' := upd Hm c ((Hm c) - nI 1)) (ws' := [(m, .inr (9, [.ref mh, .ref mg, .ref mt, .ref mf, .ref ms, .ref msT, .ref msF, .ref mgv, .ref mP, .ref mW, .ref mV, .ref mco, .ref men, .ref mnt, .int tw, .int mse, .int mbr, .int mwk, .int mns, .int mtp, .int mss])), (mh, .inl (ai, 42, .inl (upd Hm c ((Hm c) - nI 1)))), (mg, .inl (ai, 42, .inl Gm)), (mP, .inl (az, 42, .inl Pm))]) X dX9_takes_29 1 0 rfl rfl (by omega) (by omega) (rfl) rfl ?_
      refine g_aload_n X dX9_takes_30 rfl 0 rfl ?_
      refine g_getf (T := TX9) (v := .ref mg) X dX9_takes_31 0 rfl rfl in_X9_takes_X9 1 (by decide) (by decide +kernel) rfl rfl ?_
      refine g_iload_n X dX9_takes_34 rfl 1 rfl ?_
      refine g_dup2 X dX9_takes_35 rfl rfl ?_
      refine g_ialdN (v := (Gm c)) X dX9_takes_36 2 0 rfl rfl (by omega) (by omega) (rfl) ?_
      refine g_iconst (v := nI 1) X dX9_takes_37 (by decide) ?_
      refine g_isub (v := ((Gm c) - nI 1)) X dX9_takes_38 (rfl) ?_
      refine g_iastN (g' := upd Gm c ((Gm c) - nI 1)) (ws' := [(m, .inr (9, [.ref mh, .ref mg, .ref mt, .ref mf, .ref ms, .ref msT, .ref msF, .ref mgv, .ref mP, .ref mW, .ref mV, .ref mco, .ref men, .ref mnt, .int tw, .int mse, .int mbr, .int mwk, .int mns, .int mtp, .int mss])), (mh, .inl (ai, 42, .inl (upd Hm c ((Hm c) - nI 1)))), (mg, .inl (ai, 42, .inl (upd Gm c ((Gm c) - nI 1)))), (mP, .inl (az, 42, .inl Pm))]) X dX9_takes_39 2 0 rfl rfl (by omega) (by omega) (rfl) rfl ?_
      refine g_iconst (v := nI 1) X dX9_takes_40 (by decide) ?_
      exact g_iret X E dX9_takes_41 (⟨upd Gm c ((Gm c) - nI 1), upd Hm c ((Hm c) - nI 1)⟩) rfl (by decide) (by decide) (by
        have hz : pl c = false ∧ 0 < h c := ⟨(hP.z hc).mp b6, Nat.pos_of_ne_zero b15⟩
        unfold tkC tk tkH; rw [if_pos hz, if_pos hz, if_pos hz]
        exact ⟨rfl, rfl, hH.set (by rw [hH c hc]; exact pk_sub hz.2)⟩)
    · refine g_iconst (v := nI 0) X dX9_takes_18 (by decide) ?_
      exact g_iret X E dX9_takes_19 (⟨Gm, Hm⟩) rfl (by decide) (by decide) (by
        have hz : ¬ (pl c = false ∧ 0 < h c) := fun q => by first | (have q2 := hP c hc; rw [q.1] at q2; exact b6 q2) | omega
        unfold tkC tk tkH; rw [if_neg hz, if_neg hz, if_neg hz]
        exact ⟨rfl, rfl, hH⟩)

theorem ok_X9_runs : okName yX9_runs 2 := by decide +kernel
theorem in_X9_runs_X9 : ∀ w ∈ u_ws RX9 TX9 21, w ∈ wsX9_runs := by decide +kernel
set_option maxRecDepth 100000 in
set_option maxHeartbeats 4000000 in
theorem c_X9_runs (l : Launch) (D : va_G) (ai az al : ClassId) (m : Nat) (mh : Nat) (mg : Nat) (mt : Nat) (mf : Nat) (ms : Nat) (msT : Nat) (msF : Nat) (mgv : Nat) (mP : Nat) (mW : Nat) (mV : Nat) (mco : Nat) (men : Nat) (mnt : Nat) (tw : Int32) (mse : Int32) (mbr : Int32) (mwk : Int32) (mns : Int32) (mtp : Int32) (mss : Int32) (Hm : Nat → Int32) (Gm : Nat → Int32) (Fm : Nat → Int32) (Tm : Nat → Int32) (Pm : Nat → Int32) (Wm : Nat → Int32) (nb : Nat → Nat → Nat) (pl : Nat → Bool) (h : Nat → Nat) (col : Nat) (e : Nat) (hW : NW nb) (hWm : WOK Wm nb) (hC : Cn nb) (hP : POK Pm pl) (hH : HOK Hm h) (hn : sN h 42 ≤ 440) (hcol : col < 6) (he : e < 2 ^ 30) : CI l D (tY ai az al) yX9_runs wsX9_runs { frames := 4, cells := 0, slots := 0, locals := 90 } [.ref m, .int (nI col), .int (nI e)] [(m, .inr (9, [.ref mh, .ref mg, .ref mt, .ref mf, .ref ms, .ref msT, .ref msF, .ref mgv, .ref mP, .ref mW, .ref mV, .ref mco, .ref men, .ref mnt, .int tw, .int mse, .int mbr, .int mwk, .int mns, .int mtp, .int mss])), (mh, .inl (ai, 42, .inl Hm)), (mg, .inl (ai, 42, .inl Gm)), (mf, .inl (ai, 168, .inl Fm)), (mt, .inl (ai, 42, .inl Tm)), (mP, .inl (az, 42, .inl Pm)), (mW, .inl (az, 168, .inl Wm))] (fun (r : Int32) (u : (Nat → Int32) × (Nat → Int32) × (Nat → Int32) × (Nat → Nat) × (Nat → Nat) × (Nat → Int32) × Nat × Nat × (Nat → Nat)) => r = nI u.2.2.2.2.2.2.1 ∧ wR nb pl col e h Gm = (u.2.2.2.2.2.2.1, u.2.2.2.2.2.2.2.2, u.2.2.2.2.2.1, u.2.2.2.2.2.2.2.1) ∧ Stl nb pl (u.2.2.2.2.2.2.2.2) u.2.2.2.1 u.2.2.2.2.1 ∧ HOK u.1 u.2.2.2.1 ∧ FlowTo nb u.2.2.2.2.1 Fm u.2.1 ∧ (∀ c, c < 42 → u.2.2.1 c = Tm c + nI (u.2.2.2.2.1 c))) (fun (u : (Nat → Int32) × (Nat → Int32) × (Nat → Int32) × (Nat → Nat) × (Nat → Nat) × (Nat → Int32) × Nat × Nat × (Nat → Nat)) => [(m, .inr (9, [.ref mh, .ref mg, .ref mt, .ref mf, .ref ms, .ref msT, .ref msF, .ref mgv, .ref mP, .ref mW, .ref mV, .ref mco, .ref men, .ref mnt, .int tw, .int (mse + nI u.2.2.2.2.2.2.2.1 + nI (lostN nb u.2.2.2.2.1 6)), .int mbr, .int mwk, .int mns, .int (nI (sN u.2.2.2.2.1 42)), .int mss])), (mh, .inl (ai, 42, .inl u.1)), (mg, .inl (ai, 42, .inl u.2.2.2.2.2.1)), (mf, .inl (ai, 168, .inl u.2.1)), (mt, .inl (ai, 42, .inl u.2.2.1)), (mP, .inl (az, 42, .inl Pm)), (mW, .inl (az, 168, .inl Wm))]) := by
  refine ofG_I (cc := cX9_runs) (nL := 9) (lv0 := [(0, .ref m), (1, .int (nI col)), (2, .int (nI e))]) (by decide) rfl (Nat.le_of_ble_eq_true rfl) rfl ?_
  intro Γ X E
  have hNB := hW.nb
  refine g_iload_n X dX9_runs_0 rfl 2 rfl ?_
  refine g_istore_n (lv' := [(3, .int (nI e)), (0, .ref m), (1, .int (nI col)), (2, .int (nI e))]) X dX9_runs_1 rfl (by decide) rfl ?_
  refine g_iconst (v := nI 0) X dX9_runs_2 (by decide) ?_
  refine g_istore (lv' := [(4, .int (nI 0)), (3, .int (nI e)), (0, .ref m), (1, .int (nI col)), (2, .int (nI e))]) X dX9_runs_3 (by decide) rfl ?_
  refine g_iconst (v := nI 0) X dX9_runs_5 (by decide) ?_
  refine g_istore (lv' := [(5, .int (nI 0)), (4, .int (nI 0)), (3, .int (nI e)), (0, .ref m), (1, .int (nI col)), (2, .int (nI e))]) X dX9_runs_6 (by decide) rfl ?_
  refine g_lv (lv' := [(5, .int (nI 0)), (4, .int (nI 0)), (3, .int (dI (e + 1))), (0, .ref m), (1, .int (nI col)), (2, .int (nI e))]) [0, 1, 2, 3, 4, 5] (by rw [dI_s]; rfl) ?_
  have L8 : ∀ (fl : Nat) (i : Nat) (mm : Nat) (ee : Nat) (ld : Nat) (Ha : Nat → Int32) (Ga : Nat → Int32) (hh : Nat → Nat), (mm + i = 7) → (wUp nb pl col 7 0 (e + 1) h Gm 0 = wUp nb pl col mm i ee hh Ga ld) → (HOK Ha hh) → (sN hh 42 + ld = sN h 42) → (ee < 2 ^ 31) → (8 ≤ i + fl) → G Γ 9 0 0 [(m, .inr (9, [.ref mh, .ref mg, .ref mt, .ref mf, .ref ms, .ref msT, .ref msF, .ref mgv, .ref mP, .ref mW, .ref mV, .ref mco, .ref men, .ref mnt, .int tw, .int mse, .int mbr, .int mwk, .int mns, .int mtp, .int mss])), (mh, .inl (ai, 42, .inl Ha)), (mg, .inl (ai, 42, .inl Ga)), (mf, .inl (ai, 168, .inl Fm)), (mt, .inl (ai, 42, .inl Tm)), (mP, .inl (az, 42, .inl Pm)), (mW, .inl (az, 168, .inl Wm))] [(0, .ref m), (1, .int (nI col)), (2, .int (nI e)), (3, .int (dI ee)), (4, .int (nI ld)), (5, .int (nI i))] 8 [] := by
    intro fl
    induction fl with
    | zero => intro i mm ee ld Ha Ga hh him hw hHa hsm hee hm; exact absurd hm (by omega)
    | succ fl ih8 =>
      intro i mm ee ld Ha Ga hh him hw hHa hsm hee hm
      refine g_iload X dX9_runs_8 5 rfl ?_
      refine g_bipush (v := nI 7) X dX9_runs_10 (by decide) ?_
      refine g_icmp_geN (tgt := 99) X dX9_runs_12 (by decide) (by omega) (by omega) (fun b12 => ?_) (fun b12 => ?_)
      · obtain rfl : i = 7 := by omega
        obtain rfl : mm = 0 := by omega
        have hwu : wUp nb pl col 7 0 (e + 1) h Gm 0 = (7, hh, Ga, ld, true) := hw
        refine g_iload X dX9_runs_99 5 rfl ?_
        refine g_bipush (v := nI 7) X dX9_runs_101 (by decide) ?_
        refine g_icmp_eqN (tgt := 120) X dX9_runs_103 (by decide) (by decide) (by decide) (fun b103x => ?_) (fun b103x => False.elim (by revert b103x; decide))
        refine g_iconst (v := nI 1) X dX9_runs_120 (by decide) ?_
        refine g_goto (tgt := 125) X dX9_runs_121 (by decide) ?_
        refine g_istore (lv' := [(6, .int (nI 1)), (0, .ref m), (1, .int (nI col)), (2, .int (nI e)), (3, .int (dI ee)), (4, .int (nI ld)), (5, .int (nI 7))]) X dX9_runs_125 (by decide) rfl ?_
        refine g_iload X dX9_runs_127 6 rfl ?_
        refine g_iconst (v := nI 1) X dX9_runs_129 (by decide) ?_
        refine g_isub (v := dI 7) X dX9_runs_130 (by first | (rw [nI_subd (by omega)]; done) | (rw [nI_subd (by omega)]; rfl)) ?_
        refine g_istore (lv' := [(7, .int (dI 7)), (6, .int (nI 1)), (0, .ref m), (1, .int (nI col)), (2, .int (nI e)), (3, .int (dI ee)), (4, .int (nI ld)), (5, .int (nI 7))]) X dX9_runs_131 (by decide) rfl ?_
        have L133 : ∀ (fk : Nat) (j : Nat) (lb : Nat) (Hb : Nat → Int32) (Gb : Nat → Int32) (hq_ : Nat → Nat), (j ≤ 7) → (wDn pl col true 7 hh Ga ld = wDn pl col true j hq_ Gb lb) → (HOK Hb hq_) → (sN hq_ 42 + lb = sN h 42) → (j + 2 ≤ fk) → G Γ 9 0 0 [(m, .inr (9, [.ref mh, .ref mg, .ref mt, .ref mf, .ref ms, .ref msT, .ref msF, .ref mgv, .ref mP, .ref mW, .ref mV, .ref mco, .ref men, .ref mnt, .int tw, .int mse, .int mbr, .int mwk, .int mns, .int mtp, .int mss])), (mh, .inl (ai, 42, .inl Hb)), (mg, .inl (ai, 42, .inl Gb)), (mf, .inl (ai, 168, .inl Fm)), (mt, .inl (ai, 42, .inl Tm)), (mP, .inl (az, 42, .inl Pm)), (mW, .inl (az, 168, .inl Wm))] [(0, .ref m), (1, .int (nI col)), (2, .int (nI e)), (3, .int (dI ee)), (4, .int (nI lb)), (5, .int (nI 7)), (6, .int (nI (bn true))), (7, .int (dI j))] 133 [] := by
          intro fk
          induction fk with
          | zero => intro j lb Hb Gb hq_ hj hwd hHb hsb hk; exact absurd hk (by omega)
          | succ fk ih133 =>
            intro j lb Hb Gb hq_ hj hwd hHb hsb hk
            refine g_iload X dX9_runs_133 7 rfl ?_
            refine g_if_lt (tgt := 201) X dX9_runs_135 (by decide) (fun b135 => ?_) (fun b135 => ?_)
            · obtain rfl : j = 0 := (dI_neg (by omega)).mp b135
              refine g_aload_n X dX9_runs_201 rfl 0 rfl ?_
              refine g_dup X dX9_runs_202 rfl ?_
              refine g_getf (T := TX9) (v := .int mse) X dX9_runs_203 0 rfl rfl in_X9_runs_X9 15 (by decide) (by decide +kernel) rfl rfl ?_
              refine g_iload X dX9_runs_206 4 rfl ?_
              refine g_iadd (v := (mse + nI lb)) X dX9_runs_208 (rfl) ?_
              refine g_putf (T := TX9) (v := .int (mse + nI lb)) (ty := tyX9 15) (ws' := [(m, .inr (9, [.ref mh, .ref mg, .ref mt, .ref mf, .ref ms, .ref msT, .ref msF, .ref mgv, .ref mP, .ref mW, .ref mV, .ref mco, .ref men, .ref mnt, .int tw, .int (mse + nI lb), .int mbr, .int mwk, .int mns, .int mtp, .int mss])), (mh, .inl (ai, 42, .inl Hb)), (mg, .inl (ai, 42, .inl Gb)), (mf, .inl (ai, 168, .inl Fm)), (mt, .inl (ai, 42, .inl Tm)), (mP, .inl (az, 42, .inl Pm)), (mW, .inl (az, 168, .inl Wm))]) X dX9_runs_209 0 rfl rfl in_X9_runs_X9 tyX9 tyX9_ok nmX9 15 (by decide) (by decide +kernel) rfl rfl (by decide +kernel) rfl rfl (Nat.le_of_ble_eq_true rfl) rfl ?_
              refine g_aload_n X dX9_runs_212 rfl 0 rfl ?_
              refine g_callVi (C := RX9) (As := []) (rest := []) (wr := [(mg, .inl (ai, 42, .inl Gb))]) X dX9_runs_213 (c_X9_settles l D ai az al m mh mg mt mf ms msT msF mgv mP mW mV mco men mnt tw (mse + nI lb) mbr mwk mns mtp mss Hb Fm Tm Pm Wm nb pl hq_ (hW) (hWm) (hC) (hP) (hHb) (by omega)) gX9_runs_X9_settles rfl rfl ok_X9_settles rfl rfl (by decide) ⟨by decide, by decide⟩ (Nat.le_of_ble_eq_true rfl) [0, 1, 3, 4, 5, 6] [2] ⟨rfl, by decide, rfl, by decide, by decide⟩ 0 rfl rfl rfl (fun r1 u hp => ?_)
              obtain ⟨H5, F5, T5, h5, u5⟩ := u
              try dsimp only at hp
              obtain ⟨rfl, hS5, hH7, hF5, hT5⟩ := hp
              refine g_sub (k := 0) (n := 0) (ws' := [(m, .inr (9, [.ref mh, .ref mg, .ref mt, .ref mf, .ref ms, .ref msT, .ref msF, .ref mgv, .ref mP, .ref mW, .ref mV, .ref mco, .ref men, .ref mnt, .int tw, .int ((mse + nI lb) + nI (lostN nb u5 6)), .int mbr, .int mwk, .int mns, .int (nI (sN u5 42)), .int mss])), (mh, .inl (ai, 42, .inl H5)), (mg, .inl (ai, 42, .inl Gb)), (mf, .inl (ai, 168, .inl F5)), (mt, .inl (ai, 42, .inl T5)), (mP, .inl (az, 42, .inl Pm)), (mW, .inl (az, 168, .inl Wm))]) [1, 2, 0, 3, 4, 5, 6] (by decide) rfl ?_
              refine g_istore (lv' := [(7, .int (nI (sN u5 42))), (0, .ref m), (1, .int (nI col)), (2, .int (nI e)), (3, .int (dI ee)), (4, .int (nI lb)), (5, .int (nI 7)), (6, .int (nI (bn true)))]) X dX9_runs_216 (by decide) rfl ?_
              refine g_iload X dX9_runs_218 6 rfl ?_
              exact g_iret X E dX9_runs_220 (⟨H5, F5, T5, h5, u5, Gb, 7, lb, hq_⟩) rfl (by decide) (by decide) (⟨rfl, by unfold wR; rw [hwu]; show (_, wDn _ _ _ _ _ _ _) = _; rw [hwd]; rfl, hS5, hH7, hF5, hT5⟩)
            · have hi0 : j ≠ 0 := fun z => b135 ((dI_neg (by omega)).mpr z)
              obtain ⟨k, rfl⟩ : ∃ k, j = k + 1 := ⟨j - 1, by omega⟩
              have hk7 : k < 7 := by omega
              have hx3 : hq_ (k * 6 + col) < 2 ^ 31 := by have q := sN_one (f := hq_) (n := 42) (j := k * 6 + col) (by omega); omega
              have hlb : lb < 2 ^ 31 := by omega
              refine g_lv (lv' := [(0, .ref m), (1, .int (nI col)), (2, .int (nI e)), (3, .int (dI ee)), (4, .int (nI lb)), (5, .int (nI 7)), (6, .int (nI (bn true))), (7, .int (nI k))]) [0, 1, 2, 3, 4, 5, 6, 7] (by rw [dI_s]; rfl) ?_
              refine g_iload_n X dX9_runs_138 rfl 1 rfl ?_
              refine g_iload X dX9_runs_139 7 rfl ?_
              refine g_callSi (As := [.int (nI col), .int (nI k)]) (rest := []) (wr := [(m, .inr (9, [.ref mh, .ref mg, .ref mt, .ref mf, .ref ms, .ref msT, .ref msF, .ref mgv, .ref mP, .ref mW, .ref mV, .ref mco, .ref men, .ref mnt, .int tw, .int mse, .int mbr, .int mwk, .int mns, .int mtp, .int mss])), (mh, .inl (ai, 42, .inl Hb)), (mg, .inl (ai, 42, .inl Gb)), (mf, .inl (ai, 168, .inl Fm)), (mt, .inl (ai, 42, .inl Tm)), (mP, .inl (az, 42, .inl Pm)), (mW, .inl (az, 168, .inl Wm))]) X dX9_runs_141 (c_X9_at l D ai az al col k ) gX9_runs_X9_at rfl rfl ok_X9_at rfl rfl (by decide) ⟨by decide, by decide⟩ (Nat.le_of_ble_eq_true rfl) [] [0, 1, 2, 3, 4, 5, 6] ⟨rfl, by decide, rfl, by decide, by decide⟩ (fun r2 u hp => ?_)
              obtain rfl := hp
              refine g_sub (k := 0) (n := 0) (ws' := [(m, .inr (9, [.ref mh, .ref mg, .ref mt, .ref mf, .ref ms, .ref msT, .ref msF, .ref mgv, .ref mP, .ref mW, .ref mV, .ref mco, .ref men, .ref mnt, .int tw, .int mse, .int mbr, .int mwk, .int mns, .int mtp, .int mss])), (mh, .inl (ai, 42, .inl Hb)), (mg, .inl (ai, 42, .inl Gb)), (mf, .inl (ai, 168, .inl Fm)), (mt, .inl (ai, 42, .inl Tm)), (mP, .inl (az, 42, .inl Pm)), (mW, .inl (az, 168, .inl Wm))]) [0, 1, 2, 3, 4, 5, 6] (by decide) rfl ?_
              refine g_istore (lv' := [(8, .int (nI (k * 6 + col))), (0, .ref m), (1, .int (nI col)), (2, .int (nI e)), (3, .int (dI ee)), (4, .int (nI lb)), (5, .int (nI 7)), (6, .int (nI (bn true))), (7, .int (nI k))]) X dX9_runs_144 (by decide) rfl ?_
              refine g_iload X dX9_runs_146 7 rfl ?_
              refine g_if_eqN (tgt := 165) X dX9_runs_148 (by decide) (bn_lt _) (fun b148 => False.elim (absurd b148 (by decide))) (fun b148 => ?_)
              refine g_iload X dX9_runs_151 5 rfl ?_
              refine g_aload_n X dX9_runs_153 rfl 1 rfl ?_
              refine g_iload X dX9_runs_154 0 rfl ?_
              refine g_callVi (C := RX9) (As := [.int (nI (k * 6 + col))]) (rest := [.int (nI lb)]) (wr := [(mf, .inl (ai, 168, .inl Fm)), (mt, .inl (ai, 42, .inl Tm)), (mW, .inl (az, 168, .inl Wm))]) X dX9_runs_156 (c_X9_takes l D ai az al m mh mg mt mf ms msT msF mgv mP mW mV mco men mnt tw mse mbr mwk mns mtp mss Hb Gb Pm pl hq_ (k * 6 + col) (by omega) (hP) (hHb) (hx3)) gX9_runs_X9_takes rfl rfl ok_X9_takes rfl rfl (by decide) ⟨by decide, by decide⟩ (Nat.le_of_ble_eq_true rfl) [0, 1, 2, 5] [3, 4, 6] ⟨rfl, by decide, rfl, by decide, by decide⟩ 0 rfl rfl rfl (fun r5 u hp => ?_)
              obtain ⟨G23, H24⟩ := u
              try dsimp only at hp
              obtain ⟨rfl, rfl, hH6⟩ := hp
              refine g_sub (k := 0) (n := 0) (ws' := [(m, .inr (9, [.ref mh, .ref mg, .ref mt, .ref mf, .ref ms, .ref msT, .ref msF, .ref mgv, .ref mP, .ref mW, .ref mV, .ref mco, .ref men, .ref mnt, .int tw, .int mse, .int mbr, .int mwk, .int mns, .int mtp, .int mss])), (mh, .inl (ai, 42, .inl H24)), (mg, .inl (ai, 42, .inl (tkC pl hq_ Gb (k * 6 + col)))), (mf, .inl (ai, 168, .inl Fm)), (mt, .inl (ai, 42, .inl Tm)), (mP, .inl (az, 42, .inl Pm)), (mW, .inl (az, 168, .inl Wm))]) [3, 4, 5, 0, 1, 6, 2] (by decide) rfl ?_
              refine g_iadd (v := nI (lb + (tk pl hq_ (k * 6 + col)))) X dX9_runs_159 (nI_add _ _) ?_
              refine g_istore (lv' := [(4, .int (nI (lb + (tk pl hq_ (k * 6 + col))))), (8, .int (nI (k * 6 + col))), (0, .ref m), (1, .int (nI col)), (2, .int (nI e)), (3, .int (dI ee)), (5, .int (nI 7)), (6, .int (nI (bn true))), (7, .int (nI k))]) X dX9_runs_160 (by decide) rfl ?_
              refine g_goto (tgt := 195) X dX9_runs_162 (by decide) ?_
              refine g_iinc (v := dI k) (lv' := [(7, .int (dI k)), (4, .int (nI (lb + (tk pl hq_ (k * 6 + col))))), (8, .int (nI (k * 6 + col))), (0, .ref m), (1, .int (nI col)), (2, .int (nI e)), (3, .int (dI ee)), (5, .int (nI 7)), (6, .int (nI (bn true)))]) X dX9_runs_195 8 rfl (dI_dec _) (by decide) rfl ?_
              refine g_goto (tgt := 133) X dX9_runs_198 (by decide) ?_
              refine g_lv (lv' := [(0, .ref m), (1, .int (nI col)), (2, .int (nI e)), (3, .int (dI ee)), (4, .int (nI (lb + (tk pl hq_ (k * 6 + col))))), (5, .int (nI 7)), (6, .int (nI (bn true))), (7, .int (dI k))]) [3, 4, 5, 6, 1, 7, 8, 0] rfl ?_
              exact ih133 k (lb + tk pl hq_ (k * 6 + col)) H24 (tkC pl hq_ Gb (k * 6 + col)) (tkH pl hq_ (k * 6 + col)) (by omega) (by rw [hwd]; show (if _ then _ else _) = _; rw [if_pos rfl]) (hH6) (by have q := tk_sum (pl := pl) (h := hq_) (c := k * 6 + col) (by omega); omega) (by omega)
        refine g_lv (lv' := [(0, .ref m), (1, .int (nI col)), (2, .int (nI e)), (3, .int (dI ee)), (4, .int (nI ld)), (5, .int (nI 7)), (6, .int (nI 1)), (7, .int (dI 7))]) [2, 3, 4, 5, 6, 7, 1, 0] rfl ?_
        exact L133 9 7 ld Ha Ga hh (by omega) (rfl) (hHa) (hsm) (by omega)
      · obtain ⟨m9, rfl⟩ : ∃ m9, mm = m9 + 1 := ⟨mm - 1, by omega⟩
        refine g_aload_n X dX9_runs_15 rfl 0 rfl ?_
        refine g_iload_n X dX9_runs_16 rfl 1 rfl ?_
        refine g_iload X dX9_runs_17 5 rfl ?_
        refine g_callSi (As := [.int (nI col), .int (nI i)]) (rest := [.ref m]) (wr := [(m, .inr (9, [.ref mh, .ref mg, .ref mt, .ref mf, .ref ms, .ref msT, .ref msF, .ref mgv, .ref mP, .ref mW, .ref mV, .ref mco, .ref men, .ref mnt, .int tw, .int mse, .int mbr, .int mwk, .int mns, .int mtp, .int mss])), (mh, .inl (ai, 42, .inl Ha)), (mg, .inl (ai, 42, .inl Ga)), (mf, .inl (ai, 168, .inl Fm)), (mt, .inl (ai, 42, .inl Tm)), (mP, .inl (az, 42, .inl Pm)), (mW, .inl (az, 168, .inl Wm))]) X dX9_runs_19 (c_X9_at l D ai az al col i ) gX9_runs_X9_at rfl rfl ok_X9_at rfl rfl (by decide) ⟨by decide, by decide⟩ (Nat.le_of_ble_eq_true rfl) [] [0, 1, 2, 3, 4, 5, 6] ⟨rfl, by decide, rfl, by decide, by decide⟩ (fun r6 u hp => ?_)
        obtain rfl := hp
        refine g_sub (k := 0) (n := 0) (ws' := [(m, .inr (9, [.ref mh, .ref mg, .ref mt, .ref mf, .ref ms, .ref msT, .ref msF, .ref mgv, .ref mP, .ref mW, .ref mV, .ref mco, .ref men, .ref mnt, .int tw, .int mse, .int mbr, .int mwk, .int mns, .int mtp, .int mss])), (mh, .inl (ai, 42, .inl Ha)), (mg, .inl (ai, 42, .inl Ga)), (mf, .inl (ai, 168, .inl Fm)), (mt, .inl (ai, 42, .inl Tm)), (mP, .inl (az, 42, .inl Pm)), (mW, .inl (az, 168, .inl Wm))]) [0, 1, 2, 3, 4, 5, 6] (by decide) rfl ?_
        refine g_iconst (v := nI 0) X dX9_runs_22 (by decide) ?_
        refine g_callVi (C := RX9) (As := [.int (nI (i * 6 + col)), .int (nI 0)]) (rest := []) (wr := [(mh, .inl (ai, 42, .inl Ha)), (mg, .inl (ai, 42, .inl Ga)), (mf, .inl (ai, 168, .inl Fm)), (mt, .inl (ai, 42, .inl Tm)), (mP, .inl (az, 42, .inl Pm))]) X dX9_runs_23 (c_X9_isOpen l D ai az al m mh mg mt mf ms msT msF mgv mP mW mV mco men mnt tw mse mbr mwk mns mtp mss Wm nb (i * 6 + col) 0 (by omega) (by decide) (hW) (hWm)) gX9_runs_X9_isOpen rfl rfl ok_X9_isOpen rfl rfl (by decide) ⟨by decide, by decide⟩ (Nat.le_of_ble_eq_true rfl) [0, 6] [1, 2, 3, 4, 5] ⟨rfl, by decide, rfl, by decide, by decide⟩ 0 rfl rfl rfl (fun r7 u hp => ?_)
        obtain rfl := hp
        refine g_sub (k := 0) (n := 0) (ws' := [(m, .inr (9, [.ref mh, .ref mg, .ref mt, .ref mf, .ref ms, .ref msT, .ref msF, .ref mgv, .ref mP, .ref mW, .ref mV, .ref mco, .ref men, .ref mnt, .int tw, .int mse, .int mbr, .int mwk, .int mns, .int mtp, .int mss])), (mh, .inl (ai, 42, .inl Ha)), (mg, .inl (ai, 42, .inl Ga)), (mf, .inl (ai, 168, .inl Fm)), (mt, .inl (ai, 42, .inl Tm)), (mP, .inl (az, 42, .inl Pm)), (mW, .inl (az, 168, .inl Wm))]) [5, 0, 1, 2, 3, 4, 6] (by decide) rfl ?_
        refine g_if_eqN (tgt := 99) X dX9_runs_26 (by decide) (bn_lt _) (fun b26 => ?_) (fun b26 => ?_)
        · have hop : nb (i * 6 + col) 0 = 43 := Classical.byContradiction (of_decide_eq_false (bn_0.mp b26))
          have hwu : wUp nb pl col 7 0 (e + 1) h Gm 0 = (i, hh, Ga, ld, true) := by rw [hw]; show (if _ then _ else _) = _; rw [if_pos hop]
          refine g_iload X dX9_runs_99 5 rfl ?_
          refine g_bipush (v := nI 7) X dX9_runs_101 (by decide) ?_
          refine g_icmp_eqN (tgt := 120) X dX9_runs_103 (by decide) (by omega) (by omega) (fun b103 => False.elim (by omega)) (fun b103 => ?_)
          refine g_aload_n X dX9_runs_106 rfl 0 rfl ?_
          refine g_iload_n X dX9_runs_107 rfl 1 rfl ?_
          refine g_iload X dX9_runs_108 5 rfl ?_
          refine g_callSi (As := [.int (nI col), .int (nI i)]) (rest := [.ref m]) (wr := [(m, .inr (9, [.ref mh, .ref mg, .ref mt, .ref mf, .ref ms, .ref msT, .ref msF, .ref mgv, .ref mP, .ref mW, .ref mV, .ref mco, .ref men, .ref mnt, .int tw, .int mse, .int mbr, .int mwk, .int mns, .int mtp, .int mss])), (mh, .inl (ai, 42, .inl Ha)), (mg, .inl (ai, 42, .inl Ga)), (mf, .inl (ai, 168, .inl Fm)), (mt, .inl (ai, 42, .inl Tm)), (mP, .inl (az, 42, .inl Pm)), (mW, .inl (az, 168, .inl Wm))]) X dX9_runs_110 (c_X9_at l D ai az al col i ) gX9_runs_X9_at rfl rfl ok_X9_at rfl rfl (by decide) ⟨by decide, by decide⟩ (Nat.le_of_ble_eq_true rfl) [] [0, 1, 2, 3, 4, 5, 6] ⟨rfl, by decide, rfl, by decide, by decide⟩ (fun r8 u hp => ?_)
          obtain rfl := hp
          refine g_sub (k := 0) (n := 0) (ws' := [(m, .inr (9, [.ref mh, .ref mg, .ref mt, .ref mf, .ref ms, .ref msT, .ref msF, .ref mgv, .ref mP, .ref mW, .ref mV, .ref mco, .ref men, .ref mnt, .int tw, .int mse, .int mbr, .int mwk, .int mns, .int mtp, .int mss])), (mh, .inl (ai, 42, .inl Ha)), (mg, .inl (ai, 42, .inl Ga)), (mf, .inl (ai, 168, .inl Fm)), (mt, .inl (ai, 42, .inl Tm)), (mP, .inl (az, 42, .inl Pm)), (mW, .inl (az, 168, .inl Wm))]) [0, 1, 2, 3, 4, 5, 6] (by decide) rfl ?_
          refine g_iconst (v := nI 0) X dX9_runs_113 (by decide) ?_
          refine g_callVi (C := RX9) (As := [.int (nI (i * 6 + col)), .int (nI 0)]) (rest := []) (wr := [(mh, .inl (ai, 42, .inl Ha)), (mg, .inl (ai, 42, .inl Ga)), (mf, .inl (ai, 168, .inl Fm)), (mt, .inl (ai, 42, .inl Tm)), (mP, .inl (az, 42, .inl Pm))]) X dX9_runs_114 (c_X9_isOpen l D ai az al m mh mg mt mf ms msT msF mgv mP mW mV mco men mnt tw mse mbr mwk mns mtp mss Wm nb (i * 6 + col) 0 (by first | omega | assumption) (by first | omega | assumption) (by first | omega | assumption) (by first | omega | assumption)) gX9_runs_X9_isOpen rfl rfl ok_X9_isOpen rfl rfl (by decide) ⟨by decide, by decide⟩ (Nat.le_of_ble_eq_true rfl) [0, 6] [1, 2, 3, 4, 5] ⟨rfl, by decide, rfl, by decide, by decide⟩ 0 rfl rfl rfl (fun r9 u hp => ?_)
          obtain rfl := hp
          refine g_sub (k := 0) (n := 0) (ws' := [(m, .inr (9, [.ref mh, .ref mg, .ref mt, .ref mf, .ref ms, .ref msT, .ref msF, .ref mgv, .ref mP, .ref mW, .ref mV, .ref mco, .ref men, .ref mnt, .int tw, .int mse, .int mbr, .int mwk, .int mns, .int mtp, .int mss])), (mh, .inl (ai, 42, .inl Ha)), (mg, .inl (ai, 42, .inl Ga)), (mf, .inl (ai, 168, .inl Fm)), (mt, .inl (ai, 42, .inl Tm)), (mP, .inl (az, 42, .inl Pm)), (mW, .inl (az, 168, .inl Wm))]) [5, 0, 1, 2, 3, 4, 6] (by decide) rfl ?_
          refine g_if_neN (tgt := 124) X dX9_runs_117 (by decide) (bn_lt _) (fun b117 => False.elim (b117 b26)) (fun b117 => ?_)
          refine g_iconst (v := nI 1) X dX9_runs_120 (by decide) ?_
          refine g_goto (tgt := 125) X dX9_runs_121 (by decide) ?_
          refine g_istore (lv' := [(6, .int (nI 1)), (0, .ref m), (1, .int (nI col)), (2, .int (nI e)), (3, .int (dI ee)), (4, .int (nI ld)), (5, .int (nI i))]) X dX9_runs_125 (by decide) rfl ?_
          refine g_iload X dX9_runs_127 6 rfl ?_
          refine g_iconst (v := nI 1) X dX9_runs_129 (by decide) ?_
          refine g_isub (v := dI i) X dX9_runs_130 (by first | (rw [nI_subd (by omega)]; done) | (rw [nI_subd (by omega)]; rfl)) ?_
          refine g_istore (lv' := [(7, .int (dI i)), (6, .int (nI 1)), (0, .ref m), (1, .int (nI col)), (2, .int (nI e)), (3, .int (dI ee)), (4, .int (nI ld)), (5, .int (nI i))]) X dX9_runs_131 (by decide) rfl ?_
          have L133 : ∀ (fk : Nat) (j : Nat) (lb : Nat) (Hb : Nat → Int32) (Gb : Nat → Int32) (hq_ : Nat → Nat), (j ≤ 7) → (wDn pl col true i hh Ga ld = wDn pl col true j hq_ Gb lb) → (HOK Hb hq_) → (sN hq_ 42 + lb = sN h 42) → (j + 2 ≤ fk) → G Γ 9 0 0 [(m, .inr (9, [.ref mh, .ref mg, .ref mt, .ref mf, .ref ms, .ref msT, .ref msF, .ref mgv, .ref mP, .ref mW, .ref mV, .ref mco, .ref men, .ref mnt, .int tw, .int mse, .int mbr, .int mwk, .int mns, .int mtp, .int mss])), (mh, .inl (ai, 42, .inl Hb)), (mg, .inl (ai, 42, .inl Gb)), (mf, .inl (ai, 168, .inl Fm)), (mt, .inl (ai, 42, .inl Tm)), (mP, .inl (az, 42, .inl Pm)), (mW, .inl (az, 168, .inl Wm))] [(0, .ref m), (1, .int (nI col)), (2, .int (nI e)), (3, .int (dI ee)), (4, .int (nI lb)), (5, .int (nI i)), (6, .int (nI (bn true))), (7, .int (dI j))] 133 [] := by
            intro fk
            induction fk with
            | zero => intro j lb Hb Gb hq_ hj hwd hHb hsb hk; exact absurd hk (by omega)
            | succ fk ih133 =>
              intro j lb Hb Gb hq_ hj hwd hHb hsb hk
              refine g_iload X dX9_runs_133 7 rfl ?_
              refine g_if_lt (tgt := 201) X dX9_runs_135 (by decide) (fun b135 => ?_) (fun b135 => ?_)
              · obtain rfl : j = 0 := (dI_neg (by omega)).mp b135
                refine g_aload_n X dX9_runs_201 rfl 0 rfl ?_
                refine g_dup X dX9_runs_202 rfl ?_
                refine g_getf (T := TX9) (v := .int mse) X dX9_runs_203 0 rfl rfl in_X9_runs_X9 15 (by decide) (by decide +kernel) rfl rfl ?_
                refine g_iload X dX9_runs_206 4 rfl ?_
                refine g_iadd (v := (mse + nI lb)) X dX9_runs_208 (rfl) ?_
                refine g_putf (T := TX9) (v := .int (mse + nI lb)) (ty := tyX9 15) (ws' := [(m, .inr (9, [.ref mh, .ref mg, .ref mt, .ref mf, .ref ms, .ref msT, .ref msF, .ref mgv, .ref mP, .ref mW, .ref mV, .ref mco, .ref men, .ref mnt, .int tw, .int (mse + nI lb), .int mbr, .int mwk, .int mns, .int mtp, .int mss])), (mh, .inl (ai, 42, .inl Hb)), (mg, .inl (ai, 42, .inl Gb)), (mf, .inl (ai, 168, .inl Fm)), (mt, .inl (ai, 42, .inl Tm)), (mP, .inl (az, 42, .inl Pm)), (mW, .inl (az, 168, .inl Wm))]) X dX9_runs_209 0 rfl rfl in_X9_runs_X9 tyX9 tyX9_ok nmX9 15 (by decide) (by decide +kernel) rfl rfl (by decide +kernel) rfl rfl (Nat.le_of_ble_eq_true rfl) rfl ?_
                refine g_aload_n X dX9_runs_212 rfl 0 rfl ?_
                refine g_callVi (C := RX9) (As := []) (rest := []) (wr := [(mg, .inl (ai, 42, .inl Gb))]) X dX9_runs_213 (c_X9_settles l D ai az al m mh mg mt mf ms msT msF mgv mP mW mV mco men mnt tw (mse + nI lb) mbr mwk mns mtp mss Hb Fm Tm Pm Wm nb pl hq_ (hW) (hWm) (hC) (hP) (hHb) (by omega)) gX9_runs_X9_settles rfl rfl ok_X9_settles rfl rfl (by decide) ⟨by decide, by decide⟩ (Nat.le_of_ble_eq_true rfl) [0, 1, 3, 4, 5, 6] [2] ⟨rfl, by decide, rfl, by decide, by decide⟩ 0 rfl rfl rfl (fun r10 u hp => ?_)
                obtain ⟨H5, F5, T5, h5, u5⟩ := u
                try dsimp only at hp
                obtain ⟨rfl, hS5, hH7, hF5, hT5⟩ := hp
                refine g_sub (k := 0) (n := 0) (ws' := [(m, .inr (9, [.ref mh, .ref mg, .ref mt, .ref mf, .ref ms, .ref msT, .ref msF, .ref mgv, .ref mP, .ref mW, .ref mV, .ref mco, .ref men, .ref mnt, .int tw, .int ((mse + nI lb) + nI (lostN nb u5 6)), .int mbr, .int mwk, .int mns, .int (nI (sN u5 42)), .int mss])), (mh, .inl (ai, 42, .inl H5)), (mg, .inl (ai, 42, .inl Gb)), (mf, .inl (ai, 168, .inl F5)), (mt, .inl (ai, 42, .inl T5)), (mP, .inl (az, 42, .inl Pm)), (mW, .inl (az, 168, .inl Wm))]) [1, 2, 0, 3, 4, 5, 6] (by decide) rfl ?_
                refine g_istore (lv' := [(7, .int (nI (sN u5 42))), (0, .ref m), (1, .int (nI col)), (2, .int (nI e)), (3, .int (dI ee)), (4, .int (nI lb)), (5, .int (nI i)), (6, .int (nI (bn true)))]) X dX9_runs_216 (by decide) rfl ?_
                refine g_iload X dX9_runs_218 6 rfl ?_
                exact g_iret X E dX9_runs_220 (⟨H5, F5, T5, h5, u5, Gb, i, lb, hq_⟩) rfl (by decide) (by decide) (⟨rfl, by unfold wR; rw [hwu]; show (_, wDn _ _ _ _ _ _ _) = _; rw [hwd]; rfl, hS5, hH7, hF5, hT5⟩)
              · have hi0 : j ≠ 0 := fun z => b135 ((dI_neg (by omega)).mpr z)
                obtain ⟨k, rfl⟩ : ∃ k, j = k + 1 := ⟨j - 1, by omega⟩
                have hk7 : k < 7 := by omega
                have hx3 : hq_ (k * 6 + col) < 2 ^ 31 := by have q := sN_one (f := hq_) (n := 42) (j := k * 6 + col) (by omega); omega
                have hlb : lb < 2 ^ 31 := by omega
                refine g_lv (lv' := [(0, .ref m), (1, .int (nI col)), (2, .int (nI e)), (3, .int (dI ee)), (4, .int (nI lb)), (5, .int (nI i)), (6, .int (nI (bn true))), (7, .int (nI k))]) [0, 1, 2, 3, 4, 5, 6, 7] (by rw [dI_s]; rfl) ?_
                refine g_iload_n X dX9_runs_138 rfl 1 rfl ?_
                refine g_iload X dX9_runs_139 7 rfl ?_
                refine g_callSi (As := [.int (nI col), .int (nI k)]) (rest := []) (wr := [(m, .inr (9, [.ref mh, .ref mg, .ref mt, .ref mf, .ref ms, .ref msT, .ref msF, .ref mgv, .ref mP, .ref mW, .ref mV, .ref mco, .ref men, .ref mnt, .int tw, .int mse, .int mbr, .int mwk, .int mns, .int mtp, .int mss])), (mh, .inl (ai, 42, .inl Hb)), (mg, .inl (ai, 42, .inl Gb)), (mf, .inl (ai, 168, .inl Fm)), (mt, .inl (ai, 42, .inl Tm)), (mP, .inl (az, 42, .inl Pm)), (mW, .inl (az, 168, .inl Wm))]) X dX9_runs_141 (c_X9_at l D ai az al col k ) gX9_runs_X9_at rfl rfl ok_X9_at rfl rfl (by decide) ⟨by decide, by decide⟩ (Nat.le_of_ble_eq_true rfl) [] [0, 1, 2, 3, 4, 5, 6] ⟨rfl, by decide, rfl, by decide, by decide⟩ (fun r11 u hp => ?_)
                obtain rfl := hp
                refine g_sub (k := 0) (n := 0) (ws' := [(m, .inr (9, [.ref mh, .ref mg, .ref mt, .ref mf, .ref ms, .ref msT, .ref msF, .ref mgv, .ref mP, .ref mW, .ref mV, .ref mco, .ref men, .ref mnt, .int tw, .int mse, .int mbr, .int mwk, .int mns, .int mtp, .int mss])), (mh, .inl (ai, 42, .inl Hb)), (mg, .inl (ai, 42, .inl Gb)), (mf, .inl (ai, 168, .inl Fm)), (mt, .inl (ai, 42, .inl Tm)), (mP, .inl (az, 42, .inl Pm)), (mW, .inl (az, 168, .inl Wm))]) [0, 1, 2, 3, 4, 5, 6] (by decide) rfl ?_
                refine g_istore (lv' := [(8, .int (nI (k * 6 + col))), (0, .ref m), (1, .int (nI col)), (2, .int (nI e)), (3, .int (dI ee)), (4, .int (nI lb)), (5, .int (nI i)), (6, .int (nI (bn true))), (7, .int (nI k))]) X dX9_runs_144 (by decide) rfl ?_
                refine g_iload X dX9_runs_146 7 rfl ?_
                refine g_if_eqN (tgt := 165) X dX9_runs_148 (by decide) (bn_lt _) (fun b148 => False.elim (absurd b148 (by decide))) (fun b148 => ?_)
                refine g_iload X dX9_runs_151 5 rfl ?_
                refine g_aload_n X dX9_runs_153 rfl 1 rfl ?_
                refine g_iload X dX9_runs_154 0 rfl ?_
                refine g_callVi (C := RX9) (As := [.int (nI (k * 6 + col))]) (rest := [.int (nI lb)]) (wr := [(mf, .inl (ai, 168, .inl Fm)), (mt, .inl (ai, 42, .inl Tm)), (mW, .inl (az, 168, .inl Wm))]) X dX9_runs_156 (c_X9_takes l D ai az al m mh mg mt mf ms msT msF mgv mP mW mV mco men mnt tw mse mbr mwk mns mtp mss Hb Gb Pm pl hq_ (k * 6 + col) (by omega) (hP) (hHb) (hx3)) gX9_runs_X9_takes rfl rfl ok_X9_takes rfl rfl (by decide) ⟨by decide, by decide⟩ (Nat.le_of_ble_eq_true rfl) [0, 1, 2, 5] [3, 4, 6] ⟨rfl, by decide, rfl, by decide, by decide⟩ 0 rfl rfl rfl (fun r14 u hp => ?_)
                obtain ⟨G212, H213⟩ := u
                try dsimp only at hp
                obtain ⟨rfl, rfl, hH6⟩ := hp
                refine g_sub (k := 0) (n := 0) (ws' := [(m, .inr (9, [.ref mh, .ref mg, .ref mt, .ref mf, .ref ms, .ref msT, .ref msF, .ref mgv, .ref mP, .ref mW, .ref mV, .ref mco, .ref men, .ref mnt, .int tw, .int mse, .int mbr, .int mwk, .int mns, .int mtp, .int mss])), (mh, .inl (ai, 42, .inl H213)), (mg, .inl (ai, 42, .inl (tkC pl hq_ Gb (k * 6 + col)))), (mf, .inl (ai, 168, .inl Fm)), (mt, .inl (ai, 42, .inl Tm)), (mP, .inl (az, 42, .inl Pm)), (mW, .inl (az, 168, .inl Wm))]) [3, 4, 5, 0, 1, 6, 2] (by decide) rfl ?_
                refine g_iadd (v := nI (lb + (tk pl hq_ (k * 6 + col)))) X dX9_runs_159 (nI_add _ _) ?_
                refine g_istore (lv' := [(4, .int (nI (lb + (tk pl hq_ (k * 6 + col))))), (8, .int (nI (k * 6 + col))), (0, .ref m), (1, .int (nI col)), (2, .int (nI e)), (3, .int (dI ee)), (5, .int (nI i)), (6, .int (nI (bn true))), (7, .int (nI k))]) X dX9_runs_160 (by decide) rfl ?_
                refine g_goto (tgt := 195) X dX9_runs_162 (by decide) ?_
                refine g_iinc (v := dI k) (lv' := [(7, .int (dI k)), (4, .int (nI (lb + (tk pl hq_ (k * 6 + col))))), (8, .int (nI (k * 6 + col))), (0, .ref m), (1, .int (nI col)), (2, .int (nI e)), (3, .int (dI ee)), (5, .int (nI i)), (6, .int (nI (bn true)))]) X dX9_runs_195 8 rfl (dI_dec _) (by decide) rfl ?_
                refine g_goto (tgt := 133) X dX9_runs_198 (by decide) ?_
                refine g_lv (lv' := [(0, .ref m), (1, .int (nI col)), (2, .int (nI e)), (3, .int (dI ee)), (4, .int (nI (lb + (tk pl hq_ (k * 6 + col))))), (5, .int (nI i)), (6, .int (nI (bn true))), (7, .int (dI k))]) [3, 4, 5, 6, 1, 7, 8, 0] rfl ?_
                exact ih133 k (lb + tk pl hq_ (k * 6 + col)) H213 (tkC pl hq_ Gb (k * 6 + col)) (tkH pl hq_ (k * 6 + col)) (by omega) (by rw [hwd]; show (if _ then _ else _) = _; rw [if_pos rfl]) (hH6) (by have q := tk_sum (pl := pl) (h := hq_) (c := k * 6 + col) (by omega); omega) (by omega)
          refine g_lv (lv' := [(0, .ref m), (1, .int (nI col)), (2, .int (nI e)), (3, .int (dI ee)), (4, .int (nI ld)), (5, .int (nI i)), (6, .int (nI 1)), (7, .int (dI i))]) [2, 3, 4, 5, 6, 7, 1, 0] rfl ?_
          exact L133 9 i ld Ha Ga hh (by omega) (rfl) (hHa) (hsm) (by omega)
        · have hx31 : hh (i * 6 + col) < 2 ^ 31 := by have q := sN_one (f := hh) (n := 42) (j := i * 6 + col) (by omega); omega
          have hop : ¬ nb (i * 6 + col) 0 = 43 := of_decide_eq_true (bn_n.mp b26)
          refine g_iload_n X dX9_runs_29 rfl 3 rfl ?_
          refine g_aload_n X dX9_runs_30 rfl 0 rfl ?_
          refine g_getf (T := TX9) (v := .ref mh) X dX9_runs_31 0 rfl rfl in_X9_runs_X9 0 (by decide) (by decide +kernel) rfl rfl ?_
          refine g_iload_n X dX9_runs_34 rfl 1 rfl ?_
          refine g_iload X dX9_runs_35 5 rfl ?_
          refine g_callSi (As := [.int (nI col), .int (nI i)]) (rest := [.ref mh, .int (dI ee)]) (wr := [(m, .inr (9, [.ref mh, .ref mg, .ref mt, .ref mf, .ref ms, .ref msT, .ref msF, .ref mgv, .ref mP, .ref mW, .ref mV, .ref mco, .ref men, .ref mnt, .int tw, .int mse, .int mbr, .int mwk, .int mns, .int mtp, .int mss])), (mh, .inl (ai, 42, .inl Ha)), (mg, .inl (ai, 42, .inl Ga)), (mf, .inl (ai, 168, .inl Fm)), (mt, .inl (ai, 42, .inl Tm)), (mP, .inl (az, 42, .inl Pm)), (mW, .inl (az, 168, .inl Wm))]) X dX9_runs_37 (c_X9_at l D ai az al col i ) gX9_runs_X9_at rfl rfl ok_X9_at rfl rfl (by decide) ⟨by decide, by decide⟩ (Nat.le_of_ble_eq_true rfl) [] [0, 1, 2, 3, 4, 5, 6] ⟨rfl, by decide, rfl, by decide, by decide⟩ (fun r15 u hp => ?_)
          obtain rfl := hp
          refine g_sub (k := 0) (n := 0) (ws' := [(m, .inr (9, [.ref mh, .ref mg, .ref mt, .ref mf, .ref ms, .ref msT, .ref msF, .ref mgv, .ref mP, .ref mW, .ref mV, .ref mco, .ref men, .ref mnt, .int tw, .int mse, .int mbr, .int mwk, .int mns, .int mtp, .int mss])), (mh, .inl (ai, 42, .inl Ha)), (mg, .inl (ai, 42, .inl Ga)), (mf, .inl (ai, 168, .inl Fm)), (mt, .inl (ai, 42, .inl Tm)), (mP, .inl (az, 42, .inl Pm)), (mW, .inl (az, 168, .inl Wm))]) [0, 1, 2, 3, 4, 5, 6] (by decide) rfl ?_
          refine g_ialdN (v := nI (hh (i * 6 + col))) X dX9_runs_40 1 0 rfl rfl (by omega) (by omega) (hHa (i * 6 + col) (by omega)) ?_
          refine g_icmp_le (tgt := 99) X dX9_runs_41 (by decide) (fun b41 => ?_) (fun b41 => ?_)
          · have hle : ee ≤ hh (i * 6 + col) + 1 := Nat.le_of_not_lt (fun q => absurd ((dI_le hee hx31).mpr q) (Int32.not_lt.mpr b41))
            have hwu : wUp nb pl col 7 0 (e + 1) h Gm 0 = (i, hh, Ga, ld, false) := by rw [hw]; show (if _ then _ else _) = _; rw [if_neg hop, if_pos hle]
            refine g_iload X dX9_runs_99 5 rfl ?_
            refine g_bipush (v := nI 7) X dX9_runs_101 (by decide) ?_
            refine g_icmp_eqN (tgt := 120) X dX9_runs_103 (by decide) (by omega) (by omega) (fun b103 => False.elim (by omega)) (fun b103 => ?_)
            refine g_aload_n X dX9_runs_106 rfl 0 rfl ?_
            refine g_iload_n X dX9_runs_107 rfl 1 rfl ?_
            refine g_iload X dX9_runs_108 5 rfl ?_
            refine g_callSi (As := [.int (nI col), .int (nI i)]) (rest := [.ref m]) (wr := [(m, .inr (9, [.ref mh, .ref mg, .ref mt, .ref mf, .ref ms, .ref msT, .ref msF, .ref mgv, .ref mP, .ref mW, .ref mV, .ref mco, .ref men, .ref mnt, .int tw, .int mse, .int mbr, .int mwk, .int mns, .int mtp, .int mss])), (mh, .inl (ai, 42, .inl Ha)), (mg, .inl (ai, 42, .inl Ga)), (mf, .inl (ai, 168, .inl Fm)), (mt, .inl (ai, 42, .inl Tm)), (mP, .inl (az, 42, .inl Pm)), (mW, .inl (az, 168, .inl Wm))]) X dX9_runs_110 (c_X9_at l D ai az al col i ) gX9_runs_X9_at rfl rfl ok_X9_at rfl rfl (by decide) ⟨by decide, by decide⟩ (Nat.le_of_ble_eq_true rfl) [] [0, 1, 2, 3, 4, 5, 6] ⟨rfl, by decide, rfl, by decide, by decide⟩ (fun r16 u hp => ?_)
            obtain rfl := hp
            refine g_sub (k := 0) (n := 0) (ws' := [(m, .inr (9, [.ref mh, .ref mg, .ref mt, .ref mf, .ref ms, .ref msT, .ref msF, .ref mgv, .ref mP, .ref mW, .ref mV, .ref mco, .ref men, .ref mnt, .int tw, .int mse, .int mbr, .int mwk, .int mns, .int mtp, .int mss])), (mh, .inl (ai, 42, .inl Ha)), (mg, .inl (ai, 42, .inl Ga)), (mf, .inl (ai, 168, .inl Fm)), (mt, .inl (ai, 42, .inl Tm)), (mP, .inl (az, 42, .inl Pm)), (mW, .inl (az, 168, .inl Wm))]) [0, 1, 2, 3, 4, 5, 6] (by decide) rfl ?_
            refine g_iconst (v := nI 0) X dX9_runs_113 (by decide) ?_
            refine g_callVi (C := RX9) (As := [.int (nI (i * 6 + col)), .int (nI 0)]) (rest := []) (wr := [(mh, .inl (ai, 42, .inl Ha)), (mg, .inl (ai, 42, .inl Ga)), (mf, .inl (ai, 168, .inl Fm)), (mt, .inl (ai, 42, .inl Tm)), (mP, .inl (az, 42, .inl Pm))]) X dX9_runs_114 (c_X9_isOpen l D ai az al m mh mg mt mf ms msT msF mgv mP mW mV mco men mnt tw mse mbr mwk mns mtp mss Wm nb (i * 6 + col) 0 (by first | omega | assumption) (by first | omega | assumption) (by first | omega | assumption) (by first | omega | assumption)) gX9_runs_X9_isOpen rfl rfl ok_X9_isOpen rfl rfl (by decide) ⟨by decide, by decide⟩ (Nat.le_of_ble_eq_true rfl) [0, 6] [1, 2, 3, 4, 5] ⟨rfl, by decide, rfl, by decide, by decide⟩ 0 rfl rfl rfl (fun r17 u hp => ?_)
            obtain rfl := hp
            refine g_sub (k := 0) (n := 0) (ws' := [(m, .inr (9, [.ref mh, .ref mg, .ref mt, .ref mf, .ref ms, .ref msT, .ref msF, .ref mgv, .ref mP, .ref mW, .ref mV, .ref mco, .ref men, .ref mnt, .int tw, .int mse, .int mbr, .int mwk, .int mns, .int mtp, .int mss])), (mh, .inl (ai, 42, .inl Ha)), (mg, .inl (ai, 42, .inl Ga)), (mf, .inl (ai, 168, .inl Fm)), (mt, .inl (ai, 42, .inl Tm)), (mP, .inl (az, 42, .inl Pm)), (mW, .inl (az, 168, .inl Wm))]) [5, 0, 1, 2, 3, 4, 6] (by decide) rfl ?_
            refine g_if_neN (tgt := 124) X dX9_runs_117 (by decide) (bn_lt _) (fun b117 => ?_) (fun b117 => False.elim (b26 b117))
            refine g_iconst (v := nI 0) X dX9_runs_124 (by decide) ?_
            refine g_istore (lv' := [(6, .int (nI 0)), (0, .ref m), (1, .int (nI col)), (2, .int (nI e)), (3, .int (dI ee)), (4, .int (nI ld)), (5, .int (nI i))]) X dX9_runs_125 (by decide) rfl ?_
            refine g_iload X dX9_runs_127 6 rfl ?_
            refine g_iconst (v := nI 1) X dX9_runs_129 (by decide) ?_
            refine g_isub (v := dI i) X dX9_runs_130 (by first | (rw [nI_subd (by omega)]; done) | (rw [nI_subd (by omega)]; rfl)) ?_
            refine g_istore (lv' := [(7, .int (dI i)), (6, .int (nI 0)), (0, .ref m), (1, .int (nI col)), (2, .int (nI e)), (3, .int (dI ee)), (4, .int (nI ld)), (5, .int (nI i))]) X dX9_runs_131 (by decide) rfl ?_
            have L133 : ∀ (fk : Nat) (j : Nat) (lb : Nat) (Hb : Nat → Int32) (Gb : Nat → Int32) (hq_ : Nat → Nat), (j ≤ 7) → (wDn pl col false i hh Ga ld = wDn pl col false j hq_ Gb lb) → (HOK Hb hq_) → (sN hq_ 42 + lb = sN h 42) → (j + 2 ≤ fk) → G Γ 9 0 0 [(m, .inr (9, [.ref mh, .ref mg, .ref mt, .ref mf, .ref ms, .ref msT, .ref msF, .ref mgv, .ref mP, .ref mW, .ref mV, .ref mco, .ref men, .ref mnt, .int tw, .int mse, .int mbr, .int mwk, .int mns, .int mtp, .int mss])), (mh, .inl (ai, 42, .inl Hb)), (mg, .inl (ai, 42, .inl Gb)), (mf, .inl (ai, 168, .inl Fm)), (mt, .inl (ai, 42, .inl Tm)), (mP, .inl (az, 42, .inl Pm)), (mW, .inl (az, 168, .inl Wm))] [(0, .ref m), (1, .int (nI col)), (2, .int (nI e)), (3, .int (dI ee)), (4, .int (nI lb)), (5, .int (nI i)), (6, .int (nI (bn false))), (7, .int (dI j))] 133 [] := by
              intro fk
              induction fk with
              | zero => intro j lb Hb Gb hq_ hj hwd hHb hsb hk; exact absurd hk (by omega)
              | succ fk ih133 =>
                intro j lb Hb Gb hq_ hj hwd hHb hsb hk
                refine g_iload X dX9_runs_133 7 rfl ?_
                refine g_if_lt (tgt := 201) X dX9_runs_135 (by decide) (fun b135 => ?_) (fun b135 => ?_)
                · obtain rfl : j = 0 := (dI_neg (by omega)).mp b135
                  refine g_aload_n X dX9_runs_201 rfl 0 rfl ?_
                  refine g_dup X dX9_runs_202 rfl ?_
                  refine g_getf (T := TX9) (v := .int mse) X dX9_runs_203 0 rfl rfl in_X9_runs_X9 15 (by decide) (by decide +kernel) rfl rfl ?_
                  refine g_iload X dX9_runs_206 4 rfl ?_
                  refine g_iadd (v := (mse + nI lb)) X dX9_runs_208 (rfl) ?_
                  refine g_putf (T := TX9) (v := .int (mse + nI lb)) (ty := tyX9 15) (ws' := [(m, .inr (9, [.ref mh, .ref mg, .ref mt, .ref mf, .ref ms, .ref msT, .ref msF, .ref mgv, .ref mP, .ref mW, .ref mV, .ref mco, .ref men, .ref mnt, .int tw, .int (mse + nI lb), .int mbr, .int mwk, .int mns, .int mtp, .int mss])), (mh, .inl (ai, 42, .inl Hb)), (mg, .inl (ai, 42, .inl Gb)), (mf, .inl (ai, 168, .inl Fm)), (mt, .inl (ai, 42, .inl Tm)), (mP, .inl (az, 42, .inl Pm)), (mW, .inl (az, 168, .inl Wm))]) X dX9_runs_209 0 rfl rfl in_X9_runs_X9 tyX9 tyX9_ok nmX9 15 (by decide) (by decide +kernel) rfl rfl (by decide +kernel) rfl rfl (Nat.le_of_ble_eq_true rfl) rfl ?_
                  refine g_aload_n X dX9_runs_212 rfl 0 rfl ?_
                  refine g_callVi (C := RX9) (As := []) (rest := []) (wr := [(mg, .inl (ai, 42, .inl Gb))]) X dX9_runs_213 (c_X9_settles l D ai az al m mh mg mt mf ms msT msF mgv mP mW mV mco men mnt tw (mse + nI lb) mbr mwk mns mtp mss Hb Fm Tm Pm Wm nb pl hq_ (hW) (hWm) (hC) (hP) (hHb) (by omega)) gX9_runs_X9_settles rfl rfl ok_X9_settles rfl rfl (by decide) ⟨by decide, by decide⟩ (Nat.le_of_ble_eq_true rfl) [0, 1, 3, 4, 5, 6] [2] ⟨rfl, by decide, rfl, by decide, by decide⟩ 0 rfl rfl rfl (fun r18 u hp => ?_)
                  obtain ⟨H5, F5, T5, h5, u5⟩ := u
                  try dsimp only at hp
                  obtain ⟨rfl, hS5, hH7, hF5, hT5⟩ := hp
                  refine g_sub (k := 0) (n := 0) (ws' := [(m, .inr (9, [.ref mh, .ref mg, .ref mt, .ref mf, .ref ms, .ref msT, .ref msF, .ref mgv, .ref mP, .ref mW, .ref mV, .ref mco, .ref men, .ref mnt, .int tw, .int ((mse + nI lb) + nI (lostN nb u5 6)), .int mbr, .int mwk, .int mns, .int (nI (sN u5 42)), .int mss])), (mh, .inl (ai, 42, .inl H5)), (mg, .inl (ai, 42, .inl Gb)), (mf, .inl (ai, 168, .inl F5)), (mt, .inl (ai, 42, .inl T5)), (mP, .inl (az, 42, .inl Pm)), (mW, .inl (az, 168, .inl Wm))]) [1, 2, 0, 3, 4, 5, 6] (by decide) rfl ?_
                  refine g_istore (lv' := [(7, .int (nI (sN u5 42))), (0, .ref m), (1, .int (nI col)), (2, .int (nI e)), (3, .int (dI ee)), (4, .int (nI lb)), (5, .int (nI i)), (6, .int (nI (bn false)))]) X dX9_runs_216 (by decide) rfl ?_
                  refine g_iload X dX9_runs_218 6 rfl ?_
                  exact g_iret X E dX9_runs_220 (⟨H5, F5, T5, h5, u5, Gb, i, lb, hq_⟩) rfl (by decide) (by decide) (⟨rfl, by unfold wR; rw [hwu]; show (_, wDn _ _ _ _ _ _ _) = _; rw [hwd]; rfl, hS5, hH7, hF5, hT5⟩)
                · have hi0 : j ≠ 0 := fun z => b135 ((dI_neg (by omega)).mpr z)
                  obtain ⟨k, rfl⟩ : ∃ k, j = k + 1 := ⟨j - 1, by omega⟩
                  have hk7 : k < 7 := by omega
                  have hx3 : hq_ (k * 6 + col) < 2 ^ 31 := by have q := sN_one (f := hq_) (n := 42) (j := k * 6 + col) (by omega); omega
                  have hlb : lb < 2 ^ 31 := by omega
                  refine g_lv (lv' := [(0, .ref m), (1, .int (nI col)), (2, .int (nI e)), (3, .int (dI ee)), (4, .int (nI lb)), (5, .int (nI i)), (6, .int (nI (bn false))), (7, .int (nI k))]) [0, 1, 2, 3, 4, 5, 6, 7] (by rw [dI_s]; rfl) ?_
                  refine g_iload_n X dX9_runs_138 rfl 1 rfl ?_
                  refine g_iload X dX9_runs_139 7 rfl ?_
                  refine g_callSi (As := [.int (nI col), .int (nI k)]) (rest := []) (wr := [(m, .inr (9, [.ref mh, .ref mg, .ref mt, .ref mf, .ref ms, .ref msT, .ref msF, .ref mgv, .ref mP, .ref mW, .ref mV, .ref mco, .ref men, .ref mnt, .int tw, .int mse, .int mbr, .int mwk, .int mns, .int mtp, .int mss])), (mh, .inl (ai, 42, .inl Hb)), (mg, .inl (ai, 42, .inl Gb)), (mf, .inl (ai, 168, .inl Fm)), (mt, .inl (ai, 42, .inl Tm)), (mP, .inl (az, 42, .inl Pm)), (mW, .inl (az, 168, .inl Wm))]) X dX9_runs_141 (c_X9_at l D ai az al col k ) gX9_runs_X9_at rfl rfl ok_X9_at rfl rfl (by decide) ⟨by decide, by decide⟩ (Nat.le_of_ble_eq_true rfl) [] [0, 1, 2, 3, 4, 5, 6] ⟨rfl, by decide, rfl, by decide, by decide⟩ (fun r19 u hp => ?_)
                  obtain rfl := hp
                  refine g_sub (k := 0) (n := 0) (ws' := [(m, .inr (9, [.ref mh, .ref mg, .ref mt, .ref mf, .ref ms, .ref msT, .ref msF, .ref mgv, .ref mP, .ref mW, .ref mV, .ref mco, .ref men, .ref mnt, .int tw, .int mse, .int mbr, .int mwk, .int mns, .int mtp, .int mss])), (mh, .inl (ai, 42, .inl Hb)), (mg, .inl (ai, 42, .inl Gb)), (mf, .inl (ai, 168, .inl Fm)), (mt, .inl (ai, 42, .inl Tm)), (mP, .inl (az, 42, .inl Pm)), (mW, .inl (az, 168, .inl Wm))]) [0, 1, 2, 3, 4, 5, 6] (by decide) rfl ?_
                  refine g_istore (lv' := [(8, .int (nI (k * 6 + col))), (0, .ref m), (1, .int (nI col)), (2, .int (nI e)), (3, .int (dI ee)), (4, .int (nI lb)), (5, .int (nI i)), (6, .int (nI (bn false))), (7, .int (nI k))]) X dX9_runs_144 (by decide) rfl ?_
                  refine g_iload X dX9_runs_146 7 rfl ?_
                  refine g_if_eqN (tgt := 165) X dX9_runs_148 (by decide) (bn_lt _) (fun b148 => ?_) (fun b148 => False.elim (b148 rfl))
                  refine g_iload X dX9_runs_165 5 rfl ?_
                  refine g_if_leN (tgt := 195) X dX9_runs_167 (by decide) hlb (fun b167 => ?_) (fun b167 => ?_)
                  · refine g_iinc (v := dI k) (lv' := [(7, .int (dI k)), (8, .int (nI (k * 6 + col))), (0, .ref m), (1, .int (nI col)), (2, .int (nI e)), (3, .int (dI ee)), (4, .int (nI lb)), (5, .int (nI i)), (6, .int (nI (bn false)))]) X dX9_runs_195 8 rfl (dI_dec _) (by decide) rfl ?_
                    refine g_goto (tgt := 133) X dX9_runs_198 (by decide) ?_
                    refine g_sub (k := 0) (n := 0) (ws' := [(m, .inr (9, [.ref mh, .ref mg, .ref mt, .ref mf, .ref ms, .ref msT, .ref msF, .ref mgv, .ref mP, .ref mW, .ref mV, .ref mco, .ref men, .ref mnt, .int tw, .int mse, .int mbr, .int mwk, .int mns, .int mtp, .int mss])), (mh, .inl (ai, 42, .inl Hb)), (mg, .inl (ai, 42, .inl (drC lb Gb (k * 6 + col)))), (mf, .inl (ai, 168, .inl Fm)), (mt, .inl (ai, 42, .inl Tm)), (mP, .inl (az, 42, .inl Pm)), (mW, .inl (az, 168, .inl Wm))]) [0, 1, 2, 3, 4, 5, 6] (by decide) (by unfold drC; rw [if_neg (show ¬ 0 < lb by omega)]; rfl) ?_
                    refine g_lv (lv' := [(7, .int (dI k)), (8, .int (nI (k * 6 + col))), (0, .ref m), (1, .int (nI col)), (2, .int (nI e)), (3, .int (dI ee)), (4, .int (nI (lb - 1))), (5, .int (nI i)), (6, .int (nI (bn false)))]) [0, 1, 2, 3, 4, 5, 6, 7, 8] (by rw [show lb - 1 = lb by omega]; rfl) ?_
                    refine g_lv (lv' := [(0, .ref m), (1, .int (nI col)), (2, .int (nI e)), (3, .int (dI ee)), (4, .int (nI (lb - 1))), (5, .int (nI i)), (6, .int (nI (bn false))), (7, .int (dI k))]) [2, 3, 4, 5, 6, 7, 8, 0] rfl ?_
                    exact ih133 k (lb - 1) Hb (drC lb Gb (k * 6 + col)) (drH lb hq_ (k * 6 + col)) (by omega) (by rw [hwd]; show (if _ then _ else _) = _; rw [if_neg (by decide)]) (by unfold drH; first | (rw [if_pos b167]; exact hHb.add1 (by omega)) | (rw [if_neg (by omega)]; exact hHb)) (by unfold drH; by_cases z : 0 < lb; (rw [if_pos z]; have q := sN_add (f := hq_) (c := k * 6 + col) (k := 1) (n := 42) (by omega); omega); (rw [if_neg z]; omega)) (by omega)
                  · refine g_iinc (v := nI (lb - 1)) (lv' := [(4, .int (nI (lb - 1))), (8, .int (nI (k * 6 + col))), (0, .ref m), (1, .int (nI col)), (2, .int (nI e)), (3, .int (dI ee)), (5, .int (nI i)), (6, .int (nI (bn false))), (7, .int (nI k))]) X dX9_runs_170 5 rfl ((dI_dec _).trans (by obtain ⟨q, rfl⟩ : ∃ q, lb = q + 1 := ⟨lb - 1, by omega⟩; exact dI_s q)) (by decide) rfl ?_
                    refine g_aload_n X dX9_runs_173 rfl 2 rfl ?_
                    refine g_getf (T := TX9) (v := .ref mh) X dX9_runs_174 0 rfl rfl in_X9_runs_X9 0 (by decide) (by decide +kernel) rfl rfl ?_
                    refine g_iload X dX9_runs_177 1 rfl ?_
                    refine g_dup2 X dX9_runs_179 rfl rfl ?_
                    refine g_ialdN (v := (Hb (k * 6 + col))) X dX9_runs_180 1 0 rfl rfl (by omega) (by omega) (rfl) ?_
                    refine g_iconst (v := nI 1) X dX9_runs_181 (by decide) ?_
                    refine g_iadd (v := ((Hb (k * 6 + col)) + nI 1)) X dX9_runs_182 (rfl) ?_
                    refine g_iastN (g' := upd Hb (k * 6 + col) ((Hb (k * 6 + col)) + nI 1)) (ws' := [(m, .inr (9, [.ref mh, .ref mg, .ref mt, .ref mf, .ref ms, .ref msT, .ref msF, .ref mgv, .ref mP, .ref mW, .ref mV, .ref mco, .ref men, .ref mnt, .int tw, .int mse, .int mbr, .int mwk, .int mns, .int mtp, .int mss])), (mh, .inl (ai, 42, .inl (upd Hb (k * 6 + col) ((Hb (k * 6 + col)) + nI 1)))), (mg, .inl (ai, 42, .inl Gb)), (mf, .inl (ai, 168, .inl Fm)), (mt, .inl (ai, 42, .inl Tm)), (mP, .inl (az, 42, .inl Pm)), (mW, .inl (az, 168, .inl Wm))]) X dX9_runs_183 1 0 rfl rfl (by omega) (by omega) (rfl) rfl ?_
                    refine g_aload_n X dX9_runs_184 rfl 2 rfl ?_
                    refine g_getf (T := TX9) (v := .ref mg) X dX9_runs_185 0 rfl rfl in_X9_runs_X9 1 (by decide) (by decide +kernel) rfl rfl ?_
                    refine g_iload X dX9_runs_188 1 rfl ?_
                    refine g_dup2 X dX9_runs_190 rfl rfl ?_
                    refine g_ialdN (v := (Gb (k * 6 + col))) X dX9_runs_191 2 0 rfl rfl (by omega) (by omega) (rfl) ?_
                    refine g_iconst (v := nI 1) X dX9_runs_192 (by decide) ?_
                    refine g_iadd (v := ((Gb (k * 6 + col)) + nI 1)) X dX9_runs_193 (rfl) ?_
                    refine g_iastN (g' := upd Gb (k * 6 + col) ((Gb (k * 6 + col)) + nI 1)) (ws' := [(m, .inr (9, [.ref mh, .ref mg, .ref mt, .ref mf, .ref ms, .ref msT, .ref msF, .ref mgv, .ref mP, .ref mW, .ref mV, .ref mco, .ref men, .ref mnt, .int tw, .int mse, .int mbr, .int mwk, .int mns, .int mtp, .int mss])), (mh, .inl (ai, 42, .inl (upd Hb (k * 6 + col) ((Hb (k * 6 + col)) + nI 1)))), (mg, .inl (ai, 42, .inl (upd Gb (k * 6 + col) ((Gb (k * 6 + col)) + nI 1)))), (mf, .inl (ai, 168, .inl Fm)), (mt, .inl (ai, 42, .inl Tm)), (mP, .inl (az, 42, .inl Pm)), (mW, .inl (az, 168, .inl Wm))]) X dX9_runs_194 2 0 rfl rfl (by omega) (by omega) (rfl) rfl ?_
                    refine g_iinc (v := dI k) (lv' := [(7, .int (dI k)), (4, .int (nI (lb - 1))), (8, .int (nI (k * 6 + col))), (0, .ref m), (1, .int (nI col)), (2, .int (nI e)), (3, .int (dI ee)), (5, .int (nI i)), (6, .int (nI (bn false)))]) X dX9_runs_195 8 rfl (dI_dec _) (by decide) rfl ?_
                    refine g_goto (tgt := 133) X dX9_runs_198 (by decide) ?_
                    refine g_sub (k := 0) (n := 0) (ws' := [(m, .inr (9, [.ref mh, .ref mg, .ref mt, .ref mf, .ref ms, .ref msT, .ref msF, .ref mgv, .ref mP, .ref mW, .ref mV, .ref mco, .ref men, .ref mnt, .int tw, .int mse, .int mbr, .int mwk, .int mns, .int mtp, .int mss])), (mh, .inl (ai, 42, .inl (upd Hb (k * 6 + col) ((Hb (k * 6 + col)) + nI 1)))), (mg, .inl (ai, 42, .inl (drC lb Gb (k * 6 + col)))), (mf, .inl (ai, 168, .inl Fm)), (mt, .inl (ai, 42, .inl Tm)), (mP, .inl (az, 42, .inl Pm)), (mW, .inl (az, 168, .inl Wm))]) [0, 1, 2, 3, 4, 5, 6] (by decide) (by unfold drC; rw [if_pos b167]; rfl) ?_
                    refine g_lv (lv' := [(0, .ref m), (1, .int (nI col)), (2, .int (nI e)), (3, .int (dI ee)), (4, .int (nI (lb - 1))), (5, .int (nI i)), (6, .int (nI (bn false))), (7, .int (dI k))]) [3, 4, 5, 6, 1, 7, 8, 0] rfl ?_
                    exact ih133 k (lb - 1) (upd Hb (k * 6 + col) ((Hb (k * 6 + col)) + nI 1)) (drC lb Gb (k * 6 + col)) (drH lb hq_ (k * 6 + col)) (by omega) (by rw [hwd]; show (if _ then _ else _) = _; rw [if_neg (by decide)]) (by unfold drH; first | (rw [if_pos b167]; exact hHb.add1 (by omega)) | (rw [if_neg (by omega)]; exact hHb)) (by unfold drH; by_cases z : 0 < lb; (rw [if_pos z]; have q := sN_add (f := hq_) (c := k * 6 + col) (k := 1) (n := 42) (by omega); omega); (rw [if_neg z]; omega)) (by omega)
            refine g_lv (lv' := [(0, .ref m), (1, .int (nI col)), (2, .int (nI e)), (3, .int (dI ee)), (4, .int (nI ld)), (5, .int (nI i)), (6, .int (nI 0)), (7, .int (dI i))]) [2, 3, 4, 5, 6, 7, 1, 0] rfl ?_
            exact L133 9 i ld Ha Ga hh (by omega) (rfl) (hHa) (hsm) (by omega)
          · have hE : hh (i * 6 + col) + 1 < ee := (dI_le hee hx31).mp (Int32.not_le.mp b41)
            refine g_iload_n X dX9_runs_44 rfl 1 rfl ?_
            refine g_iload X dX9_runs_45 5 rfl ?_
            refine g_callSi (As := [.int (nI col), .int (nI i)]) (rest := []) (wr := [(m, .inr (9, [.ref mh, .ref mg, .ref mt, .ref mf, .ref ms, .ref msT, .ref msF, .ref mgv, .ref mP, .ref mW, .ref mV, .ref mco, .ref men, .ref mnt, .int tw, .int mse, .int mbr, .int mwk, .int mns, .int mtp, .int mss])), (mh, .inl (ai, 42, .inl Ha)), (mg, .inl (ai, 42, .inl Ga)), (mf, .inl (ai, 168, .inl Fm)), (mt, .inl (ai, 42, .inl Tm)), (mP, .inl (az, 42, .inl Pm)), (mW, .inl (az, 168, .inl Wm))]) X dX9_runs_47 (c_X9_at l D ai az al col i ) gX9_runs_X9_at rfl rfl ok_X9_at rfl rfl (by decide) ⟨by decide, by decide⟩ (Nat.le_of_ble_eq_true rfl) [] [0, 1, 2, 3, 4, 5, 6] ⟨rfl, by decide, rfl, by decide, by decide⟩ (fun r20 u hp => ?_)
            obtain rfl := hp
            refine g_sub (k := 0) (n := 0) (ws' := [(m, .inr (9, [.ref mh, .ref mg, .ref mt, .ref mf, .ref ms, .ref msT, .ref msF, .ref mgv, .ref mP, .ref mW, .ref mV, .ref mco, .ref men, .ref mnt, .int tw, .int mse, .int mbr, .int mwk, .int mns, .int mtp, .int mss])), (mh, .inl (ai, 42, .inl Ha)), (mg, .inl (ai, 42, .inl Ga)), (mf, .inl (ai, 168, .inl Fm)), (mt, .inl (ai, 42, .inl Tm)), (mP, .inl (az, 42, .inl Pm)), (mW, .inl (az, 168, .inl Wm))]) [0, 1, 2, 3, 4, 5, 6] (by decide) rfl ?_
            refine g_istore (lv' := [(6, .int (nI (i * 6 + col))), (0, .ref m), (1, .int (nI col)), (2, .int (nI e)), (3, .int (dI ee)), (4, .int (nI ld)), (5, .int (nI i))]) X dX9_runs_50 (by decide) rfl ?_
            refine g_iload_n X dX9_runs_52 rfl 4 rfl ?_
            refine g_iconst (v := nI 1) X dX9_runs_53 (by decide) ?_
            refine g_aload_n X dX9_runs_54 rfl 1 rfl ?_
            refine g_getf (T := TX9) (v := .ref mh) X dX9_runs_55 0 rfl rfl in_X9_runs_X9 0 (by decide) (by decide +kernel) rfl rfl ?_
            refine g_iload X dX9_runs_58 0 rfl ?_
            refine g_ialdN (v := nI (hh (i * 6 + col))) X dX9_runs_60 1 0 rfl rfl (by omega) (by omega) (hHa (i * 6 + col) (by omega)) ?_
            refine g_iconst (v := nI 4) X dX9_runs_61 (by decide) ?_
            refine g_idiv (v := nI ((hh (i * 6 + col)) / 4)) X dX9_runs_62 (by decide) (pk_div (by omega) (by omega) (by omega)) ?_
            refine g_iadd (v := nI (1 + ((hh (i * 6 + col)) / 4))) X dX9_runs_63 (nI_add _ _) ?_
            refine g_aload_n X dX9_runs_64 rfl 1 rfl ?_
            refine g_getf (T := TX9) (v := .ref mP) X dX9_runs_65 0 rfl rfl in_X9_runs_X9 8 (by decide) (by decide +kernel) rfl rfl ?_
            refine g_iload X dX9_runs_68 0 rfl ?_
            refine g_zaldN (v := (Pm (i * 6 + col))) X dX9_runs_70 5 1 rfl rfl (by omega) (by omega) (rfl) ?_
            refine g_if_eq (tgt := 78) X dX9_runs_71 (by decide) (fun b71 => ?_) (fun b71 => ?_)
            · have hbp : bn (pl (i * 6 + col)) = 0 := by rw [(hP.z (c := (i * 6 + col)) (by omega)).mp b71]; rfl
              refine g_iconst (v := nI 0) X dX9_runs_78 (by decide) ?_
              refine g_iadd (v := nI ((1 + ((hh (i * 6 + col)) / 4)) + 0)) X dX9_runs_79 (nI_add _ _) ?_
              refine g_isub (v := (dI (ee - 1 - hh (i * 6 + col) / 4 - bn (pl (i * 6 + col))))) X dX9_runs_80 ((dI_subd (by omega) (by omega)).trans (by congr 1; omega)) ?_
              refine g_istore_n (lv' := [(3, .int (dI (ee - 1 - hh (i * 6 + col) / 4 - bn (pl (i * 6 + col))))), (6, .int (nI (i * 6 + col))), (0, .ref m), (1, .int (nI col)), (2, .int (nI e)), (4, .int (nI ld)), (5, .int (nI i))]) X dX9_runs_81 rfl (by decide) rfl ?_
              refine g_iload X dX9_runs_82 5 rfl ?_
              refine g_aload_n X dX9_runs_84 rfl 2 rfl ?_
              refine g_iload X dX9_runs_85 1 rfl ?_
              refine g_callVi (C := RX9) (As := [.int (nI (i * 6 + col))]) (rest := [.int (nI ld)]) (wr := [(mf, .inl (ai, 168, .inl Fm)), (mt, .inl (ai, 42, .inl Tm)), (mW, .inl (az, 168, .inl Wm))]) X dX9_runs_87 (c_X9_takes l D ai az al m mh mg mt mf ms msT msF mgv mP mW mV mco men mnt tw mse mbr mwk mns mtp mss Ha Ga Pm pl hh (i * 6 + col) (by omega) (hP) (hHa) (hx31)) gX9_runs_X9_takes rfl rfl ok_X9_takes rfl rfl (by decide) ⟨by decide, by decide⟩ (Nat.le_of_ble_eq_true rfl) [0, 1, 2, 5] [3, 4, 6] ⟨rfl, by decide, rfl, by decide, by decide⟩ 0 rfl rfl rfl (fun r23 u hp => ?_)
              obtain ⟨G221, H222⟩ := u
              try dsimp only at hp
              obtain ⟨rfl, rfl, hH5⟩ := hp
              refine g_sub (k := 0) (n := 0) (ws' := [(m, .inr (9, [.ref mh, .ref mg, .ref mt, .ref mf, .ref ms, .ref msT, .ref msF, .ref mgv, .ref mP, .ref mW, .ref mV, .ref mco, .ref men, .ref mnt, .int tw, .int mse, .int mbr, .int mwk, .int mns, .int mtp, .int mss])), (mh, .inl (ai, 42, .inl H222)), (mg, .inl (ai, 42, .inl (tkC pl hh Ga (i * 6 + col)))), (mf, .inl (ai, 168, .inl Fm)), (mt, .inl (ai, 42, .inl Tm)), (mP, .inl (az, 42, .inl Pm)), (mW, .inl (az, 168, .inl Wm))]) [3, 4, 5, 0, 1, 6, 2] (by decide) rfl ?_
              refine g_iadd (v := nI (ld + (tk pl hh (i * 6 + col)))) X dX9_runs_90 (nI_add _ _) ?_
              refine g_istore (lv' := [(4, .int (nI (ld + (tk pl hh (i * 6 + col))))), (3, .int (dI (ee - 1 - hh (i * 6 + col) / 4 - bn (pl (i * 6 + col))))), (6, .int (nI (i * 6 + col))), (0, .ref m), (1, .int (nI col)), (2, .int (nI e)), (5, .int (nI i))]) X dX9_runs_91 (by decide) rfl ?_
              refine g_iinc (v := nI (i + 1)) (lv' := [(5, .int (nI (i + 1))), (4, .int (nI (ld + (tk pl hh (i * 6 + col))))), (3, .int (dI (ee - 1 - hh (i * 6 + col) / 4 - bn (pl (i * 6 + col))))), (6, .int (nI (i * 6 + col))), (0, .ref m), (1, .int (nI col)), (2, .int (nI e))]) X dX9_runs_93 6 rfl (nI_inc _) (by decide) rfl ?_
              refine g_goto (tgt := 8) X dX9_runs_96 (by decide) ?_
              refine g_lv (lv' := [(0, .ref m), (1, .int (nI col)), (2, .int (nI e)), (3, .int (dI (ee - 1 - hh (i * 6 + col) / 4 - bn (pl (i * 6 + col))))), (4, .int (nI (ld + (tk pl hh (i * 6 + col))))), (5, .int (nI (i + 1)))]) [4, 5, 6, 2, 1, 0] rfl ?_
              exact ih8 (i + 1) m9 (ee - 1 - hh (i * 6 + col) / 4 - bn (pl (i * 6 + col))) (ld + (tk pl hh (i * 6 + col))) H222 (tkC pl hh Ga (i * 6 + col)) (tkH pl hh (i * 6 + col)) (by omega) (by rw [hw]; show (if _ then _ else _) = _; rw [if_neg hop, if_neg (by omega)]) (hH5) (by have q := tk_sum (pl := pl) (h := hh) (c := i * 6 + col) (by omega); omega) (by omega) (by omega)
            · have hbp : bn (pl (i * 6 + col)) = 1 := by rw [hP.n (c := (i * 6 + col)) (by omega) b71]; rfl
              refine g_iconst (v := nI 1) X dX9_runs_74 (by decide) ?_
              refine g_goto (tgt := 79) X dX9_runs_75 (by decide) ?_
              refine g_iadd (v := nI ((1 + ((hh (i * 6 + col)) / 4)) + 1)) X dX9_runs_79 (nI_add _ _) ?_
              refine g_isub (v := (dI (ee - 1 - hh (i * 6 + col) / 4 - bn (pl (i * 6 + col))))) X dX9_runs_80 ((dI_subd (by omega) (by omega)).trans (by congr 1; omega)) ?_
              refine g_istore_n (lv' := [(3, .int (dI (ee - 1 - hh (i * 6 + col) / 4 - bn (pl (i * 6 + col))))), (6, .int (nI (i * 6 + col))), (0, .ref m), (1, .int (nI col)), (2, .int (nI e)), (4, .int (nI ld)), (5, .int (nI i))]) X dX9_runs_81 rfl (by decide) rfl ?_
              refine g_iload X dX9_runs_82 5 rfl ?_
              refine g_aload_n X dX9_runs_84 rfl 2 rfl ?_
              refine g_iload X dX9_runs_85 1 rfl ?_
              refine g_callVi (C := RX9) (As := [.int (nI (i * 6 + col))]) (rest := [.int (nI ld)]) (wr := [(mf, .inl (ai, 168, .inl Fm)), (mt, .inl (ai, 42, .inl Tm)), (mW, .inl (az, 168, .inl Wm))]) X dX9_runs_87 (c_X9_takes l D ai az al m mh mg mt mf ms msT msF mgv mP mW mV mco men mnt tw mse mbr mwk mns mtp mss Ha Ga Pm pl hh (i * 6 + col) (by omega) (hP) (hHa) (hx31)) gX9_runs_X9_takes rfl rfl ok_X9_takes rfl rfl (by decide) ⟨by decide, by decide⟩ (Nat.le_of_ble_eq_true rfl) [0, 1, 2, 5] [3, 4, 6] ⟨rfl, by decide, rfl, by decide, by decide⟩ 0 rfl rfl rfl (fun r26 u hp => ?_)
              obtain ⟨G224, H225⟩ := u
              try dsimp only at hp
              obtain ⟨rfl, rfl, hH5⟩ := hp
              refine g_sub (k := 0) (n := 0) (ws' := [(m, .inr (9, [.ref mh, .ref mg, .ref mt, .ref mf, .ref ms, .ref msT, .ref msF, .ref mgv, .ref mP, .ref mW, .ref mV, .ref mco, .ref men, .ref mnt, .int tw, .int mse, .int mbr, .int mwk, .int mns, .int mtp, .int mss])), (mh, .inl (ai, 42, .inl H225)), (mg, .inl (ai, 42, .inl (tkC pl hh Ga (i * 6 + col)))), (mf, .inl (ai, 168, .inl Fm)), (mt, .inl (ai, 42, .inl Tm)), (mP, .inl (az, 42, .inl Pm)), (mW, .inl (az, 168, .inl Wm))]) [3, 4, 5, 0, 1, 6, 2] (by decide) rfl ?_
              refine g_iadd (v := nI (ld + (tk pl hh (i * 6 + col)))) X dX9_runs_90 (nI_add _ _) ?_
              refine g_istore (lv' := [(4, .int (nI (ld + (tk pl hh (i * 6 + col))))), (3, .int (dI (ee - 1 - hh (i * 6 + col) / 4 - bn (pl (i * 6 + col))))), (6, .int (nI (i * 6 + col))), (0, .ref m), (1, .int (nI col)), (2, .int (nI e)), (5, .int (nI i))]) X dX9_runs_91 (by decide) rfl ?_
              refine g_iinc (v := nI (i + 1)) (lv' := [(5, .int (nI (i + 1))), (4, .int (nI (ld + (tk pl hh (i * 6 + col))))), (3, .int (dI (ee - 1 - hh (i * 6 + col) / 4 - bn (pl (i * 6 + col))))), (6, .int (nI (i * 6 + col))), (0, .ref m), (1, .int (nI col)), (2, .int (nI e))]) X dX9_runs_93 6 rfl (nI_inc _) (by decide) rfl ?_
              refine g_goto (tgt := 8) X dX9_runs_96 (by decide) ?_
              refine g_lv (lv' := [(0, .ref m), (1, .int (nI col)), (2, .int (nI e)), (3, .int (dI (ee - 1 - hh (i * 6 + col) / 4 - bn (pl (i * 6 + col))))), (4, .int (nI (ld + (tk pl hh (i * 6 + col))))), (5, .int (nI (i + 1)))]) [4, 5, 6, 2, 1, 0] rfl ?_
              exact ih8 (i + 1) m9 (ee - 1 - hh (i * 6 + col) / 4 - bn (pl (i * 6 + col))) (ld + (tk pl hh (i * 6 + col))) H225 (tkC pl hh Ga (i * 6 + col)) (tkH pl hh (i * 6 + col)) (by omega) (by rw [hw]; show (if _ then _ else _) = _; rw [if_neg hop, if_neg (by omega)]) (hH5) (by have q := tk_sum (pl := pl) (h := hh) (c := i * 6 + col) (by omega); omega) (by omega) (by omega)
  refine g_lv (lv' := [(0, .ref m), (1, .int (nI col)), (2, .int (nI e)), (3, .int (dI (e + 1))), (4, .int (nI 0)), (5, .int (nI 0))]) [3, 4, 5, 2, 1, 0] rfl ?_
  exact L8 8 0 7 (e + 1) 0 Hm Gm h (rfl) (rfl) (hH) (rfl) (by omega) (by decide)
