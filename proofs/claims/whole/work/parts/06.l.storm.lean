/-! the wind of the model goes up the cells -/
def wHa (gv : Nat → Bool) (h : Nat → Nat) (i : Nat) : Nat → Nat := fun c => h c - (if c < i then bn (gv c) else 0) + (if 6 ≤ c ∧ c - 6 < i then bn (gv (c - 6)) else 0)
def wDa (gv : Nat → Bool) (i : Nat) : Nat → Int32 := fun c => (if 6 ≤ c ∧ c - 6 < i then nI (bn (gv (c - 6))) else 0) - (if c < i then nI (bn (gv c)) else 0)
theorem wHa_0 {gv : Nat → Bool} {h : Nat → Nat} : ∀ c, wHa gv h 0 c = h c := fun c => by
  unfold wHa
  rw [if_neg (by omega), if_neg (by omega)]; rfl
theorem wDa_0 {gv : Nat → Bool} : ∀ c, wDa gv 0 c = 0 := fun c => by
  unfold wDa
  rw [if_neg (by omega), if_neg (by omega)]; rfl
theorem wHa_e {gv : Nat → Bool} {h : Nat → Nat} : ∀ c, c < 42 → wHa gv h 42 c = wH gv h 0 c := fun c hc => by
  unfold wHa wH
  rw [if_pos hc, if_pos (Nat.zero_le c)]
  by_cases z : 6 ≤ c
  · rw [if_pos (⟨z, by omega⟩ : 6 ≤ c ∧ c - 6 < 42), if_pos (⟨z, Nat.zero_le _⟩ : 6 ≤ c ∧ 0 ≤ c - 6)]
  · rw [if_neg (fun q : 6 ≤ c ∧ c - 6 < 42 => z q.1), if_neg (fun q : 6 ≤ c ∧ 0 ≤ c - 6 => z q.1)]
theorem wDa_e {gv : Nat → Bool} : ∀ c, c < 42 → wDa gv 42 c = wD gv 0 c := fun c hc => by
  unfold wDa wD
  rw [if_pos hc, if_pos (Nat.zero_le c)]
  by_cases z : 6 ≤ c
  · rw [if_pos (⟨z, by omega⟩ : 6 ≤ c ∧ c - 6 < 42), if_pos (⟨z, Nat.zero_le _⟩ : 6 ≤ c ∧ 0 ≤ c - 6)]
  · rw [if_neg (fun q : 6 ≤ c ∧ c - 6 < 42 => z q.1), if_neg (fun q : 6 ≤ c ∧ 0 ≤ c - 6 => z q.1)]
theorem wHa_o {gv : Nat → Bool} {h : Nat → Nat} {j c : Nat} (n1 : c ≠ j) (n2 : c ≠ j + 6) : wHa gv h (j + 1) c = wHa gv h j c := by
  unfold wHa
  congr 1
  · congr 1
    by_cases z : c < j
    · rw [if_pos z, if_pos (show c < j + 1 by omega)]
    · rw [if_neg z, if_neg (show ¬ c < j + 1 by omega)]
  · by_cases z : 6 ≤ c ∧ c - 6 < j
    · rw [if_pos z, if_pos (show 6 ≤ c ∧ c - 6 < j + 1 by omega)]
    · rw [if_neg z, if_neg (show ¬ (6 ≤ c ∧ c - 6 < j + 1) by omega)]
theorem wDa_o {gv : Nat → Bool} {j c : Nat} (n1 : c ≠ j) (n2 : c ≠ j + 6) : wDa gv (j + 1) c = wDa gv j c := by
  unfold wDa
  congr 1
  · by_cases z : 6 ≤ c ∧ c - 6 < j
    · rw [if_pos z, if_pos (show 6 ≤ c ∧ c - 6 < j + 1 by omega)]
    · rw [if_neg z, if_neg (show ¬ (6 ≤ c ∧ c - 6 < j + 1) by omega)]
  · by_cases z : c < j
    · rw [if_pos z, if_pos (show c < j + 1 by omega)]
    · rw [if_neg z, if_neg (show ¬ c < j + 1 by omega)]
theorem wHa_n {gv : Nat → Bool} {h : Nat → Nat} {j : Nat} (hg : gv j = false) : ∀ c, wHa gv h (j + 1) c = wHa gv h j c := fun c => by
  by_cases n1 : c = j
  · subst n1
    unfold wHa
    rw [hg, if_pos (show c < c + 1 by omega), if_neg (show ¬ c < c by omega)]
    congr 1
    by_cases z : 6 ≤ c
    · rw [if_pos (show 6 ≤ c ∧ c - 6 < c + 1 by omega), if_pos (show 6 ≤ c ∧ c - 6 < c by omega)]
    · rw [if_neg (show ¬ (6 ≤ c ∧ c - 6 < c + 1) by omega), if_neg (show ¬ (6 ≤ c ∧ c - 6 < c) by omega)]
  · by_cases n2 : c = j + 6
    · subst n2
      unfold wHa
      rw [if_neg (show ¬ j + 6 < j + 1 by omega), if_neg (show ¬ j + 6 < j by omega), if_pos (show 6 ≤ j + 6 ∧ j + 6 - 6 < j + 1 by omega), if_neg (show ¬ (6 ≤ j + 6 ∧ j + 6 - 6 < j) by omega), Nat.add_sub_cancel, hg]; rfl
    · exact wHa_o n1 n2
theorem wDa_n {gv : Nat → Bool} {j : Nat} (hg : gv j = false) : ∀ c, wDa gv (j + 1) c = wDa gv j c := fun c => by
  by_cases n1 : c = j
  · subst n1
    unfold wDa
    rw [hg, if_pos (show c < c + 1 by omega), if_neg (show ¬ c < c by omega)]
    congr 1
    by_cases z : 6 ≤ c
    · rw [if_pos (show 6 ≤ c ∧ c - 6 < c + 1 by omega), if_pos (show 6 ≤ c ∧ c - 6 < c by omega)]
    · rw [if_neg (show ¬ (6 ≤ c ∧ c - 6 < c + 1) by omega), if_neg (show ¬ (6 ≤ c ∧ c - 6 < c) by omega)]
  · by_cases n2 : c = j + 6
    · subst n2
      unfold wDa
      rw [if_neg (show ¬ j + 6 < j + 1 by omega), if_neg (show ¬ j + 6 < j by omega), if_pos (show 6 ≤ j + 6 ∧ j + 6 - 6 < j + 1 by omega), if_neg (show ¬ (6 ≤ j + 6 ∧ j + 6 - 6 < j) by omega), Nat.add_sub_cancel, hg]; rfl
    · exact wDa_o n1 n2
theorem wHa_step {gv : Nat → Bool} {h : Nat → Nat} {j : Nat} {Ha : Nat → Int32} (hj6 : j + 6 < 42) (hg : gv j = true) (hp : 0 < h j) (hHa : HOK Ha (wHa gv h j)) : HOK (upd (upd Ha j (Ha j - nI 1)) (j + 6) (upd Ha j (Ha j - nI 1) (j + 6) + nI 1)) (wHa gv h (j + 1)) := by
  intro c hc
  by_cases n2 : c = j + 6
  · subst n2
    rw [upd_at, upd_ne (by omega), hHa _ hc, nI_add]
    congr 1
    unfold wHa
    rw [if_neg (show ¬ j + 6 < j + 1 by omega), if_neg (show ¬ j + 6 < j by omega), if_pos (show 6 ≤ j + 6 ∧ j + 6 - 6 < j + 1 by omega), if_neg (show ¬ (6 ≤ j + 6 ∧ j + 6 - 6 < j) by omega), Nat.add_sub_cancel, hg]; rfl
  · rw [upd_ne n2]
    by_cases n1 : c = j
    · subst n1
      have e1 : wHa gv h (c + 1) c + 1 = wHa gv h c c := by
        unfold wHa
        rw [hg, if_pos (show c < c + 1 by omega), if_neg (show ¬ c < c by omega)]
        have e : bn true = 1 := rfl
        by_cases z : 6 ≤ c
        · rw [if_pos (show 6 ≤ c ∧ c - 6 < c + 1 by omega), if_pos (show 6 ≤ c ∧ c - 6 < c by omega)]; omega
        · rw [if_neg (show ¬ (6 ≤ c ∧ c - 6 < c + 1) by omega), if_neg (show ¬ (6 ≤ c ∧ c - 6 < c) by omega)]; omega
      rw [upd_at, hHa c hc, pk_sub (by omega), ← e1]; rfl
    · rw [upd_ne n1, hHa c hc, wHa_o n1 n2]
theorem wDa_step {gv : Nat → Bool} {C Ca : Nat → Int32} {j : Nat} (hj6 : j + 6 < 42) (hg : gv j = true) (hC : ∀ c, c < 42 → Ca c = C c + wDa gv j c) : ∀ c, c < 42 → upd (upd Ca j (Ca j - nI 1)) (j + 6) (upd Ca j (Ca j - nI 1) (j + 6) + nI 1) c = C c + wDa gv (j + 1) c := by
  intro c hc
  by_cases n2 : c = j + 6
  · subst n2
    rw [upd_at, upd_ne (by omega), hC _ hc]
    have e1 : wDa gv j (j + 6) = 0 := by
      unfold wDa
      rw [if_neg (show ¬ j + 6 < j by omega), if_neg (show ¬ (6 ≤ j + 6 ∧ j + 6 - 6 < j) by omega)]; rfl
    have e2 : wDa gv (j + 1) (j + 6) = nI 1 := by
      unfold wDa
      rw [if_neg (show ¬ j + 6 < j + 1 by omega), if_pos (show 6 ≤ j + 6 ∧ j + 6 - 6 < j + 1 by omega), Nat.add_sub_cancel, hg]; rfl
    rw [e1, e2, Int32.add_zero]
  · rw [upd_ne n2]
    by_cases n1 : c = j
    · subst n1
      have e1 : wDa gv (c + 1) c = wDa gv c c - nI 1 := by
        unfold wDa
        rw [hg, if_pos (show c < c + 1 by omega), if_neg (show ¬ c < c by omega), Int32.sub_zero]
        have e : nI (bn true) = nI 1 := rfl
        by_cases z : 6 ≤ c
        · rw [if_pos (show 6 ≤ c ∧ c - 6 < c + 1 by omega), if_pos (show 6 ≤ c ∧ c - 6 < c by omega), e]
        · rw [if_neg (show ¬ (6 ≤ c ∧ c - 6 < c + 1) by omega), if_neg (show ¬ (6 ≤ c ∧ c - 6 < c) by omega), e]
      rw [upd_at, hC c hc, e1, Int32.sub_eq_add_neg, Int32.sub_eq_add_neg, Int32.add_assoc]
    · rw [upd_ne n1, hC c hc, wDa_o n1 n2]
theorem ok_X9_wave : okName yX9_wave 2 := by decide +kernel
theorem in_X9_wave_X9 : ∀ w ∈ u_ws RX9 TX9 21, w ∈ wsX9_wave := by decide +kernel
set_option maxRecDepth 100000 in
set_option maxHeartbeats 4000000 in
theorem c_X9_wave1 (l : Launch) (D : va_G) (ai az al : ClassId) (m : Nat) (mh : Nat) (mg : Nat) (mt : Nat) (mf : Nat) (ms : Nat) (msT : Nat) (msF : Nat) (mgv : Nat) (mP : Nat) (mW : Nat) (mV : Nat) (mco : Nat) (men : Nat) (mnt : Nat) (tw : Int32) (mse : Int32) (mbr : Int32) (mwk : Int32) (mns : Int32) (mtp : Int32) (mss : Int32) (p0 : Int32) (p1 : Int32) (hq : ¬ inN p0 0 5) : CI l D (tY ai az al) yX9_wave wsX9_wave { frames := 2, cells := 0, slots := 0, locals := 42 } [.ref m, .int p0, .int p1] [(m, .inr (9, [.ref mh, .ref mg, .ref mt, .ref mf, .ref ms, .ref msT, .ref msF, .ref mgv, .ref mP, .ref mW, .ref mV, .ref mco, .ref men, .ref mnt, .int tw, .int mse, .int mbr, .int mwk, .int mns, .int mtp, .int mss]))] (fun (r : Int32) (u : Unit) => r = nI 0) (fun (u : Unit) => [(m, .inr (9, [.ref mh, .ref mg, .ref mt, .ref mf, .ref ms, .ref msT, .ref msF, .ref mgv, .ref mP, .ref mW, .ref mV, .ref mco, .ref men, .ref mnt, .int (nI 1), .int mse, .int mbr, .int mwk, .int mns, .int mtp, .int mss]))]) := by
  refine ofG_I (cc := cX9_wave) (nL := 3) (lv0 := [(0, .ref m), (1, .int p0), (2, .int p1)]) (by decide) rfl (Nat.le_of_ble_eq_true rfl) rfl ?_
  intro Γ X E
  refine g_aload_n X dX9_wave_0 rfl 0 rfl ?_
  refine g_iload_n X dX9_wave_1 rfl 1 rfl ?_
  refine g_callSi (As := [.int p0]) (rest := [.ref m]) (wr := [(m, .inr (9, [.ref mh, .ref mg, .ref mt, .ref mf, .ref ms, .ref msT, .ref msF, .ref mgv, .ref mP, .ref mW, .ref mV, .ref mco, .ref men, .ref mnt, .int tw, .int mse, .int mbr, .int mwk, .int mns, .int mtp, .int mss]))]) X dX9_wave_2 (c_X9_isColumnF l D ai az al p0 (hq)) gX9_wave_X9_isColumn rfl rfl ok_X9_isColumn rfl rfl (by decide) ⟨by decide, by decide⟩ (Nat.le_of_ble_eq_true rfl) [] [0] ⟨rfl, by decide, rfl, by decide, by decide⟩ (fun r1 u hp => ?_)
  obtain rfl := hp
  refine g_sub (k := 0) (n := 0) (ws' := [(m, .inr (9, [.ref mh, .ref mg, .ref mt, .ref mf, .ref ms, .ref msT, .ref msF, .ref mgv, .ref mP, .ref mW, .ref mV, .ref mco, .ref men, .ref mnt, .int tw, .int mse, .int mbr, .int mwk, .int mns, .int mtp, .int mss]))]) [0] (by decide) rfl ?_
  refine g_if_neN (tgt := 12) X dX9_wave_5 (by decide) (by decide) (fun b5x => False.elim (by revert b5x; decide)) (fun b5x => ?_)
  refine g_iconst (v := nI 1) X dX9_wave_8 (by decide) ?_
  refine g_goto (tgt := 27) X dX9_wave_9 (by decide) ?_
  refine g_putf (T := TX9) (v := .int (nI 1)) (ty := tyX9 14) (ws' := [(m, .inr (9, [.ref mh, .ref mg, .ref mt, .ref mf, .ref ms, .ref msT, .ref msF, .ref mgv, .ref mP, .ref mW, .ref mV, .ref mco, .ref men, .ref mnt, .int (nI 1), .int mse, .int mbr, .int mwk, .int mns, .int mtp, .int mss]))]) X dX9_wave_27 0 rfl rfl in_X9_wave_X9 tyX9 tyX9_ok nmX9 14 (by decide) (by decide +kernel) rfl rfl (by decide +kernel) rfl rfl (Nat.le_of_ble_eq_true rfl) rfl ?_
  refine g_aload_n X dX9_wave_30 rfl 0 rfl ?_
  refine g_getf (T := TX9) (v := .int (nI 1)) X dX9_wave_31 0 rfl rfl in_X9_wave_X9 14 (by decide) (by decide +kernel) rfl rfl ?_
  refine g_if_leN (tgt := 41) X dX9_wave_34 (by decide) (by decide) (fun b34x => False.elim (by revert b34x; decide)) (fun b34x => ?_)
  refine g_iconst (v := nI 0) X dX9_wave_37 (by decide) ?_
  refine g_goto (tgt := 47) X dX9_wave_38 (by decide) ?_
  exact g_iret X E dX9_wave_47 () rfl (by decide) (by decide) (rfl)

set_option maxRecDepth 100000 in
set_option maxHeartbeats 4000000 in
theorem c_X9_wave2 (l : Launch) (D : va_G) (ai az al : ClassId) (m : Nat) (mh : Nat) (mg : Nat) (mt : Nat) (mf : Nat) (ms : Nat) (msT : Nat) (msF : Nat) (mgv : Nat) (mP : Nat) (mW : Nat) (mV : Nat) (mco : Nat) (men : Nat) (mnt : Nat) (tw : Int32) (mse : Int32) (mbr : Int32) (mwk : Int32) (mns : Int32) (mtp : Int32) (mss : Int32) (p0 : Int32) (p1 : Int32) (hq : inN p0 0 5) (hq2 : ¬ inN p1 1 60) : CI l D (tY ai az al) yX9_wave wsX9_wave { frames := 2, cells := 0, slots := 0, locals := 42 } [.ref m, .int p0, .int p1] [(m, .inr (9, [.ref mh, .ref mg, .ref mt, .ref mf, .ref ms, .ref msT, .ref msF, .ref mgv, .ref mP, .ref mW, .ref mV, .ref mco, .ref men, .ref mnt, .int tw, .int mse, .int mbr, .int mwk, .int mns, .int mtp, .int mss]))] (fun (r : Int32) (u : Unit) => r = nI 0) (fun (u : Unit) => [(m, .inr (9, [.ref mh, .ref mg, .ref mt, .ref mf, .ref ms, .ref msT, .ref msF, .ref mgv, .ref mP, .ref mW, .ref mV, .ref mco, .ref men, .ref mnt, .int (nI 2), .int mse, .int mbr, .int mwk, .int mns, .int mtp, .int mss]))]) := by
  refine ofG_I (cc := cX9_wave) (nL := 3) (lv0 := [(0, .ref m), (1, .int p0), (2, .int p1)]) (by decide) rfl (Nat.le_of_ble_eq_true rfl) rfl ?_
  intro Γ X E
  refine g_aload_n X dX9_wave_0 rfl 0 rfl ?_
  refine g_iload_n X dX9_wave_1 rfl 1 rfl ?_
  refine g_callSi (As := [.int p0]) (rest := [.ref m]) (wr := [(m, .inr (9, [.ref mh, .ref mg, .ref mt, .ref mf, .ref ms, .ref msT, .ref msF, .ref mgv, .ref mP, .ref mW, .ref mV, .ref mco, .ref men, .ref mnt, .int tw, .int mse, .int mbr, .int mwk, .int mns, .int mtp, .int mss]))]) X dX9_wave_2 (c_X9_isColumnT l D ai az al p0 (hq)) gX9_wave_X9_isColumn rfl rfl ok_X9_isColumn rfl rfl (by decide) ⟨by decide, by decide⟩ (Nat.le_of_ble_eq_true rfl) [] [0] ⟨rfl, by decide, rfl, by decide, by decide⟩ (fun r1 u hp => ?_)
  obtain rfl := hp
  refine g_sub (k := 0) (n := 0) (ws' := [(m, .inr (9, [.ref mh, .ref mg, .ref mt, .ref mf, .ref ms, .ref msT, .ref msF, .ref mgv, .ref mP, .ref mW, .ref mV, .ref mco, .ref men, .ref mnt, .int tw, .int mse, .int mbr, .int mwk, .int mns, .int mtp, .int mss]))]) [0] (by decide) rfl ?_
  refine g_if_neN (tgt := 12) X dX9_wave_5 (by decide) (by decide) (fun b5x => ?_) (fun b5x => False.elim (by revert b5x; decide))
  refine g_iload_n X dX9_wave_12 rfl 2 rfl ?_
  refine g_iconst (v := nI 1) X dX9_wave_13 (by decide) ?_
  refine g_bipush (v := nI 60) X dX9_wave_14 (by decide) ?_
  refine g_callSi (As := [.int p1, .int (nI 1), .int (nI 60)]) (rest := [.ref m]) (wr := [(m, .inr (9, [.ref mh, .ref mg, .ref mt, .ref mf, .ref ms, .ref msT, .ref msF, .ref mgv, .ref mP, .ref mW, .ref mV, .ref mco, .ref men, .ref mnt, .int tw, .int mse, .int mbr, .int mwk, .int mns, .int mtp, .int mss]))]) X dX9_wave_16 (c_X9_inF l D ai az al p1 1 60 (by decide) (by decide) (hq2)) gX9_wave_X9_in rfl rfl ok_X9_in rfl rfl (by decide) ⟨by decide, by decide⟩ (Nat.le_of_ble_eq_true rfl) [] [0] ⟨rfl, by decide, rfl, by decide, by decide⟩ (fun r2 u hp => ?_)
  obtain rfl := hp
  refine g_sub (k := 0) (n := 0) (ws' := [(m, .inr (9, [.ref mh, .ref mg, .ref mt, .ref mf, .ref ms, .ref msT, .ref msF, .ref mgv, .ref mP, .ref mW, .ref mV, .ref mco, .ref men, .ref mnt, .int tw, .int mse, .int mbr, .int mwk, .int mns, .int mtp, .int mss]))]) [0] (by decide) rfl ?_
  refine g_if_neN (tgt := 26) X dX9_wave_19 (by decide) (by decide) (fun b19x => False.elim (by revert b19x; decide)) (fun b19x => ?_)
  refine g_iconst (v := nI 2) X dX9_wave_22 (by decide) ?_
  refine g_goto (tgt := 27) X dX9_wave_23 (by decide) ?_
  refine g_putf (T := TX9) (v := .int (nI 2)) (ty := tyX9 14) (ws' := [(m, .inr (9, [.ref mh, .ref mg, .ref mt, .ref mf, .ref ms, .ref msT, .ref msF, .ref mgv, .ref mP, .ref mW, .ref mV, .ref mco, .ref men, .ref mnt, .int (nI 2), .int mse, .int mbr, .int mwk, .int mns, .int mtp, .int mss]))]) X dX9_wave_27 0 rfl rfl in_X9_wave_X9 tyX9 tyX9_ok nmX9 14 (by decide) (by decide +kernel) rfl rfl (by decide +kernel) rfl rfl (Nat.le_of_ble_eq_true rfl) rfl ?_
  refine g_aload_n X dX9_wave_30 rfl 0 rfl ?_
  refine g_getf (T := TX9) (v := .int (nI 2)) X dX9_wave_31 0 rfl rfl in_X9_wave_X9 14 (by decide) (by decide +kernel) rfl rfl ?_
  refine g_if_leN (tgt := 41) X dX9_wave_34 (by decide) (by decide) (fun b34x => False.elim (by revert b34x; decide)) (fun b34x => ?_)
  refine g_iconst (v := nI 0) X dX9_wave_37 (by decide) ?_
  refine g_goto (tgt := 47) X dX9_wave_38 (by decide) ?_
  exact g_iret X E dX9_wave_47 () rfl (by decide) (by decide) (rfl)

theorem ok_X9_addStep : okName yX9_addStep 2 := by decide +kernel
theorem in_X9_addStep_X9 : ∀ w ∈ u_ws RX9 TX9 21, w ∈ wsX9_addStep := by decide +kernel
set_option maxRecDepth 100000 in
set_option maxHeartbeats 4000000 in
theorem c_X9_addStep1 (l : Launch) (D : va_G) (ai az al : ClassId) (m : Nat) (mh : Nat) (mg : Nat) (mt : Nat) (mf : Nat) (ms : Nat) (msT : Nat) (msF : Nat) (mgv : Nat) (mP : Nat) (mW : Nat) (mV : Nat) (mco : Nat) (men : Nat) (mnt : Nat) (tw : Int32) (mse : Int32) (mbr : Int32) (mwk : Int32) (mns : Int32) (mtp : Int32) (mss : Int32) (p0 : Int32) (p1 : Int32) (hq : ¬ inN p0 0 5) : CI l D (tY ai az al) yX9_addStep wsX9_addStep { frames := 2, cells := 0, slots := 0, locals := 42 } [.ref m, .int p0, .int p1] [(m, .inr (9, [.ref mh, .ref mg, .ref mt, .ref mf, .ref ms, .ref msT, .ref msF, .ref mgv, .ref mP, .ref mW, .ref mV, .ref mco, .ref men, .ref mnt, .int tw, .int mse, .int mbr, .int mwk, .int mns, .int mtp, .int mss]))] (fun (r : Int32) (u : Unit) => r = nI 0) (fun (u : Unit) => [(m, .inr (9, [.ref mh, .ref mg, .ref mt, .ref mf, .ref ms, .ref msT, .ref msF, .ref mgv, .ref mP, .ref mW, .ref mV, .ref mco, .ref men, .ref mnt, .int (nI 1), .int mse, .int mbr, .int mwk, .int mns, .int mtp, .int mss]))]) := by
  refine ofG_I (cc := cX9_addStep) (nL := 3) (lv0 := [(0, .ref m), (1, .int p0), (2, .int p1)]) (by decide) rfl (Nat.le_of_ble_eq_true rfl) rfl ?_
  intro Γ X E
  refine g_aload_n X dX9_addStep_0 rfl 0 rfl ?_
  refine g_iload_n X dX9_addStep_1 rfl 1 rfl ?_
  refine g_callSi (As := [.int p0]) (rest := [.ref m]) (wr := [(m, .inr (9, [.ref mh, .ref mg, .ref mt, .ref mf, .ref ms, .ref msT, .ref msF, .ref mgv, .ref mP, .ref mW, .ref mV, .ref mco, .ref men, .ref mnt, .int tw, .int mse, .int mbr, .int mwk, .int mns, .int mtp, .int mss]))]) X dX9_addStep_2 (c_X9_isColumnF l D ai az al p0 (hq)) gX9_addStep_X9_isColumn rfl rfl ok_X9_isColumn rfl rfl (by decide) ⟨by decide, by decide⟩ (Nat.le_of_ble_eq_true rfl) [] [0] ⟨rfl, by decide, rfl, by decide, by decide⟩ (fun r1 u hp => ?_)
  obtain rfl := hp
  refine g_sub (k := 0) (n := 0) (ws' := [(m, .inr (9, [.ref mh, .ref mg, .ref mt, .ref mf, .ref ms, .ref msT, .ref msF, .ref mgv, .ref mP, .ref mW, .ref mV, .ref mco, .ref men, .ref mnt, .int tw, .int mse, .int mbr, .int mwk, .int mns, .int mtp, .int mss]))]) [0] (by decide) rfl ?_
  refine g_if_neN (tgt := 12) X dX9_addStep_5 (by decide) (by decide) (fun b5x => False.elim (by revert b5x; decide)) (fun b5x => ?_)
  refine g_iconst (v := nI 1) X dX9_addStep_8 (by decide) ?_
  refine g_goto (tgt := 40) X dX9_addStep_9 (by decide) ?_
  refine g_putf (T := TX9) (v := .int (nI 1)) (ty := tyX9 14) (ws' := [(m, .inr (9, [.ref mh, .ref mg, .ref mt, .ref mf, .ref ms, .ref msT, .ref msF, .ref mgv, .ref mP, .ref mW, .ref mV, .ref mco, .ref men, .ref mnt, .int (nI 1), .int mse, .int mbr, .int mwk, .int mns, .int mtp, .int mss]))]) X dX9_addStep_40 0 rfl rfl in_X9_addStep_X9 tyX9 tyX9_ok nmX9 14 (by decide) (by decide +kernel) rfl rfl (by decide +kernel) rfl rfl (Nat.le_of_ble_eq_true rfl) rfl ?_
  refine g_aload_n X dX9_addStep_43 rfl 0 rfl ?_
  refine g_getf (T := TX9) (v := .int (nI 1)) X dX9_addStep_44 0 rfl rfl in_X9_addStep_X9 14 (by decide) (by decide +kernel) rfl rfl ?_
  refine g_if_leN (tgt := 52) X dX9_addStep_47 (by decide) (by decide) (fun b47x => False.elim (by revert b47x; decide)) (fun b47x => ?_)
  refine g_iconst (v := nI 0) X dX9_addStep_50 (by decide) ?_
  exact g_iret X E dX9_addStep_51 () rfl (by decide) (by decide) (rfl)

set_option maxRecDepth 100000 in
set_option maxHeartbeats 4000000 in
theorem c_X9_addStep2 (l : Launch) (D : va_G) (ai az al : ClassId) (m : Nat) (mh : Nat) (mg : Nat) (mt : Nat) (mf : Nat) (ms : Nat) (msT : Nat) (msF : Nat) (mgv : Nat) (mP : Nat) (mW : Nat) (mV : Nat) (mco : Nat) (men : Nat) (mnt : Nat) (tw : Int32) (mse : Int32) (mbr : Int32) (mwk : Int32) (mns : Int32) (mtp : Int32) (mss : Int32) (p0 : Int32) (p1 : Int32) (hq : inN p0 0 5) (hq2 : ¬ inN p1 1 60) : CI l D (tY ai az al) yX9_addStep wsX9_addStep { frames := 2, cells := 0, slots := 0, locals := 42 } [.ref m, .int p0, .int p1] [(m, .inr (9, [.ref mh, .ref mg, .ref mt, .ref mf, .ref ms, .ref msT, .ref msF, .ref mgv, .ref mP, .ref mW, .ref mV, .ref mco, .ref men, .ref mnt, .int tw, .int mse, .int mbr, .int mwk, .int mns, .int mtp, .int mss]))] (fun (r : Int32) (u : Unit) => r = nI 0) (fun (u : Unit) => [(m, .inr (9, [.ref mh, .ref mg, .ref mt, .ref mf, .ref ms, .ref msT, .ref msF, .ref mgv, .ref mP, .ref mW, .ref mV, .ref mco, .ref men, .ref mnt, .int (nI 2), .int mse, .int mbr, .int mwk, .int mns, .int mtp, .int mss]))]) := by
  refine ofG_I (cc := cX9_addStep) (nL := 3) (lv0 := [(0, .ref m), (1, .int p0), (2, .int p1)]) (by decide) rfl (Nat.le_of_ble_eq_true rfl) rfl ?_
  intro Γ X E
  refine g_aload_n X dX9_addStep_0 rfl 0 rfl ?_
  refine g_iload_n X dX9_addStep_1 rfl 1 rfl ?_
  refine g_callSi (As := [.int p0]) (rest := [.ref m]) (wr := [(m, .inr (9, [.ref mh, .ref mg, .ref mt, .ref mf, .ref ms, .ref msT, .ref msF, .ref mgv, .ref mP, .ref mW, .ref mV, .ref mco, .ref men, .ref mnt, .int tw, .int mse, .int mbr, .int mwk, .int mns, .int mtp, .int mss]))]) X dX9_addStep_2 (c_X9_isColumnT l D ai az al p0 (hq)) gX9_addStep_X9_isColumn rfl rfl ok_X9_isColumn rfl rfl (by decide) ⟨by decide, by decide⟩ (Nat.le_of_ble_eq_true rfl) [] [0] ⟨rfl, by decide, rfl, by decide, by decide⟩ (fun r1 u hp => ?_)
  obtain rfl := hp
  refine g_sub (k := 0) (n := 0) (ws' := [(m, .inr (9, [.ref mh, .ref mg, .ref mt, .ref mf, .ref ms, .ref msT, .ref msF, .ref mgv, .ref mP, .ref mW, .ref mV, .ref mco, .ref men, .ref mnt, .int tw, .int mse, .int mbr, .int mwk, .int mns, .int mtp, .int mss]))]) [0] (by decide) rfl ?_
  refine g_if_neN (tgt := 12) X dX9_addStep_5 (by decide) (by decide) (fun b5x => ?_) (fun b5x => False.elim (by revert b5x; decide))
  refine g_iload_n X dX9_addStep_12 rfl 2 rfl ?_
  refine g_iconst (v := nI 1) X dX9_addStep_13 (by decide) ?_
  refine g_bipush (v := nI 60) X dX9_addStep_14 (by decide) ?_
  refine g_callSi (As := [.int p1, .int (nI 1), .int (nI 60)]) (rest := [.ref m]) (wr := [(m, .inr (9, [.ref mh, .ref mg, .ref mt, .ref mf, .ref ms, .ref msT, .ref msF, .ref mgv, .ref mP, .ref mW, .ref mV, .ref mco, .ref men, .ref mnt, .int tw, .int mse, .int mbr, .int mwk, .int mns, .int mtp, .int mss]))]) X dX9_addStep_16 (c_X9_inF l D ai az al p1 1 60 (by decide) (by decide) (hq2)) gX9_addStep_X9_in rfl rfl ok_X9_in rfl rfl (by decide) ⟨by decide, by decide⟩ (Nat.le_of_ble_eq_true rfl) [] [0] ⟨rfl, by decide, rfl, by decide, by decide⟩ (fun r2 u hp => ?_)
  obtain rfl := hp
  refine g_sub (k := 0) (n := 0) (ws' := [(m, .inr (9, [.ref mh, .ref mg, .ref mt, .ref mf, .ref ms, .ref msT, .ref msF, .ref mgv, .ref mP, .ref mW, .ref mV, .ref mco, .ref men, .ref mnt, .int tw, .int mse, .int mbr, .int mwk, .int mns, .int mtp, .int mss]))]) [0] (by decide) rfl ?_
  refine g_if_neN (tgt := 26) X dX9_addStep_19 (by decide) (by decide) (fun b19x => False.elim (by revert b19x; decide)) (fun b19x => ?_)
  refine g_iconst (v := nI 2) X dX9_addStep_22 (by decide) ?_
  refine g_goto (tgt := 40) X dX9_addStep_23 (by decide) ?_
  refine g_putf (T := TX9) (v := .int (nI 2)) (ty := tyX9 14) (ws' := [(m, .inr (9, [.ref mh, .ref mg, .ref mt, .ref mf, .ref ms, .ref msT, .ref msF, .ref mgv, .ref mP, .ref mW, .ref mV, .ref mco, .ref men, .ref mnt, .int (nI 2), .int mse, .int mbr, .int mwk, .int mns, .int mtp, .int mss]))]) X dX9_addStep_40 0 rfl rfl in_X9_addStep_X9 tyX9 tyX9_ok nmX9 14 (by decide) (by decide +kernel) rfl rfl (by decide +kernel) rfl rfl (Nat.le_of_ble_eq_true rfl) rfl ?_
  refine g_aload_n X dX9_addStep_43 rfl 0 rfl ?_
  refine g_getf (T := TX9) (v := .int (nI 2)) X dX9_addStep_44 0 rfl rfl in_X9_addStep_X9 14 (by decide) (by decide +kernel) rfl rfl ?_
  refine g_if_leN (tgt := 52) X dX9_addStep_47 (by decide) (by decide) (fun b47x => False.elim (by revert b47x; decide)) (fun b47x => ?_)
  refine g_iconst (v := nI 0) X dX9_addStep_50 (by decide) ?_
  exact g_iret X E dX9_addStep_51 () rfl (by decide) (by decide) (rfl)

set_option maxRecDepth 100000 in
set_option maxHeartbeats 4000000 in
theorem c_X9_wave0 (l : Launch) (D : va_G) (ai az al : ClassId) (m : Nat) (mh : Nat) (mg : Nat) (mt : Nat) (mf : Nat) (ms : Nat) (msT : Nat) (msF : Nat) (mgv : Nat) (mP : Nat) (mW : Nat) (mV : Nat) (mco : Nat) (men : Nat) (mnt : Nat) (tw : Int32) (mse : Int32) (mbr : Int32) (mwk : Int32) (mns : Int32) (mtp : Int32) (mss : Int32) (Hm : Nat → Int32) (Gm : Nat → Int32) (Fm : Nat → Int32) (Tm : Nat → Int32) (Pm : Nat → Int32) (Wm : Nat → Int32) (nb : Nat → Nat → Nat) (pl : Nat → Bool) (h : Nat → Nat) (col : Nat) (e : Nat) (hW : NW nb) (hWm : WOK Wm nb) (hC : Cn nb) (hP : POK Pm pl) (hH : HOK Hm h) (hn : sN h 42 ≤ 440) (hcol : col < 6) (he1 : 1 ≤ e) (he2 : e ≤ 60) : CI l D (tY ai az al) yX9_wave wsX9_wave { frames := 5, cells := 0, slots := 0, locals := 118 } [.ref m, .int (nI col), .int (nI e)] [(m, .inr (9, [.ref mh, .ref mg, .ref mt, .ref mf, .ref ms, .ref msT, .ref msF, .ref mgv, .ref mP, .ref mW, .ref mV, .ref mco, .ref men, .ref mnt, .int tw, .int mse, .int mbr, .int mwk, .int mns, .int mtp, .int mss])), (mh, .inl (ai, 42, .inl Hm)), (mg, .inl (ai, 42, .inl Gm)), (mf, .inl (ai, 168, .inl Fm)), (mt, .inl (ai, 42, .inl Tm)), (mP, .inl (az, 42, .inl Pm)), (mW, .inl (az, 168, .inl Wm))] (fun (r : Int32) (u : (Nat → Int32) × (Nat → Int32) × (Nat → Int32) × (Nat → Nat) × (Nat → Nat) × (Nat → Int32) × Nat × Nat × (Nat → Nat)) => r = nI u.2.2.2.2.2.2.1 ∧ wR nb pl col e h Gm = (u.2.2.2.2.2.2.1, u.2.2.2.2.2.2.2.2, u.2.2.2.2.2.1, u.2.2.2.2.2.2.2.1) ∧ Stl nb pl (u.2.2.2.2.2.2.2.2) u.2.2.2.1 u.2.2.2.2.1 ∧ HOK u.1 u.2.2.2.1 ∧ FlowTo nb u.2.2.2.2.1 Fm u.2.1 ∧ (∀ c, c < 42 → u.2.2.1 c = Tm c + nI (u.2.2.2.2.1 c))) (fun (u : (Nat → Int32) × (Nat → Int32) × (Nat → Int32) × (Nat → Nat) × (Nat → Nat) × (Nat → Int32) × Nat × Nat × (Nat → Nat)) => [(m, .inr (9, [.ref mh, .ref mg, .ref mt, .ref mf, .ref ms, .ref msT, .ref msF, .ref mgv, .ref mP, .ref mW, .ref mV, .ref mco, .ref men, .ref mnt, .int (nI 0), .int (mse + nI u.2.2.2.2.2.2.2.1 + nI (lostN nb u.2.2.2.2.1 6)), .int mbr, .int mwk, .int mns, .int (nI (sN u.2.2.2.2.1 42)), .int mss])), (mh, .inl (ai, 42, .inl u.1)), (mg, .inl (ai, 42, .inl u.2.2.2.2.2.1)), (mf, .inl (ai, 168, .inl u.2.1)), (mt, .inl (ai, 42, .inl u.2.2.1)), (mP, .inl (az, 42, .inl Pm)), (mW, .inl (az, 168, .inl Wm))]) := by
  refine ofG_I (cc := cX9_wave) (nL := 3) (lv0 := [(0, .ref m), (1, .int (nI col)), (2, .int (nI e))]) (by decide) rfl (Nat.le_of_ble_eq_true rfl) rfl ?_
  intro Γ X E
  refine g_aload_n X dX9_wave_0 rfl 0 rfl ?_
  refine g_iload_n X dX9_wave_1 rfl 1 rfl ?_
  refine g_callSi (As := [.int (nI col)]) (rest := [.ref m]) (wr := [(m, .inr (9, [.ref mh, .ref mg, .ref mt, .ref mf, .ref ms, .ref msT, .ref msF, .ref mgv, .ref mP, .ref mW, .ref mV, .ref mco, .ref men, .ref mnt, .int tw, .int mse, .int mbr, .int mwk, .int mns, .int mtp, .int mss])), (mh, .inl (ai, 42, .inl Hm)), (mg, .inl (ai, 42, .inl Gm)), (mf, .inl (ai, 168, .inl Fm)), (mt, .inl (ai, 42, .inl Tm)), (mP, .inl (az, 42, .inl Pm)), (mW, .inl (az, 168, .inl Wm))]) X dX9_wave_2 (c_X9_isColumnT l D ai az al (nI col) (⟨col, Nat.zero_le _, by omega, rfl⟩)) gX9_wave_X9_isColumn rfl rfl ok_X9_isColumn rfl rfl (by decide) ⟨by decide, by decide⟩ (Nat.le_of_ble_eq_true rfl) [] [0, 1, 2, 3, 4, 5, 6] ⟨rfl, by decide, rfl, by decide, by decide⟩ (fun r1 u hp => ?_)
  obtain rfl := hp
  refine g_sub (k := 0) (n := 0) (ws' := [(m, .inr (9, [.ref mh, .ref mg, .ref mt, .ref mf, .ref ms, .ref msT, .ref msF, .ref mgv, .ref mP, .ref mW, .ref mV, .ref mco, .ref men, .ref mnt, .int tw, .int mse, .int mbr, .int mwk, .int mns, .int mtp, .int mss])), (mh, .inl (ai, 42, .inl Hm)), (mg, .inl (ai, 42, .inl Gm)), (mf, .inl (ai, 168, .inl Fm)), (mt, .inl (ai, 42, .inl Tm)), (mP, .inl (az, 42, .inl Pm)), (mW, .inl (az, 168, .inl Wm))]) [0, 1, 2, 3, 4, 5, 6] (by decide) rfl ?_
  refine g_if_neN (tgt := 12) X dX9_wave_5 (by decide) (by decide) (fun b5x => ?_) (fun b5x => False.elim (by revert b5x; decide))
  refine g_iload_n X dX9_wave_12 rfl 2 rfl ?_
  refine g_iconst (v := nI 1) X dX9_wave_13 (by decide) ?_
  refine g_bipush (v := nI 60) X dX9_wave_14 (by decide) ?_
  refine g_callSi (As := [.int (nI e), .int (nI 1), .int (nI 60)]) (rest := [.ref m]) (wr := [(m, .inr (9, [.ref mh, .ref mg, .ref mt, .ref mf, .ref ms, .ref msT, .ref msF, .ref mgv, .ref mP, .ref mW, .ref mV, .ref mco, .ref men, .ref mnt, .int tw, .int mse, .int mbr, .int mwk, .int mns, .int mtp, .int mss])), (mh, .inl (ai, 42, .inl Hm)), (mg, .inl (ai, 42, .inl Gm)), (mf, .inl (ai, 168, .inl Fm)), (mt, .inl (ai, 42, .inl Tm)), (mP, .inl (az, 42, .inl Pm)), (mW, .inl (az, 168, .inl Wm))]) X dX9_wave_16 (c_X9_inT l D ai az al (nI e) 1 60 (by decide) (by decide) (⟨e, he1, he2, rfl⟩)) gX9_wave_X9_in rfl rfl ok_X9_in rfl rfl (by decide) ⟨by decide, by decide⟩ (Nat.le_of_ble_eq_true rfl) [] [0, 1, 2, 3, 4, 5, 6] ⟨rfl, by decide, rfl, by decide, by decide⟩ (fun r2 u hp => ?_)
  obtain rfl := hp
  refine g_sub (k := 0) (n := 0) (ws' := [(m, .inr (9, [.ref mh, .ref mg, .ref mt, .ref mf, .ref ms, .ref msT, .ref msF, .ref mgv, .ref mP, .ref mW, .ref mV, .ref mco, .ref men, .ref mnt, .int tw, .int mse, .int mbr, .int mwk, .int mns, .int mtp, .int mss])), (mh, .inl (ai, 42, .inl Hm)), (mg, .inl (ai, 42, .inl Gm)), (mf, .inl (ai, 168, .inl Fm)), (mt, .inl (ai, 42, .inl Tm)), (mP, .inl (az, 42, .inl Pm)), (mW, .inl (az, 168, .inl Wm))]) [0, 1, 2, 3, 4, 5, 6] (by decide) rfl ?_
  refine g_if_neN (tgt := 26) X dX9_wave_19 (by decide) (by decide) (fun b19x => ?_) (fun b19x => False.elim (by revert b19x; decide))
  refine g_iconst (v := nI 0) X dX9_wave_26 (by decide) ?_
  refine g_putf (T := TX9) (v := .int (nI 0)) (ty := tyX9 14) (ws' := [(m, .inr (9, [.ref mh, .ref mg, .ref mt, .ref mf, .ref ms, .ref msT, .ref msF, .ref mgv, .ref mP, .ref mW, .ref mV, .ref mco, .ref men, .ref mnt, .int (nI 0), .int mse, .int mbr, .int mwk, .int mns, .int mtp, .int mss])), (mh, .inl (ai, 42, .inl Hm)), (mg, .inl (ai, 42, .inl Gm)), (mf, .inl (ai, 168, .inl Fm)), (mt, .inl (ai, 42, .inl Tm)), (mP, .inl (az, 42, .inl Pm)), (mW, .inl (az, 168, .inl Wm))]) X dX9_wave_27 0 rfl rfl in_X9_wave_X9 tyX9 tyX9_ok nmX9 14 (by decide) (by decide +kernel) rfl rfl (by decide +kernel) rfl rfl (Nat.le_of_ble_eq_true rfl) rfl ?_
  refine g_aload_n X dX9_wave_30 rfl 0 rfl ?_
  refine g_getf (T := TX9) (v := .int (nI 0)) X dX9_wave_31 0 rfl rfl in_X9_wave_X9 14 (by decide) (by decide +kernel) rfl rfl ?_
  refine g_if_leN (tgt := 41) X dX9_wave_34 (by decide) (by decide) (fun b34x => ?_) (fun b34x => False.elim (by revert b34x; decide))
  refine g_aload_n X dX9_wave_41 rfl 0 rfl ?_
  refine g_iload_n X dX9_wave_42 rfl 1 rfl ?_
  refine g_iload_n X dX9_wave_43 rfl 2 rfl ?_
  refine g_callVi (C := RX9) (As := [.int (nI col), .int (nI e)]) (rest := []) (wr := []) X dX9_wave_44 (c_X9_runs l D ai az al m mh mg mt mf ms msT msF mgv mP mW mV mco men mnt (nI 0) mse mbr mwk mns mtp mss Hm Gm Fm Tm Pm Wm nb pl h col e (hW) (hWm) (hC) (hP) (hH) (hn) (hcol) (by omega)) gX9_wave_X9_runs rfl rfl ok_X9_runs rfl rfl (by decide) ⟨by decide, by decide⟩ (Nat.le_of_ble_eq_true rfl) [0, 1, 2, 3, 4, 5, 6] [] ⟨rfl, by decide, rfl, by decide, by decide⟩ 0 rfl rfl rfl (fun r3 u hp => ?_)
  obtain ⟨H5, F5, T5, h5, u5, G5, n5, l5, h4⟩ := u
  try dsimp only at hp
  obtain ⟨rfl, hw5, hS5, hH5, hF5, hT5⟩ := hp
  refine g_sub (k := 0) (n := 0) (ws' := [(m, .inr (9, [.ref mh, .ref mg, .ref mt, .ref mf, .ref ms, .ref msT, .ref msF, .ref mgv, .ref mP, .ref mW, .ref mV, .ref mco, .ref men, .ref mnt, .int (nI 0), .int (mse + nI l5 + nI (lostN nb u5 6)), .int mbr, .int mwk, .int mns, .int (nI (sN u5 42)), .int mss])), (mh, .inl (ai, 42, .inl H5)), (mg, .inl (ai, 42, .inl G5)), (mf, .inl (ai, 168, .inl F5)), (mt, .inl (ai, 42, .inl T5)), (mP, .inl (az, 42, .inl Pm)), (mW, .inl (az, 168, .inl Wm))]) [0, 1, 2, 3, 4, 5, 6] (by decide) rfl ?_
  exact g_iret X E dX9_wave_47 (⟨H5, F5, T5, h5, u5, G5, n5, l5, h4⟩) rfl (by decide) (by decide) (⟨rfl, hw5, hS5, hH5, hF5, hT5⟩)

set_option maxRecDepth 100000 in
set_option maxHeartbeats 4000000 in
theorem c_X9_addStep3 (l : Launch) (D : va_G) (ai az al : ClassId) (m : Nat) (mh : Nat) (mg : Nat) (mt : Nat) (mf : Nat) (ms : Nat) (msT : Nat) (msF : Nat) (mgv : Nat) (mP : Nat) (mW : Nat) (mV : Nat) (mco : Nat) (men : Nat) (mnt : Nat) (tw : Int32) (mse : Int32) (mbr : Int32) (mwk : Int32) (mtp : Int32) (mss : Int32) (col : Nat) (e : Nat) (hcol : col < 6) (he1 : 1 ≤ e) (he2 : e ≤ 60) : CI l D (tY ai az al) yX9_addStep wsX9_addStep { frames := 2, cells := 0, slots := 0, locals := 42 } [.ref m, .int (nI col), .int (nI e)] [(m, .inr (9, [.ref mh, .ref mg, .ref mt, .ref mf, .ref ms, .ref msT, .ref msF, .ref mgv, .ref mP, .ref mW, .ref mV, .ref mco, .ref men, .ref mnt, .int tw, .int mse, .int mbr, .int mwk, .int (nI 8), .int mtp, .int mss]))] (fun (r : Int32) (u : Unit) => r = nI 0) (fun (u : Unit) => [(m, .inr (9, [.ref mh, .ref mg, .ref mt, .ref mf, .ref ms, .ref msT, .ref msF, .ref mgv, .ref mP, .ref mW, .ref mV, .ref mco, .ref men, .ref mnt, .int (nI 3), .int mse, .int mbr, .int mwk, .int (nI 8), .int mtp, .int mss]))]) := by
  refine ofG_I (cc := cX9_addStep) (nL := 3) (lv0 := [(0, .ref m), (1, .int (nI col)), (2, .int (nI e))]) (by decide) rfl (Nat.le_of_ble_eq_true rfl) rfl ?_
  intro Γ X E
  refine g_aload_n X dX9_addStep_0 rfl 0 rfl ?_
  refine g_iload_n X dX9_addStep_1 rfl 1 rfl ?_
  refine g_callSi (As := [.int (nI col)]) (rest := [.ref m]) (wr := [(m, .inr (9, [.ref mh, .ref mg, .ref mt, .ref mf, .ref ms, .ref msT, .ref msF, .ref mgv, .ref mP, .ref mW, .ref mV, .ref mco, .ref men, .ref mnt, .int tw, .int mse, .int mbr, .int mwk, .int (nI 8), .int mtp, .int mss]))]) X dX9_addStep_2 (c_X9_isColumnT l D ai az al (nI col) (⟨col, Nat.zero_le _, by omega, rfl⟩)) gX9_addStep_X9_isColumn rfl rfl ok_X9_isColumn rfl rfl (by decide) ⟨by decide, by decide⟩ (Nat.le_of_ble_eq_true rfl) [] [0] ⟨rfl, by decide, rfl, by decide, by decide⟩ (fun r1 u hp => ?_)
  obtain rfl := hp
  refine g_sub (k := 0) (n := 0) (ws' := [(m, .inr (9, [.ref mh, .ref mg, .ref mt, .ref mf, .ref ms, .ref msT, .ref msF, .ref mgv, .ref mP, .ref mW, .ref mV, .ref mco, .ref men, .ref mnt, .int tw, .int mse, .int mbr, .int mwk, .int (nI 8), .int mtp, .int mss]))]) [0] (by decide) rfl ?_
  refine g_if_neN (tgt := 12) X dX9_addStep_5 (by decide) (by decide) (fun b5x => ?_) (fun b5x => False.elim (by revert b5x; decide))
  refine g_iload_n X dX9_addStep_12 rfl 2 rfl ?_
  refine g_iconst (v := nI 1) X dX9_addStep_13 (by decide) ?_
  refine g_bipush (v := nI 60) X dX9_addStep_14 (by decide) ?_
  refine g_callSi (As := [.int (nI e), .int (nI 1), .int (nI 60)]) (rest := [.ref m]) (wr := [(m, .inr (9, [.ref mh, .ref mg, .ref mt, .ref mf, .ref ms, .ref msT, .ref msF, .ref mgv, .ref mP, .ref mW, .ref mV, .ref mco, .ref men, .ref mnt, .int tw, .int mse, .int mbr, .int mwk, .int (nI 8), .int mtp, .int mss]))]) X dX9_addStep_16 (c_X9_inT l D ai az al (nI e) 1 60 (by decide) (by decide) (⟨e, he1, he2, rfl⟩)) gX9_addStep_X9_in rfl rfl ok_X9_in rfl rfl (by decide) ⟨by decide, by decide⟩ (Nat.le_of_ble_eq_true rfl) [] [0] ⟨rfl, by decide, rfl, by decide, by decide⟩ (fun r2 u hp => ?_)
  obtain rfl := hp
  refine g_sub (k := 0) (n := 0) (ws' := [(m, .inr (9, [.ref mh, .ref mg, .ref mt, .ref mf, .ref ms, .ref msT, .ref msF, .ref mgv, .ref mP, .ref mW, .ref mV, .ref mco, .ref men, .ref mnt, .int tw, .int mse, .int mbr, .int mwk, .int (nI 8), .int mtp, .int mss]))]) [0] (by decide) rfl ?_
  refine g_if_neN (tgt := 26) X dX9_addStep_19 (by decide) (by decide) (fun b19x => ?_) (fun b19x => False.elim (by revert b19x; decide))
  refine g_aload_n X dX9_addStep_26 rfl 0 rfl ?_
  refine g_getf (T := TX9) (v := .int (nI 8)) X dX9_addStep_27 0 rfl rfl in_X9_addStep_X9 18 (by decide) (by decide +kernel) rfl rfl ?_
  refine g_bipush (v := nI 8) X dX9_addStep_30 (by decide) ?_
  refine g_icmp_neN (tgt := 39) X dX9_addStep_32 (by decide) (by decide) (by decide) (fun b32x => False.elim (by revert b32x; decide)) (fun b32x => ?_)
  refine g_iconst (v := nI 3) X dX9_addStep_35 (by decide) ?_
  refine g_goto (tgt := 40) X dX9_addStep_36 (by decide) ?_
  refine g_putf (T := TX9) (v := .int (nI 3)) (ty := tyX9 14) (ws' := [(m, .inr (9, [.ref mh, .ref mg, .ref mt, .ref mf, .ref ms, .ref msT, .ref msF, .ref mgv, .ref mP, .ref mW, .ref mV, .ref mco, .ref men, .ref mnt, .int (nI 3), .int mse, .int mbr, .int mwk, .int (nI 8), .int mtp, .int mss]))]) X dX9_addStep_40 0 rfl rfl in_X9_addStep_X9 tyX9 tyX9_ok nmX9 14 (by decide) (by decide +kernel) rfl rfl (by decide +kernel) rfl rfl (Nat.le_of_ble_eq_true rfl) rfl ?_
  refine g_aload_n X dX9_addStep_43 rfl 0 rfl ?_
  refine g_getf (T := TX9) (v := .int (nI 3)) X dX9_addStep_44 0 rfl rfl in_X9_addStep_X9 14 (by decide) (by decide +kernel) rfl rfl ?_
  refine g_if_leN (tgt := 52) X dX9_addStep_47 (by decide) (by decide) (fun b47x => False.elim (by revert b47x; decide)) (fun b47x => ?_)
  refine g_iconst (v := nI 0) X dX9_addStep_50 (by decide) ?_
  exact g_iret X E dX9_addStep_51 () rfl (by decide) (by decide) (rfl)

set_option maxRecDepth 100000 in
set_option maxHeartbeats 4000000 in
theorem c_X9_addStep0 (l : Launch) (D : va_G) (ai az al : ClassId) (m : Nat) (mh : Nat) (mg : Nat) (mt : Nat) (mf : Nat) (ms : Nat) (msT : Nat) (msF : Nat) (mgv : Nat) (mP : Nat) (mW : Nat) (mV : Nat) (mco : Nat) (men : Nat) (mnt : Nat) (tw : Int32) (mse : Int32) (mbr : Int32) (mwk : Int32) (mtp : Int32) (mss : Int32) (Cm : Nat → Int32) (Em : Nat → Int32) (col : Nat) (e : Nat) (ns : Nat) (hcol : col < 6) (he1 : 1 ≤ e) (he2 : e ≤ 60) (hn8 : ns < 8) : CI l D (tY ai az al) yX9_addStep wsX9_addStep { frames := 2, cells := 0, slots := 0, locals := 42 } [.ref m, .int (nI col), .int (nI e)] [(m, .inr (9, [.ref mh, .ref mg, .ref mt, .ref mf, .ref ms, .ref msT, .ref msF, .ref mgv, .ref mP, .ref mW, .ref mV, .ref mco, .ref men, .ref mnt, .int tw, .int mse, .int mbr, .int mwk, .int (nI ns), .int mtp, .int mss])), (mco, .inl (ai, 8, .inl Cm)), (men, .inl (ai, 8, .inl Em))] (fun (r : Int32) (u : Unit) => r = nI (ns + 1)) (fun (u : Unit) => [(m, .inr (9, [.ref mh, .ref mg, .ref mt, .ref mf, .ref ms, .ref msT, .ref msF, .ref mgv, .ref mP, .ref mW, .ref mV, .ref mco, .ref men, .ref mnt, .int (nI 0), .int mse, .int mbr, .int mwk, .int (nI (ns + 1)), .int mtp, .int mss])), (mco, .inl (ai, 8, .inl (upd Cm ns (nI col)))), (men, .inl (ai, 8, .inl (upd Em ns (nI e))))]) := by
  refine ofG_I (cc := cX9_addStep) (nL := 3) (lv0 := [(0, .ref m), (1, .int (nI col)), (2, .int (nI e))]) (by decide) rfl (Nat.le_of_ble_eq_true rfl) rfl ?_
  intro Γ X E
  refine g_aload_n X dX9_addStep_0 rfl 0 rfl ?_
  refine g_iload_n X dX9_addStep_1 rfl 1 rfl ?_
  refine g_callSi (As := [.int (nI col)]) (rest := [.ref m]) (wr := [(m, .inr (9, [.ref mh, .ref mg, .ref mt, .ref mf, .ref ms, .ref msT, .ref msF, .ref mgv, .ref mP, .ref mW, .ref mV, .ref mco, .ref men, .ref mnt, .int tw, .int mse, .int mbr, .int mwk, .int (nI ns), .int mtp, .int mss])), (mco, .inl (ai, 8, .inl Cm)), (men, .inl (ai, 8, .inl Em))]) X dX9_addStep_2 (c_X9_isColumnT l D ai az al (nI col) (⟨col, Nat.zero_le _, by omega, rfl⟩)) gX9_addStep_X9_isColumn rfl rfl ok_X9_isColumn rfl rfl (by decide) ⟨by decide, by decide⟩ (Nat.le_of_ble_eq_true rfl) [] [0, 1, 2] ⟨rfl, by decide, rfl, by decide, by decide⟩ (fun r1 u hp => ?_)
  obtain rfl := hp
  refine g_sub (k := 0) (n := 0) (ws' := [(m, .inr (9, [.ref mh, .ref mg, .ref mt, .ref mf, .ref ms, .ref msT, .ref msF, .ref mgv, .ref mP, .ref mW, .ref mV, .ref mco, .ref men, .ref mnt, .int tw, .int mse, .int mbr, .int mwk, .int (nI ns), .int mtp, .int mss])), (mco, .inl (ai, 8, .inl Cm)), (men, .inl (ai, 8, .inl Em))]) [0, 1, 2] (by decide) rfl ?_
  refine g_if_neN (tgt := 12) X dX9_addStep_5 (by decide) (by decide) (fun b5x => ?_) (fun b5x => False.elim (by revert b5x; decide))
  refine g_iload_n X dX9_addStep_12 rfl 2 rfl ?_
  refine g_iconst (v := nI 1) X dX9_addStep_13 (by decide) ?_
  refine g_bipush (v := nI 60) X dX9_addStep_14 (by decide) ?_
  refine g_callSi (As := [.int (nI e), .int (nI 1), .int (nI 60)]) (rest := [.ref m]) (wr := [(m, .inr (9, [.ref mh, .ref mg, .ref mt, .ref mf, .ref ms, .ref msT, .ref msF, .ref mgv, .ref mP, .ref mW, .ref mV, .ref mco, .ref men, .ref mnt, .int tw, .int mse, .int mbr, .int mwk, .int (nI ns), .int mtp, .int mss])), (mco, .inl (ai, 8, .inl Cm)), (men, .inl (ai, 8, .inl Em))]) X dX9_addStep_16 (c_X9_inT l D ai az al (nI e) 1 60 (by decide) (by decide) (⟨e, he1, he2, rfl⟩)) gX9_addStep_X9_in rfl rfl ok_X9_in rfl rfl (by decide) ⟨by decide, by decide⟩ (Nat.le_of_ble_eq_true rfl) [] [0, 1, 2] ⟨rfl, by decide, rfl, by decide, by decide⟩ (fun r2 u hp => ?_)
  obtain rfl := hp
  refine g_sub (k := 0) (n := 0) (ws' := [(m, .inr (9, [.ref mh, .ref mg, .ref mt, .ref mf, .ref ms, .ref msT, .ref msF, .ref mgv, .ref mP, .ref mW, .ref mV, .ref mco, .ref men, .ref mnt, .int tw, .int mse, .int mbr, .int mwk, .int (nI ns), .int mtp, .int mss])), (mco, .inl (ai, 8, .inl Cm)), (men, .inl (ai, 8, .inl Em))]) [0, 1, 2] (by decide) rfl ?_
  refine g_if_neN (tgt := 26) X dX9_addStep_19 (by decide) (by decide) (fun b19x => ?_) (fun b19x => False.elim (by revert b19x; decide))
  refine g_aload_n X dX9_addStep_26 rfl 0 rfl ?_
  refine g_getf (T := TX9) (v := .int (nI ns)) X dX9_addStep_27 0 rfl rfl in_X9_addStep_X9 18 (by decide) (by decide +kernel) rfl rfl ?_
  refine g_bipush (v := nI 8) X dX9_addStep_30 (by decide) ?_
  refine g_icmp_neN (tgt := 39) X dX9_addStep_32 (by decide) (by omega) (by omega) (fun b32 => ?_) (fun b32 => False.elim (by omega))
  refine g_iconst (v := nI 0) X dX9_addStep_39 (by decide) ?_
  refine g_putf (T := TX9) (v := .int (nI 0)) (ty := tyX9 14) (ws' := [(m, .inr (9, [.ref mh, .ref mg, .ref mt, .ref mf, .ref ms, .ref msT, .ref msF, .ref mgv, .ref mP, .ref mW, .ref mV, .ref mco, .ref men, .ref mnt, .int (nI 0), .int mse, .int mbr, .int mwk, .int (nI ns), .int mtp, .int mss])), (mco, .inl (ai, 8, .inl Cm)), (men, .inl (ai, 8, .inl Em))]) X dX9_addStep_40 0 rfl rfl in_X9_addStep_X9 tyX9 tyX9_ok nmX9 14 (by decide) (by decide +kernel) rfl rfl (by decide +kernel) rfl rfl (Nat.le_of_ble_eq_true rfl) rfl ?_
  refine g_aload_n X dX9_addStep_43 rfl 0 rfl ?_
  refine g_getf (T := TX9) (v := .int (nI 0)) X dX9_addStep_44 0 rfl rfl in_X9_addStep_X9 14 (by decide) (by decide +kernel) rfl rfl ?_
  refine g_if_leN (tgt := 52) X dX9_addStep_47 (by decide) (by decide) (fun b47x => ?_) (fun b47x => False.elim (by revert b47x; decide))
  refine g_aload_n X dX9_addStep_52 rfl 0 rfl ?_
  refine g_getf (T := TX9) (v := .ref mco) X dX9_addStep_53 0 rfl rfl in_X9_addStep_X9 11 (by decide) (by decide +kernel) rfl rfl ?_
  refine g_aload_n X dX9_addStep_56 rfl 0 rfl ?_
  refine g_getf (T := TX9) (v := .int (nI ns)) X dX9_addStep_57 0 rfl rfl in_X9_addStep_X9 18 (by decide) (by decide +kernel) rfl rfl ?_
  refine g_iload_n X dX9_addStep_60 rfl 1 rfl ?_
  refine g_iastN (g' := upd Cm ns (nI col)) (ws' := [(m, .inr (9, [.ref mh, .ref mg, .ref mt, .ref mf, .ref ms, .ref msT, .ref msF, .ref mgv, .ref mP, .ref mW, .ref mV, .ref mco, .ref men, .ref mnt, .int (nI 0), .int mse, .int mbr, .int mwk, .int (nI ns), .int mtp, .int mss])), (mco, .inl (ai, 8, .inl (upd Cm ns (nI col)))), (men, .inl (ai, 8, .inl Em))]) X dX9_addStep_61 1 0 rfl rfl (by omega) (by omega) (rfl) rfl ?_
  refine g_aload_n X dX9_addStep_62 rfl 0 rfl ?_
  refine g_getf (T := TX9) (v := .ref men) X dX9_addStep_63 0 rfl rfl in_X9_addStep_X9 12 (by decide) (by decide +kernel) rfl rfl ?_
  refine g_aload_n X dX9_addStep_66 rfl 0 rfl ?_
  refine g_getf (T := TX9) (v := .int (nI ns)) X dX9_addStep_67 0 rfl rfl in_X9_addStep_X9 18 (by decide) (by decide +kernel) rfl rfl ?_
  refine g_iload_n X dX9_addStep_70 rfl 2 rfl ?_
  refine g_iastN (g' := upd Em ns (nI e)) (ws' := [(m, .inr (9, [.ref mh, .ref mg, .ref mt, .ref mf, .ref ms, .ref msT, .ref msF, .ref mgv, .ref mP, .ref mW, .ref mV, .ref mco, .ref men, .ref mnt, .int (nI 0), .int mse, .int mbr, .int mwk, .int (nI ns), .int mtp, .int mss])), (mco, .inl (ai, 8, .inl (upd Cm ns (nI col)))), (men, .inl (ai, 8, .inl (upd Em ns (nI e))))]) X dX9_addStep_71 2 0 rfl rfl (by omega) (by omega) (rfl) rfl ?_
  refine g_aload_n X dX9_addStep_72 rfl 0 rfl ?_
  refine g_dup X dX9_addStep_73 rfl ?_
  refine g_getf (T := TX9) (v := .int (nI ns)) X dX9_addStep_74 0 rfl rfl in_X9_addStep_X9 18 (by decide) (by decide +kernel) rfl rfl ?_
  refine g_iconst (v := nI 1) X dX9_addStep_77 (by decide) ?_
  refine g_iadd (v := nI (ns + 1)) X dX9_addStep_78 (nI_add _ _) ?_
  refine g_putf (T := TX9) (v := .int (nI (ns + 1))) (ty := tyX9 18) (ws' := [(m, .inr (9, [.ref mh, .ref mg, .ref mt, .ref mf, .ref ms, .ref msT, .ref msF, .ref mgv, .ref mP, .ref mW, .ref mV, .ref mco, .ref men, .ref mnt, .int (nI 0), .int mse, .int mbr, .int mwk, .int (nI (ns + 1)), .int mtp, .int mss])), (mco, .inl (ai, 8, .inl (upd Cm ns (nI col)))), (men, .inl (ai, 8, .inl (upd Em ns (nI e))))]) X dX9_addStep_79 0 rfl rfl in_X9_addStep_X9 tyX9 tyX9_ok nmX9 18 (by decide) (by decide +kernel) rfl rfl (by decide +kernel) rfl rfl (Nat.le_of_ble_eq_true rfl) rfl ?_
  refine g_aload_n X dX9_addStep_82 rfl 0 rfl ?_
  refine g_getf (T := TX9) (v := .int (nI (ns + 1))) X dX9_addStep_83 0 rfl rfl in_X9_addStep_X9 18 (by decide) (by decide +kernel) rfl rfl ?_
  exact g_iret X E dX9_addStep_86 () rfl (by decide) (by decide) (rfl)

theorem ok_X9_storm : okName yX9_storm 1 := by decide +kernel
theorem in_X9_storm_X9 : ∀ w ∈ u_ws RX9 TX9 21, w ∈ wsX9_storm := by decide +kernel
set_option maxRecDepth 100000 in
set_option maxHeartbeats 4000000 in
theorem c_X9_storm1 (l : Launch) (D : va_G) (ai az al : ClassId) (m : Nat) (mh : Nat) (mg : Nat) (mt : Nat) (mf : Nat) (ms : Nat) (msT : Nat) (msF : Nat) (mgv : Nat) (mP : Nat) (mW : Nat) (mV : Nat) (mco : Nat) (men : Nat) (mnt : Nat) (tw : Int32) (mse : Int32) (mbr : Int32) (mwk : Int32) (mns : Int32) (mtp : Int32) (mss : Int32) (p0 : Int32) (hq : ¬ inN p0 1 5) : CI l D (tY ai az al) yX9_storm wsX9_storm { frames := 1, cells := 0, slots := 0, locals := 22 } [.ref m, .int p0] [(m, .inr (9, [.ref mh, .ref mg, .ref mt, .ref mf, .ref ms, .ref msT, .ref msF, .ref mgv, .ref mP, .ref mW, .ref mV, .ref mco, .ref men, .ref mnt, .int tw, .int mse, .int mbr, .int mwk, .int mns, .int mtp, .int mss]))] (fun (r : Int32) (u : Unit) => r = nI 0) (fun (u : Unit) => [(m, .inr (9, [.ref mh, .ref mg, .ref mt, .ref mf, .ref ms, .ref msT, .ref msF, .ref mgv, .ref mP, .ref mW, .ref mV, .ref mco, .ref men, .ref mnt, .int (nI 1), .int mse, .int mbr, .int mwk, .int mns, .int mtp, .int mss]))]) := by
  refine ofG_I (cc := cX9_storm) (nL := 6) (lv0 := [(0, .ref m), (1, .int p0)]) (by decide) rfl (Nat.le_of_ble_eq_true rfl) rfl ?_
  intro Γ X E
  refine g_aload_n X dX9_storm_0 rfl 0 rfl ?_
  refine g_iload_n X dX9_storm_1 rfl 1 rfl ?_
  refine g_iconst (v := nI 1) X dX9_storm_2 (by decide) ?_
  refine g_iconst (v := nI 5) X dX9_storm_3 (by decide) ?_
  refine g_callSi (As := [.int p0, .int (nI 1), .int (nI 5)]) (rest := [.ref m]) (wr := [(m, .inr (9, [.ref mh, .ref mg, .ref mt, .ref mf, .ref ms, .ref msT, .ref msF, .ref mgv, .ref mP, .ref mW, .ref mV, .ref mco, .ref men, .ref mnt, .int tw, .int mse, .int mbr, .int mwk, .int mns, .int mtp, .int mss]))]) X dX9_storm_4 (c_X9_inF l D ai az al p0 1 5 (by decide) (by decide) (hq)) gX9_storm_X9_in rfl rfl ok_X9_in rfl rfl (by decide) ⟨by decide, by decide⟩ (Nat.le_of_ble_eq_true rfl) [] [0] ⟨rfl, by decide, rfl, by decide, by decide⟩ (fun r1 u hp => ?_)
  obtain rfl := hp
  refine g_sub (k := 0) (n := 0) (ws' := [(m, .inr (9, [.ref mh, .ref mg, .ref mt, .ref mf, .ref ms, .ref msT, .ref msF, .ref mgv, .ref mP, .ref mW, .ref mV, .ref mco, .ref men, .ref mnt, .int tw, .int mse, .int mbr, .int mwk, .int mns, .int mtp, .int mss]))]) [0] (by decide) rfl ?_
  refine g_if_neN (tgt := 14) X dX9_storm_7 (by decide) (by decide) (fun b7x => False.elim (by revert b7x; decide)) (fun b7x => ?_)
  refine g_iconst (v := nI 1) X dX9_storm_10 (by decide) ?_
  refine g_goto (tgt := 26) X dX9_storm_11 (by decide) ?_
  refine g_putf (T := TX9) (v := .int (nI 1)) (ty := tyX9 14) (ws' := [(m, .inr (9, [.ref mh, .ref mg, .ref mt, .ref mf, .ref ms, .ref msT, .ref msF, .ref mgv, .ref mP, .ref mW, .ref mV, .ref mco, .ref men, .ref mnt, .int (nI 1), .int mse, .int mbr, .int mwk, .int mns, .int mtp, .int mss]))]) X dX9_storm_26 0 rfl rfl in_X9_storm_X9 tyX9 tyX9_ok nmX9 14 (by decide) (by decide +kernel) rfl rfl (by decide +kernel) rfl rfl (Nat.le_of_ble_eq_true rfl) rfl ?_
  refine g_aload_n X dX9_storm_29 rfl 0 rfl ?_
  refine g_getf (T := TX9) (v := .int (nI 1)) X dX9_storm_30 0 rfl rfl in_X9_storm_X9 14 (by decide) (by decide +kernel) rfl rfl ?_
  refine g_if_leN (tgt := 38) X dX9_storm_33 (by decide) (by decide) (fun b33x => False.elim (by revert b33x; decide)) (fun b33x => ?_)
  refine g_iconst (v := nI 0) X dX9_storm_36 (by decide) ?_
  exact g_iret X E dX9_storm_37 () rfl (by decide) (by decide) (rfl)

set_option maxRecDepth 100000 in
set_option maxHeartbeats 4000000 in
theorem c_X9_storm2 (l : Launch) (D : va_G) (ai az al : ClassId) (m : Nat) (mh : Nat) (mg : Nat) (mt : Nat) (mf : Nat) (ms : Nat) (msT : Nat) (msF : Nat) (mgv : Nat) (mP : Nat) (mW : Nat) (mV : Nat) (mco : Nat) (men : Nat) (mnt : Nat) (tw : Int32) (mse : Int32) (mbr : Int32) (mwk : Int32) (mtp : Int32) (mss : Int32) (p0 : Int32) (hq : inN p0 1 5) : CI l D (tY ai az al) yX9_storm wsX9_storm { frames := 1, cells := 0, slots := 0, locals := 22 } [.ref m, .int p0] [(m, .inr (9, [.ref mh, .ref mg, .ref mt, .ref mf, .ref ms, .ref msT, .ref msF, .ref mgv, .ref mP, .ref mW, .ref mV, .ref mco, .ref men, .ref mnt, .int tw, .int mse, .int mbr, .int mwk, .int (nI 0), .int mtp, .int mss]))] (fun (r : Int32) (u : Unit) => r = nI 0) (fun (u : Unit) => [(m, .inr (9, [.ref mh, .ref mg, .ref mt, .ref mf, .ref ms, .ref msT, .ref msF, .ref mgv, .ref mP, .ref mW, .ref mV, .ref mco, .ref men, .ref mnt, .int (nI 2), .int mse, .int mbr, .int mwk, .int (nI 0), .int mtp, .int mss]))]) := by
  refine ofG_I (cc := cX9_storm) (nL := 6) (lv0 := [(0, .ref m), (1, .int p0)]) (by decide) rfl (Nat.le_of_ble_eq_true rfl) rfl ?_
  intro Γ X E
  refine g_aload_n X dX9_storm_0 rfl 0 rfl ?_
  refine g_iload_n X dX9_storm_1 rfl 1 rfl ?_
  refine g_iconst (v := nI 1) X dX9_storm_2 (by decide) ?_
  refine g_iconst (v := nI 5) X dX9_storm_3 (by decide) ?_
  refine g_callSi (As := [.int p0, .int (nI 1), .int (nI 5)]) (rest := [.ref m]) (wr := [(m, .inr (9, [.ref mh, .ref mg, .ref mt, .ref mf, .ref ms, .ref msT, .ref msF, .ref mgv, .ref mP, .ref mW, .ref mV, .ref mco, .ref men, .ref mnt, .int tw, .int mse, .int mbr, .int mwk, .int (nI 0), .int mtp, .int mss]))]) X dX9_storm_4 (c_X9_inT l D ai az al p0 1 5 (by decide) (by decide) (hq)) gX9_storm_X9_in rfl rfl ok_X9_in rfl rfl (by decide) ⟨by decide, by decide⟩ (Nat.le_of_ble_eq_true rfl) [] [0] ⟨rfl, by decide, rfl, by decide, by decide⟩ (fun r1 u hp => ?_)
  obtain rfl := hp
  refine g_sub (k := 0) (n := 0) (ws' := [(m, .inr (9, [.ref mh, .ref mg, .ref mt, .ref mf, .ref ms, .ref msT, .ref msF, .ref mgv, .ref mP, .ref mW, .ref mV, .ref mco, .ref men, .ref mnt, .int tw, .int mse, .int mbr, .int mwk, .int (nI 0), .int mtp, .int mss]))]) [0] (by decide) rfl ?_
  refine g_if_neN (tgt := 14) X dX9_storm_7 (by decide) (by decide) (fun b7x => ?_) (fun b7x => False.elim (by revert b7x; decide))
  refine g_aload_n X dX9_storm_14 rfl 0 rfl ?_
  refine g_getf (T := TX9) (v := .int (nI 0)) X dX9_storm_15 0 rfl rfl in_X9_storm_X9 18 (by decide) (by decide +kernel) rfl rfl ?_
  refine g_if_neN (tgt := 25) X dX9_storm_18 (by decide) (by decide) (fun b18x => False.elim (by revert b18x; decide)) (fun b18x => ?_)
  refine g_iconst (v := nI 2) X dX9_storm_21 (by decide) ?_
  refine g_goto (tgt := 26) X dX9_storm_22 (by decide) ?_
  refine g_putf (T := TX9) (v := .int (nI 2)) (ty := tyX9 14) (ws' := [(m, .inr (9, [.ref mh, .ref mg, .ref mt, .ref mf, .ref ms, .ref msT, .ref msF, .ref mgv, .ref mP, .ref mW, .ref mV, .ref mco, .ref men, .ref mnt, .int (nI 2), .int mse, .int mbr, .int mwk, .int (nI 0), .int mtp, .int mss]))]) X dX9_storm_26 0 rfl rfl in_X9_storm_X9 tyX9 tyX9_ok nmX9 14 (by decide) (by decide +kernel) rfl rfl (by decide +kernel) rfl rfl (Nat.le_of_ble_eq_true rfl) rfl ?_
  refine g_aload_n X dX9_storm_29 rfl 0 rfl ?_
  refine g_getf (T := TX9) (v := .int (nI 2)) X dX9_storm_30 0 rfl rfl in_X9_storm_X9 14 (by decide) (by decide +kernel) rfl rfl ?_
  refine g_if_leN (tgt := 38) X dX9_storm_33 (by decide) (by decide) (fun b33x => False.elim (by revert b33x; decide)) (fun b33x => ?_)
  refine g_iconst (v := nI 0) X dX9_storm_36 (by decide) ?_
  exact g_iret X E dX9_storm_37 () rfl (by decide) (by decide) (rfl)

set_option maxRecDepth 100000 in
set_option maxHeartbeats 4000000 in
theorem c_X9_storm0 (l : Launch) (D : va_G) (ai az al : ClassId) (m : Nat) (mh : Nat) (mg : Nat) (mt : Nat) (mf : Nat) (ms : Nat) (msT : Nat) (msF : Nat) (mgv : Nat) (mP : Nat) (mW : Nat) (mV : Nat) (mco : Nat) (men : Nat) (mnt : Nat) (tw : Int32) (mse : Int32) (mbr : Int32) (mwk : Int32) (mtp : Int32) (mss : Int32) (Hm : Nat → Int32) (Gm : Nat → Int32) (Fm : Nat → Int32) (Tm : Nat → Int32) (Pm : Nat → Int32) (Wm : Nat → Int32) (Cm : Nat → Int32) (Em : Nat → Int32) (nb : Nat → Nat → Nat) (pl : Nat → Bool) (h : Nat → Nat) (wx : Nat → Nat) (wy : Nat → Nat) (ns : Nat) (n : Nat) (hW : NW nb) (hWm : WOK Wm nb) (hC : Cn nb) (hP : POK Pm pl) (hH : HOK Hm h) (hn : sN h 42 ≤ 440) (hSt : StOK ns Cm Em wx wy) (hns : 0 < ns) (hn1 : 1 ≤ n) (hn5 : n ≤ 5) : CI l D (tY ai az al) yX9_storm wsX9_storm { frames := 5, cells := 0, slots := 0, locals := 118 } [.ref m, .int (nI n)] [(m, .inr (9, [.ref mh, .ref mg, .ref mt, .ref mf, .ref ms, .ref msT, .ref msF, .ref mgv, .ref mP, .ref mW, .ref mV, .ref mco, .ref men, .ref mnt, .int tw, .int mse, .int mbr, .int mwk, .int (nI ns), .int mtp, .int mss])), (mh, .inl (ai, 42, .inl Hm)), (mg, .inl (ai, 42, .inl Gm)), (mf, .inl (ai, 168, .inl Fm)), (mt, .inl (ai, 42, .inl Tm)), (mP, .inl (az, 42, .inl Pm)), (mW, .inl (az, 168, .inl Wm)), (mco, .inl (ai, 8, .inl Cm)), (men, .inl (ai, 8, .inl Em))] (fun (r : Int32) (u : (Nat → Int32) × (Nat → Int32) × (Nat → Int32) × (Nat → Int32) × Int32 × Int32 × Acc) => r = (u.2.2.2.2.1 - mse) ∧ Ch nb pl (fun k => wx (k % ns)) (fun k => wy (k % ns)) h (n * ns) u.2.2.2.2.2.2 ∧ HOK u.1 (Prod.fst u.2.2.2.2.2.2) ∧ sN (Prod.fst u.2.2.2.2.2.2) 42 ≤ 294 ∧ ChA Gm Tm Fm mse u.2.2.2.2.2.2 u.2.1 u.2.2.2.1 u.2.2.1 u.2.2.2.2.1) (fun (u : (Nat → Int32) × (Nat → Int32) × (Nat → Int32) × (Nat → Int32) × Int32 × Int32 × Acc) => [(m, .inr (9, [.ref mh, .ref mg, .ref mt, .ref mf, .ref ms, .ref msT, .ref msF, .ref mgv, .ref mP, .ref mW, .ref mV, .ref mco, .ref men, .ref mnt, .int (nI 0), .int u.2.2.2.2.1, .int mbr, .int mwk, .int (nI ns), .int u.2.2.2.2.2.1, .int mss])), (mh, .inl (ai, 42, .inl u.1)), (mg, .inl (ai, 42, .inl u.2.1)), (mf, .inl (ai, 168, .inl u.2.2.1)), (mt, .inl (ai, 42, .inl u.2.2.2.1)), (mP, .inl (az, 42, .inl Pm)), (mW, .inl (az, 168, .inl Wm)), (mco, .inl (ai, 8, .inl Cm)), (men, .inl (ai, 8, .inl Em))]) := by
  refine ofG_I (cc := cX9_storm) (nL := 6) (lv0 := [(0, .ref m), (1, .int (nI n))]) (by decide) rfl (Nat.le_of_ble_eq_true rfl) rfl ?_
  intro Γ X E
  refine g_aload_n X dX9_storm_0 rfl 0 rfl ?_
  refine g_iload_n X dX9_storm_1 rfl 1 rfl ?_
  refine g_iconst (v := nI 1) X dX9_storm_2 (by decide) ?_
  refine g_iconst (v := nI 5) X dX9_storm_3 (by decide) ?_
  refine g_callSi (As := [.int (nI n), .int (nI 1), .int (nI 5)]) (rest := [.ref m]) (wr := [(m, .inr (9, [.ref mh, .ref mg, .ref mt, .ref mf, .ref ms, .ref msT, .ref msF, .ref mgv, .ref mP, .ref mW, .ref mV, .ref mco, .ref men, .ref mnt, .int tw, .int mse, .int mbr, .int mwk, .int (nI ns), .int mtp, .int mss])), (mh, .inl (ai, 42, .inl Hm)), (mg, .inl (ai, 42, .inl Gm)), (mf, .inl (ai, 168, .inl Fm)), (mt, .inl (ai, 42, .inl Tm)), (mP, .inl (az, 42, .inl Pm)), (mW, .inl (az, 168, .inl Wm)), (mco, .inl (ai, 8, .inl Cm)), (men, .inl (ai, 8, .inl Em))]) X dX9_storm_4 (c_X9_inT l D ai az al (nI n) 1 5 (by decide) (by decide) (⟨n, hn1, hn5, rfl⟩)) gX9_storm_X9_in rfl rfl ok_X9_in rfl rfl (by decide) ⟨by decide, by decide⟩ (Nat.le_of_ble_eq_true rfl) [] [0, 1, 2, 3, 4, 5, 6, 7, 8] ⟨rfl, by decide, rfl, by decide, by decide⟩ (fun r1 u hp => ?_)
  obtain rfl := hp
  refine g_sub (k := 0) (n := 0) (ws' := [(m, .inr (9, [.ref mh, .ref mg, .ref mt, .ref mf, .ref ms, .ref msT, .ref msF, .ref mgv, .ref mP, .ref mW, .ref mV, .ref mco, .ref men, .ref mnt, .int tw, .int mse, .int mbr, .int mwk, .int (nI ns), .int mtp, .int mss])), (mh, .inl (ai, 42, .inl Hm)), (mg, .inl (ai, 42, .inl Gm)), (mf, .inl (ai, 168, .inl Fm)), (mt, .inl (ai, 42, .inl Tm)), (mP, .inl (az, 42, .inl Pm)), (mW, .inl (az, 168, .inl Wm)), (mco, .inl (ai, 8, .inl Cm)), (men, .inl (ai, 8, .inl Em))]) [0, 1, 2, 3, 4, 5, 6, 7, 8] (by decide) rfl ?_
  refine g_if_neN (tgt := 14) X dX9_storm_7 (by decide) (by decide) (fun b7x => ?_) (fun b7x => False.elim (by revert b7x; decide))
  refine g_aload_n X dX9_storm_14 rfl 0 rfl ?_
  refine g_getf (T := TX9) (v := .int (nI ns)) X dX9_storm_15 0 rfl rfl in_X9_storm_X9 18 (by decide) (by decide +kernel) rfl rfl ?_
  refine g_if_neN (tgt := 25) X dX9_storm_18 (by decide) (by have := hSt.1; omega) (fun b18 => ?_) (fun b18 => False.elim (by omega))
  refine g_iconst (v := nI 0) X dX9_storm_25 (by decide) ?_
  refine g_putf (T := TX9) (v := .int (nI 0)) (ty := tyX9 14) (ws' := [(m, .inr (9, [.ref mh, .ref mg, .ref mt, .ref mf, .ref ms, .ref msT, .ref msF, .ref mgv, .ref mP, .ref mW, .ref mV, .ref mco, .ref men, .ref mnt, .int (nI 0), .int mse, .int mbr, .int mwk, .int (nI ns), .int mtp, .int mss])), (mh, .inl (ai, 42, .inl Hm)), (mg, .inl (ai, 42, .inl Gm)), (mf, .inl (ai, 168, .inl Fm)), (mt, .inl (ai, 42, .inl Tm)), (mP, .inl (az, 42, .inl Pm)), (mW, .inl (az, 168, .inl Wm)), (mco, .inl (ai, 8, .inl Cm)), (men, .inl (ai, 8, .inl Em))]) X dX9_storm_26 0 rfl rfl in_X9_storm_X9 tyX9 tyX9_ok nmX9 14 (by decide) (by decide +kernel) rfl rfl (by decide +kernel) rfl rfl (Nat.le_of_ble_eq_true rfl) rfl ?_
  refine g_aload_n X dX9_storm_29 rfl 0 rfl ?_
  refine g_getf (T := TX9) (v := .int (nI 0)) X dX9_storm_30 0 rfl rfl in_X9_storm_X9 14 (by decide) (by decide +kernel) rfl rfl ?_
  refine g_if_leN (tgt := 38) X dX9_storm_33 (by decide) (by decide) (fun b33x => ?_) (fun b33x => False.elim (by revert b33x; decide))
  refine g_aload_n X dX9_storm_38 rfl 0 rfl ?_
  refine g_getf (T := TX9) (v := .int mse) X dX9_storm_39 0 rfl rfl in_X9_storm_X9 15 (by decide) (by decide +kernel) rfl rfl ?_
  refine g_istore_n (lv' := [(2, .int mse), (0, .ref m), (1, .int (nI n))]) X dX9_storm_42 rfl (by decide) rfl ?_
  refine g_iconst (v := nI 0) X dX9_storm_43 (by decide) ?_
  refine g_istore_n (lv' := [(3, .int (nI 0)), (2, .int mse), (0, .ref m), (1, .int (nI n))]) X dX9_storm_44 rfl (by decide) rfl ?_
  have L45 : ∀ (fl : Nat) (tm : Nat) (H_p : Nat → Int32) (G_p : Nat → Int32) (F_p : Nat → Int32) (T_p : Nat → Int32) (se_p : Int32) (tq_p : Int32) (a_p : Acc), (tm ≤ n) → (Ch nb pl (fun k => wx (k % ns)) (fun k => wy (k % ns)) h (tm * ns) a_p) → (HOK H_p (Prod.fst a_p)) → (sN (Prod.fst a_p) 42 ≤ 440) → (0 < tm * ns → sN (Prod.fst a_p) 42 ≤ 294) → (ChA Gm Tm Fm mse a_p G_p T_p F_p se_p) → (n + 1 ≤ tm + fl) → G Γ 6 0 0 [(m, .inr (9, [.ref mh, .ref mg, .ref mt, .ref mf, .ref ms, .ref msT, .ref msF, .ref mgv, .ref mP, .ref mW, .ref mV, .ref mco, .ref men, .ref mnt, .int (nI 0), .int se_p, .int mbr, .int mwk, .int (nI ns), .int tq_p, .int mss])), (mh, .inl (ai, 42, .inl H_p)), (mg, .inl (ai, 42, .inl G_p)), (mf, .inl (ai, 168, .inl F_p)), (mt, .inl (ai, 42, .inl T_p)), (mP, .inl (az, 42, .inl Pm)), (mW, .inl (az, 168, .inl Wm)), (mco, .inl (ai, 8, .inl Cm)), (men, .inl (ai, 8, .inl Em))] [(0, .ref m), (1, .int (nI n)), (2, .int mse), (3, .int (nI tm))] 45 [] := by
    intro fl
    induction fl with
    | zero => intro tm H_p G_p F_p T_p se_p tq_p a_p ht hch_p hH_p hs_p hq_p hA_p hm; exact absurd hm (by omega)
    | succ fl ih45 =>
      intro tm H_p G_p F_p T_p se_p tq_p a_p ht hch_p hH_p hs_p hq_p hA_p hm
      refine g_iload_n X dX9_storm_45 rfl 3 rfl ?_
      refine g_iload_n X dX9_storm_46 rfl 1 rfl ?_
      refine g_icmp_geN (tgt := 94) X dX9_storm_47 (by decide) (by omega) (by omega) (fun b47 => ?_) (fun b47 => ?_)
      · obtain rfl : tm = n := by omega
        refine g_aload_n X dX9_storm_94 rfl 0 rfl ?_
        refine g_getf (T := TX9) (v := .int se_p) X dX9_storm_95 0 rfl rfl in_X9_storm_X9 15 (by decide) (by decide +kernel) rfl rfl ?_
        refine g_iload_n X dX9_storm_98 rfl 2 rfl ?_
        refine g_isub (v := (se_p - mse)) X dX9_storm_99 (rfl) ?_
        exact g_iret X E dX9_storm_100 (⟨H_p, G_p, F_p, T_p, se_p, tq_p, a_p⟩) rfl (by decide) (by decide) (⟨rfl, hch_p, hH_p, hq_p (Nat.mul_pos (by omega) hns), hA_p⟩)
      · refine g_iconst (v := nI 0) X dX9_storm_50 (by decide) ?_
        refine g_istore (lv' := [(4, .int (nI 0)), (0, .ref m), (1, .int (nI n)), (2, .int mse), (3, .int (nI tm))]) X dX9_storm_51 (by decide) rfl ?_
        have L53 : ∀ (fm : Nat) (j : Nat) (H_q : Nat → Int32) (G_q : Nat → Int32) (F_q : Nat → Int32) (T_q : Nat → Int32) (se_q : Int32) (tq_q : Int32) (a_q : Acc), (j ≤ ns) → (Ch nb pl (fun k => wx (k % ns)) (fun k => wy (k % ns)) h (tm * ns + j) a_q) → (HOK H_q (Prod.fst a_q)) → (sN (Prod.fst a_q) 42 ≤ 440) → (0 < tm * ns + j → sN (Prod.fst a_q) 42 ≤ 294) → (ChA Gm Tm Fm mse a_q G_q T_q F_q se_q) → (ns + 1 ≤ j + fm) → G Γ 6 0 0 [(m, .inr (9, [.ref mh, .ref mg, .ref mt, .ref mf, .ref ms, .ref msT, .ref msF, .ref mgv, .ref mP, .ref mW, .ref mV, .ref mco, .ref men, .ref mnt, .int (nI 0), .int se_q, .int mbr, .int mwk, .int (nI ns), .int tq_q, .int mss])), (mh, .inl (ai, 42, .inl H_q)), (mg, .inl (ai, 42, .inl G_q)), (mf, .inl (ai, 168, .inl F_q)), (mt, .inl (ai, 42, .inl T_q)), (mP, .inl (az, 42, .inl Pm)), (mW, .inl (az, 168, .inl Wm)), (mco, .inl (ai, 8, .inl Cm)), (men, .inl (ai, 8, .inl Em))] [(0, .ref m), (1, .int (nI n)), (2, .int mse), (3, .int (nI tm)), (4, .int (nI j))] 53 [] := by
          intro fm
          induction fm with
          | zero => intro j H_q G_q F_q T_q se_q tq_q a_q hj hch_q hH_q hs_q hq_q hA_q hk; exact absurd hk (by omega)
          | succ fm ih53 =>
            intro j H_q G_q F_q T_q se_q tq_q a_q hj hch_q hH_q hs_q hq_q hA_q hk
            refine g_iload X dX9_storm_53 4 rfl ?_
            refine g_aload_n X dX9_storm_55 rfl 0 rfl ?_
            refine g_getf (T := TX9) (v := .int (nI ns)) X dX9_storm_56 0 rfl rfl in_X9_storm_X9 18 (by decide) (by decide +kernel) rfl rfl ?_
            refine g_icmp_geN (tgt := 88) X dX9_storm_59 (by decide) (by have := hSt.1; omega) (by have := hSt.1; omega) (fun b59 => ?_) (fun b59 => ?_)
            · refine g_iinc (v := nI (tm + 1)) (lv' := [(3, .int (nI (tm + 1))), (0, .ref m), (1, .int (nI n)), (2, .int mse), (4, .int (nI j))]) X dX9_storm_88 3 rfl (nI_inc _) (by decide) rfl ?_
              refine g_goto (tgt := 45) X dX9_storm_91 (by decide) ?_
              refine g_lv (lv' := [(0, .ref m), (1, .int (nI n)), (2, .int mse), (3, .int (nI (tm + 1)))]) [1, 2, 3, 0] rfl ?_
              exact ih45 (tm + 1) H_q G_q F_q T_q se_q tq_q a_q (by omega) (by rw [Nat.add_mul, Nat.one_mul]; rw [show j = ns by omega] at hch_q; exact hch_q) (hH_q) (hs_q) (fun z => hq_q (by rw [show j = ns by omega]; rw [Nat.add_mul, Nat.one_mul] at z; exact z)) (hA_q) (by omega)
            · have hj2 : j < ns := by omega
              refine g_aload_n X dX9_storm_62 rfl 0 rfl ?_
              refine g_aload_n X dX9_storm_63 rfl 0 rfl ?_
              refine g_getf (T := TX9) (v := .ref mco) X dX9_storm_64 0 rfl rfl in_X9_storm_X9 11 (by decide) (by decide +kernel) rfl rfl ?_
              refine g_iload X dX9_storm_67 4 rfl ?_
              refine g_ialdN (v := nI (wx j)) X dX9_storm_69 7 0 rfl rfl (by have := hSt.1; omega) (by omega) ((hSt.2 j hj2).1) ?_
              refine g_aload_n X dX9_storm_70 rfl 0 rfl ?_
              refine g_getf (T := TX9) (v := .ref men) X dX9_storm_71 0 rfl rfl in_X9_storm_X9 12 (by decide) (by decide +kernel) rfl rfl ?_
              refine g_iload X dX9_storm_74 4 rfl ?_
              refine g_ialdN (v := nI (wy j)) X dX9_storm_76 8 0 rfl rfl (by have := hSt.1; omega) (by omega) ((hSt.2 j hj2).2.2.1) ?_
              refine g_callVi (C := RX9) (As := [.int (nI (wx j)), .int (nI (wy j))]) (rest := []) (wr := [(mco, .inl (ai, 8, .inl Cm)), (men, .inl (ai, 8, .inl Em))]) X dX9_storm_77 (c_X9_runs l D ai az al m mh mg mt mf ms msT msF mgv mP mW mV mco men mnt (nI 0) se_q mbr mwk (nI ns) tq_q mss H_q G_q F_q T_q Pm Wm nb pl (Prod.fst a_q) (wx j) (wy j) (hW) (hWm) (hC) (hP) (hH_q) (hs_q) ((hSt.2 j hj2).2.1) (by have := (hSt.2 j hj2).2.2.2.2; omega)) gX9_storm_X9_runs rfl rfl ok_X9_runs rfl rfl (by decide) ⟨by decide, by decide⟩ (Nat.le_of_ble_eq_true rfl) [0, 1, 2, 3, 4, 5, 6] [7, 8] ⟨rfl, by decide, rfl, by decide, by decide⟩ 0 rfl rfl rfl (fun r2 u hp => ?_)
              obtain ⟨H5, F5, T5, h5, u5, G5, n5, l5, h4⟩ := u
              try dsimp only at hp
              obtain ⟨rfl, hw5, hS5, hH5, hF5, hT5⟩ := hp
              refine g_sub (k := 0) (n := 0) (ws' := [(m, .inr (9, [.ref mh, .ref mg, .ref mt, .ref mf, .ref ms, .ref msT, .ref msF, .ref mgv, .ref mP, .ref mW, .ref mV, .ref mco, .ref men, .ref mnt, .int (nI 0), .int (se_q + nI l5 + nI (lostN nb u5 6)), .int mbr, .int mwk, .int (nI ns), .int (nI (sN u5 42)), .int mss])), (mh, .inl (ai, 42, .inl H5)), (mg, .inl (ai, 42, .inl G5)), (mf, .inl (ai, 168, .inl F5)), (mt, .inl (ai, 42, .inl T5)), (mP, .inl (az, 42, .inl Pm)), (mW, .inl (az, 168, .inl Wm)), (mco, .inl (ai, 8, .inl Cm)), (men, .inl (ai, 8, .inl Em))]) [2, 3, 4, 5, 6, 7, 8, 0, 1] (by decide) rfl ?_
              obtain ⟨b5, hb1, hb2, hb3⟩ := Ch.next (k := tm * ns + j) hch_q hA_q (by show wR nb pl (wx ((tm * ns + j) % ns)) (wy ((tm * ns + j) % ns)) (Prod.fst a_q) G_q = _; rw [idx_mod hj2]; exact hw5) hS5 hT5 hF5
              refine g_istore (lv' := [(5, .int (nI n5)), (0, .ref m), (1, .int (nI n)), (2, .int mse), (3, .int (nI tm)), (4, .int (nI j))]) X dX9_storm_80 (by decide) rfl ?_
              refine g_iinc (v := nI (j + 1)) (lv' := [(4, .int (nI (j + 1))), (5, .int (nI n5)), (0, .ref m), (1, .int (nI n)), (2, .int mse), (3, .int (nI tm))]) X dX9_storm_82 5 rfl (nI_inc _) (by decide) rfl ?_
              refine g_goto (tgt := 53) X dX9_storm_85 (by decide) ?_
              refine g_lv (lv' := [(0, .ref m), (1, .int (nI n)), (2, .int mse), (3, .int (nI tm)), (4, .int (nI (j + 1)))]) [2, 3, 4, 5, 0] rfl ?_
              exact ih53 (j + 1) H5 G5 F5 T5 (se_q + nI l5 + nI (lostN nb u5 6)) (nI (sN u5 42)) b5 (by omega) (hb1) (by rw [hb2]; exact hH5.toNf) (by rw [hb2]; have := hS5.toNf.sum; omega) (fun _ => by rw [hb2]; exact hS5.toNf.sum) (hb3) (by omega)
        refine g_lv (lv' := [(0, .ref m), (1, .int (nI n)), (2, .int mse), (3, .int (nI tm)), (4, .int (nI 0))]) [1, 2, 3, 4, 0] rfl ?_
        exact L53 (ns + 1) 0 H_p G_p F_p T_p se_p tq_p a_p (Nat.zero_le _) (hch_p) (hH_p) (hs_p) (hq_p) (hA_p) (by omega)
  refine g_lv (lv' := [(0, .ref m), (1, .int (nI n)), (2, .int mse), (3, .int (nI 0))]) [2, 3, 1, 0] rfl ?_
  exact L45 (n + 1) 0 Hm Gm Fm Tm mse mtp (h, (fun _ => 0), (fun _ => 0), (fun _ _ => 0), 0) (Nat.zero_le _) (by rw [Nat.zero_mul]; rfl) (hH) (hn) (fun z => by rw [Nat.zero_mul] at z; exact absurd z (by decide)) (ChA.start) (by omega)

theorem ok_X9_wind : okName yX9_wind 1 := by decide +kernel
set_option maxRecDepth 100000 in
set_option maxHeartbeats 4000000 in
theorem c_X9_wind1 (l : Launch) (D : va_G) (ai az al : ClassId) (m : Nat) (mh : Nat) (mg : Nat) (mt : Nat) (mf : Nat) (ms : Nat) (msT : Nat) (msF : Nat) (mgv : Nat) (mP : Nat) (mW : Nat) (mV : Nat) (mco : Nat) (men : Nat) (mnt : Nat) (tw : Int32) (mse : Int32) (mbr : Int32) (mwk : Int32) (mns : Int32) (mtp : Int32) (mss : Int32) (p0 : Int32) (hq : ¬ inN p0 1 9) : CI l D (tY ai az al) yX9_wind wsX9_wind { frames := 1, cells := 0, slots := 0, locals := 22 } [.ref m, .int p0] [(m, .inr (9, [.ref mh, .ref mg, .ref mt, .ref mf, .ref ms, .ref msT, .ref msF, .ref mgv, .ref mP, .ref mW, .ref mV, .ref mco, .ref men, .ref mnt, .int tw, .int mse, .int mbr, .int mwk, .int mns, .int mtp, .int mss]))] (fun (r : Int32) (u : Unit) => r = nI 0) (fun (u : Unit) => [(m, .inr (9, [.ref mh, .ref mg, .ref mt, .ref mf, .ref ms, .ref msT, .ref msF, .ref mgv, .ref mP, .ref mW, .ref mV, .ref mco, .ref men, .ref mnt, .int (nI 1), .int mse, .int mbr, .int mwk, .int mns, .int mtp, .int mss]))]) := by
  refine ofG_I (cc := cX9_wind) (nL := 5) (lv0 := [(0, .ref m), (1, .int p0)]) (by decide) rfl (Nat.le_of_ble_eq_true rfl) rfl ?_
  intro Γ X E
  refine g_aload_n X dX9_wind_0 rfl 0 rfl ?_
  refine g_iload_n X dX9_wind_1 rfl 1 rfl ?_
  refine g_iconst (v := nI 1) X dX9_wind_2 (by decide) ?_
  refine g_bipush (v := nI 9) X dX9_wind_3 (by decide) ?_
  refine g_callSi (As := [.int p0, .int (nI 1), .int (nI 9)]) (rest := [.ref m]) (wr := [(m, .inr (9, [.ref mh, .ref mg, .ref mt, .ref mf, .ref ms, .ref msT, .ref msF, .ref mgv, .ref mP, .ref mW, .ref mV, .ref mco, .ref men, .ref mnt, .int tw, .int mse, .int mbr, .int mwk, .int mns, .int mtp, .int mss]))]) X dX9_wind_5 (c_X9_inF l D ai az al p0 1 9 (by decide) (by decide) (hq)) gX9_wind_X9_in rfl rfl ok_X9_in rfl rfl (by decide) ⟨by decide, by decide⟩ (Nat.le_of_ble_eq_true rfl) [] [0] ⟨rfl, by decide, rfl, by decide, by decide⟩ (fun r1 u hp => ?_)
  obtain rfl := hp
  refine g_sub (k := 0) (n := 0) (ws' := [(m, .inr (9, [.ref mh, .ref mg, .ref mt, .ref mf, .ref ms, .ref msT, .ref msF, .ref mgv, .ref mP, .ref mW, .ref mV, .ref mco, .ref men, .ref mnt, .int tw, .int mse, .int mbr, .int mwk, .int mns, .int mtp, .int mss]))]) [0] (by decide) rfl ?_
  refine g_callVi (C := RX9) (As := [.int (nI 0)]) (rest := []) (wr := []) X dX9_wind_8 (c_X9_checkedF l D ai az al m mh mg mt mf ms msT msF mgv mP mW mV mco men mnt tw mse mbr mwk mns mtp mss ) gX9_wind_X9_checked rfl rfl ok_X9_checked rfl rfl (by decide) ⟨by decide, by decide⟩ (Nat.le_of_ble_eq_true rfl) [0] [] ⟨rfl, by decide, rfl, by decide, by decide⟩ 0 rfl rfl rfl (fun r2 u hp => ?_)
  obtain rfl := hp
  refine g_sub (k := 0) (n := 0) (ws' := [(m, .inr (9, [.ref mh, .ref mg, .ref mt, .ref mf, .ref ms, .ref msT, .ref msF, .ref mgv, .ref mP, .ref mW, .ref mV, .ref mco, .ref men, .ref mnt, .int (nI 1), .int mse, .int mbr, .int mwk, .int mns, .int mtp, .int mss]))]) [0] (by decide) rfl ?_
  refine g_if_leN (tgt := 16) X dX9_wind_11 (by decide) (by decide) (fun b11x => False.elim (by revert b11x; decide)) (fun b11x => ?_)
  refine g_iconst (v := nI 0) X dX9_wind_14 (by decide) ?_
  exact g_iret X E dX9_wind_15 () rfl (by decide) (by decide) (rfl)

theorem in_X9_wind_X9 : ∀ w ∈ u_ws RX9 TX9 21, w ∈ wsX9_wind := by decide +kernel
set_option maxRecDepth 100000 in
set_option maxHeartbeats 4000000 in
theorem c_X9_wind0 (l : Launch) (D : va_G) (ai az al : ClassId) (m : Nat) (mh : Nat) (mg : Nat) (mt : Nat) (mf : Nat) (ms : Nat) (msT : Nat) (msF : Nat) (mgv : Nat) (mP : Nat) (mW : Nat) (mV : Nat) (mco : Nat) (men : Nat) (mnt : Nat) (tw : Int32) (mse : Int32) (mbr : Int32) (mwk : Int32) (mns : Int32) (mtp : Int32) (mss : Int32) (Hm : Nat → Int32) (Gm : Nat → Int32) (Fm : Nat → Int32) (Tm : Nat → Int32) (Pm : Nat → Int32) (Wm : Nat → Int32) (Vm : Nat → Int32) (nb : Nat → Nat → Nat) (pl : Nat → Bool) (h : Nat → Nat) (n : Nat) (hW : NW nb) (hWm : WOK Wm nb) (hC : Cn nb) (hP : POK Pm pl) (hH : HOK Hm h) (hn : sN h 42 ≤ 440) (hn1 : 1 ≤ n) (hn9 : n ≤ 9) : CI l D (tY ai az al) yX9_wind wsX9_wind { frames := 4, cells := 0, slots := 0, locals := 90 } [.ref m, .int (nI n)] [(m, .inr (9, [.ref mh, .ref mg, .ref mt, .ref mf, .ref ms, .ref msT, .ref msF, .ref mgv, .ref mP, .ref mW, .ref mV, .ref mco, .ref men, .ref mnt, .int tw, .int mse, .int mbr, .int mwk, .int mns, .int mtp, .int mss])), (mh, .inl (ai, 42, .inl Hm)), (mg, .inl (ai, 42, .inl Gm)), (mf, .inl (ai, 168, .inl Fm)), (mt, .inl (ai, 42, .inl Tm)), (mP, .inl (az, 42, .inl Pm)), (mW, .inl (az, 168, .inl Wm)), (mgv, .inl (ai, 42, .inl Vm))] (fun (r : Int32) (u : (Nat → Int32) × (Nat → Int32) × (Nat → Int32) × (Nat → Nat) × (Nat → Nat) × (Nat → Int32) × (Nat → Int32)) => r = nI (cB (gvB pl nb h n) 42) ∧ (∀ c, c < 42 → u.2.2.2.2.2.1 c = Gm c + wD (gvB pl nb h n) 0 c) ∧ Stl nb pl (wH (gvB pl nb h n) h 0) u.2.2.2.1 u.2.2.2.2.1 ∧ HOK u.1 u.2.2.2.1 ∧ FlowTo nb u.2.2.2.2.1 Fm u.2.1 ∧ (∀ c, c < 42 → u.2.2.1 c = Tm c + nI (u.2.2.2.2.1 c))) (fun (u : (Nat → Int32) × (Nat → Int32) × (Nat → Int32) × (Nat → Nat) × (Nat → Nat) × (Nat → Int32) × (Nat → Int32)) => [(m, .inr (9, [.ref mh, .ref mg, .ref mt, .ref mf, .ref ms, .ref msT, .ref msF, .ref mgv, .ref mP, .ref mW, .ref mV, .ref mco, .ref men, .ref mnt, .int (nI 0), .int (mse + nI (lostN nb u.2.2.2.2.1 6)), .int mbr, .int mwk, .int mns, .int (nI (sN u.2.2.2.2.1 42)), .int mss])), (mh, .inl (ai, 42, .inl u.1)), (mg, .inl (ai, 42, .inl u.2.2.2.2.2.1)), (mf, .inl (ai, 168, .inl u.2.1)), (mt, .inl (ai, 42, .inl u.2.2.1)), (mP, .inl (az, 42, .inl Pm)), (mW, .inl (az, 168, .inl Wm)), (mgv, .inl (ai, 42, .inl u.2.2.2.2.2.2))]) := by
  refine ofG_I (cc := cX9_wind) (nL := 5) (lv0 := [(0, .ref m), (1, .int (nI n))]) (by decide) rfl (Nat.le_of_ble_eq_true rfl) rfl ?_
  intro Γ X E
  have hNB := hW.nb
  refine g_aload_n X dX9_wind_0 rfl 0 rfl ?_
  refine g_iload_n X dX9_wind_1 rfl 1 rfl ?_
  refine g_iconst (v := nI 1) X dX9_wind_2 (by decide) ?_
  refine g_bipush (v := nI 9) X dX9_wind_3 (by decide) ?_
  refine g_callSi (As := [.int (nI n), .int (nI 1), .int (nI 9)]) (rest := [.ref m]) (wr := [(m, .inr (9, [.ref mh, .ref mg, .ref mt, .ref mf, .ref ms, .ref msT, .ref msF, .ref mgv, .ref mP, .ref mW, .ref mV, .ref mco, .ref men, .ref mnt, .int tw, .int mse, .int mbr, .int mwk, .int mns, .int mtp, .int mss])), (mh, .inl (ai, 42, .inl Hm)), (mg, .inl (ai, 42, .inl Gm)), (mf, .inl (ai, 168, .inl Fm)), (mt, .inl (ai, 42, .inl Tm)), (mP, .inl (az, 42, .inl Pm)), (mW, .inl (az, 168, .inl Wm)), (mgv, .inl (ai, 42, .inl Vm))]) X dX9_wind_5 (c_X9_inT l D ai az al (nI n) 1 9 (by decide) (by decide) (⟨n, hn1, hn9, rfl⟩)) gX9_wind_X9_in rfl rfl ok_X9_in rfl rfl (by decide) ⟨by decide, by decide⟩ (Nat.le_of_ble_eq_true rfl) [] [0, 1, 2, 3, 4, 5, 6, 7] ⟨rfl, by decide, rfl, by decide, by decide⟩ (fun r1 u hp => ?_)
  obtain rfl := hp
  refine g_sub (k := 0) (n := 0) (ws' := [(m, .inr (9, [.ref mh, .ref mg, .ref mt, .ref mf, .ref ms, .ref msT, .ref msF, .ref mgv, .ref mP, .ref mW, .ref mV, .ref mco, .ref men, .ref mnt, .int tw, .int mse, .int mbr, .int mwk, .int mns, .int mtp, .int mss])), (mh, .inl (ai, 42, .inl Hm)), (mg, .inl (ai, 42, .inl Gm)), (mf, .inl (ai, 168, .inl Fm)), (mt, .inl (ai, 42, .inl Tm)), (mP, .inl (az, 42, .inl Pm)), (mW, .inl (az, 168, .inl Wm)), (mgv, .inl (ai, 42, .inl Vm))]) [0, 1, 2, 3, 4, 5, 6, 7] (by decide) rfl ?_
  refine g_callVi (C := RX9) (As := [.int (nI 1)]) (rest := []) (wr := [(mh, .inl (ai, 42, .inl Hm)), (mg, .inl (ai, 42, .inl Gm)), (mf, .inl (ai, 168, .inl Fm)), (mt, .inl (ai, 42, .inl Tm)), (mP, .inl (az, 42, .inl Pm)), (mW, .inl (az, 168, .inl Wm)), (mgv, .inl (ai, 42, .inl Vm))]) X dX9_wind_8 (c_X9_checkedT l D ai az al m mh mg mt mf ms msT msF mgv mP mW mV mco men mnt tw mse mbr mwk mns mtp mss ) gX9_wind_X9_checked rfl rfl ok_X9_checked rfl rfl (by decide) ⟨by decide, by decide⟩ (Nat.le_of_ble_eq_true rfl) [0] [1, 2, 3, 4, 5, 6, 7] ⟨rfl, by decide, rfl, by decide, by decide⟩ 0 rfl rfl rfl (fun r2 u hp => ?_)
  obtain rfl := hp
  refine g_sub (k := 0) (n := 0) (ws' := [(m, .inr (9, [.ref mh, .ref mg, .ref mt, .ref mf, .ref ms, .ref msT, .ref msF, .ref mgv, .ref mP, .ref mW, .ref mV, .ref mco, .ref men, .ref mnt, .int (nI 0), .int mse, .int mbr, .int mwk, .int mns, .int mtp, .int mss])), (mh, .inl (ai, 42, .inl Hm)), (mg, .inl (ai, 42, .inl Gm)), (mf, .inl (ai, 168, .inl Fm)), (mt, .inl (ai, 42, .inl Tm)), (mP, .inl (az, 42, .inl Pm)), (mW, .inl (az, 168, .inl Wm)), (mgv, .inl (ai, 42, .inl Vm))]) [7, 0, 1, 2, 3, 4, 5, 6] (by decide) rfl ?_
  refine g_if_leN (tgt := 16) X dX9_wind_11 (by decide) (by decide) (fun b11x => ?_) (fun b11x => False.elim (by revert b11x; decide))
  refine g_iconst (v := nI 0) X dX9_wind_16 (by decide) ?_
  refine g_istore_n (lv' := [(2, .int (nI 0)), (0, .ref m), (1, .int (nI n))]) X dX9_wind_17 rfl (by decide) rfl ?_
  refine g_iconst (v := nI 0) X dX9_wind_18 (by decide) ?_
  refine g_istore_n (lv' := [(3, .int (nI 0)), (2, .int (nI 0)), (0, .ref m), (1, .int (nI n))]) X dX9_wind_19 rfl (by decide) rfl ?_
  have L20 : ∀ (fl : Nat) (i : Nat) (v : Nat → Int32), (i ≤ 42) → (∀ j, j < i → v j = (fun j => nI (bn ((gvB pl nb h n) j))) j) → (43 ≤ i + fl) → G Γ 5 0 0 [(m, .inr (9, [.ref mh, .ref mg, .ref mt, .ref mf, .ref ms, .ref msT, .ref msF, .ref mgv, .ref mP, .ref mW, .ref mV, .ref mco, .ref men, .ref mnt, .int (nI 0), .int mse, .int mbr, .int mwk, .int mns, .int mtp, .int mss])), (mh, .inl (ai, 42, .inl Hm)), (mg, .inl (ai, 42, .inl Gm)), (mf, .inl (ai, 168, .inl Fm)), (mt, .inl (ai, 42, .inl Tm)), (mP, .inl (az, 42, .inl Pm)), (mW, .inl (az, 168, .inl Wm)), (mgv, .inl (ai, 42, .inl v))] [(0, .ref m), (1, .int (nI n)), (2, .int (nI 0)), (3, .int (nI i))] 20 [] := by
    intro fl
    induction fl with
    | zero => intro i v hi hv hm; exact absurd hm (by omega)
    | succ fl ih20 =>
      intro i v hi hv hm
      refine g_iload_n X dX9_wind_20 rfl 3 rfl ?_
      refine g_bipush (v := nI 42) X dX9_wind_21 (by decide) ?_
      refine g_icmp_geN (tgt := 71) X dX9_wind_23 (by decide) (by omega) (by omega) (fun b23 => ?_) (fun b23 => ?_)
      · refine g_iconst (v := nI 0) X dX9_wind_71 (by decide) ?_
        refine g_istore_n (lv' := [(3, .int (nI 0)), (0, .ref m), (1, .int (nI n)), (2, .int (nI 0))]) X dX9_wind_72 rfl (by decide) rfl ?_
        have L73 : ∀ (fm : Nat) (i : Nat) (k : Nat) (Ha : Nat → Int32) (Ga : Nat → Int32), (i ≤ 42) → (HOK Ha (wHa (gvB pl nb h n) h i)) → (∀ c, c < 42 → Ga c = Gm c + wDa (gvB pl nb h n) i c) → (k = cB (gvB pl nb h n) i) → (43 ≤ i + fm) → G Γ 5 0 0 [(m, .inr (9, [.ref mh, .ref mg, .ref mt, .ref mf, .ref ms, .ref msT, .ref msF, .ref mgv, .ref mP, .ref mW, .ref mV, .ref mco, .ref men, .ref mnt, .int (nI 0), .int mse, .int mbr, .int mwk, .int mns, .int mtp, .int mss])), (mh, .inl (ai, 42, .inl Ha)), (mg, .inl (ai, 42, .inl Ga)), (mf, .inl (ai, 168, .inl Fm)), (mt, .inl (ai, 42, .inl Tm)), (mP, .inl (az, 42, .inl Pm)), (mW, .inl (az, 168, .inl Wm)), (mgv, .inl (ai, 42, .inl v))] [(0, .ref m), (1, .int (nI n)), (2, .int (nI k)), (3, .int (nI i))] 73 [] := by
          intro fm
          induction fm with
          | zero => intro i k Ha Ga hi2 hHa hGa hk hm2; exact absurd hm2 (by omega)
          | succ fm ih73 =>
            intro i k Ha Ga hi2 hHa hGa hk hm2
            refine g_iload_n X dX9_wind_73 rfl 3 rfl ?_
            refine g_bipush (v := nI 42) X dX9_wind_74 (by decide) ?_
            refine g_icmp_geN (tgt := 149) X dX9_wind_76 (by decide) (by omega) (by omega) (fun b76 => ?_) (fun b76 => ?_)
            · refine g_aload_n X dX9_wind_149 rfl 0 rfl ?_
              refine g_callVi (C := RX9) (As := []) (rest := []) (wr := [(mg, .inl (ai, 42, .inl Ga)), (mgv, .inl (ai, 42, .inl v))]) X dX9_wind_150 (c_X9_settles l D ai az al m mh mg mt mf ms msT msF mgv mP mW mV mco men mnt (nI 0) mse mbr mwk mns mtp mss Ha Fm Tm Pm Wm nb pl (wH (gvB pl nb h n) h 0) (hW) (hWm) (hC) (hP) (by rw [show i = 42 by omega] at hHa; exact hHa.congr (fun c hc => wHa_e c hc)) (by have := wH_sum (gvB pl nb h n) h; omega)) gX9_wind_X9_settles rfl rfl ok_X9_settles rfl rfl (by decide) ⟨by decide, by decide⟩ (Nat.le_of_ble_eq_true rfl) [0, 1, 3, 4, 5, 6] [2, 7] ⟨rfl, by decide, rfl, by decide, by decide⟩ 0 rfl rfl rfl (fun r3 u hp => ?_)
              obtain ⟨H5, F5, T5, h5, u5⟩ := u
              try dsimp only at hp
              obtain ⟨rfl, hS5, hH5, hF5, hT5⟩ := hp
              refine g_sub (k := 0) (n := 0) (ws' := [(m, .inr (9, [.ref mh, .ref mg, .ref mt, .ref mf, .ref ms, .ref msT, .ref msF, .ref mgv, .ref mP, .ref mW, .ref mV, .ref mco, .ref men, .ref mnt, .int (nI 0), .int (mse + nI (lostN nb u5 6)), .int mbr, .int mwk, .int mns, .int (nI (sN u5 42)), .int mss])), (mh, .inl (ai, 42, .inl H5)), (mg, .inl (ai, 42, .inl Ga)), (mf, .inl (ai, 168, .inl F5)), (mt, .inl (ai, 42, .inl T5)), (mP, .inl (az, 42, .inl Pm)), (mW, .inl (az, 168, .inl Wm)), (mgv, .inl (ai, 42, .inl v))]) [2, 3, 0, 4, 5, 6, 7, 1] (by decide) rfl ?_
              refine g_istore_n (lv' := [(3, .int (nI (sN u5 42))), (0, .ref m), (1, .int (nI n)), (2, .int (nI k))]) X dX9_wind_153 rfl (by decide) rfl ?_
              refine g_iload_n X dX9_wind_154 rfl 3 rfl ?_
              exact g_iret X E dX9_wind_155 (⟨H5, F5, T5, h5, u5, Ga, v⟩) rfl (by decide) (by decide) (⟨by rw [hk, show i = 42 by omega], fun c hc => by show Ga c = _; rw [hGa c hc, show i = 42 by omega, wDa_e c hc], hS5, hH5, hF5, hT5⟩)
            · refine g_aload_n X dX9_wind_79 rfl 0 rfl ?_
              refine g_getf (T := TX9) (v := .ref mgv) X dX9_wind_80 0 rfl rfl in_X9_wind_X9 7 (by decide) (by decide +kernel) rfl rfl ?_
              refine g_iload_n X dX9_wind_83 rfl 3 rfl ?_
              refine g_ialdN (v := nI (bn ((gvB pl nb h n) i))) X dX9_wind_84 7 0 rfl rfl (by omega) (by omega) (hv i (by omega)) ?_
              refine g_if_neN (tgt := 91) X dX9_wind_85 (by decide) (bn_lt _) (fun b85 => ?_) (fun b85 => ?_)
              · have hgv : (gvB pl nb h n) i = true := bn_n.mp b85
                have hg := gv_gives hNB (show i < 42 by omega) hgv
                have hpos : 0 < h i := by have := (gvB_iff.mp hgv).2.1; omega
                refine g_iload_n X dX9_wind_91 rfl 3 rfl ?_
                refine g_iconst (v := nI 1) X dX9_wind_92 (by decide) ?_
                refine g_callSi (As := [.int (nI i), .int (nI 1)]) (rest := []) (wr := [(m, .inr (9, [.ref mh, .ref mg, .ref mt, .ref mf, .ref ms, .ref msT, .ref msF, .ref mgv, .ref mP, .ref mW, .ref mV, .ref mco, .ref men, .ref mnt, .int (nI 0), .int mse, .int mbr, .int mwk, .int mns, .int mtp, .int mss])), (mh, .inl (ai, 42, .inl Ha)), (mg, .inl (ai, 42, .inl Ga)), (mf, .inl (ai, 168, .inl Fm)), (mt, .inl (ai, 42, .inl Tm)), (mP, .inl (az, 42, .inl Pm)), (mW, .inl (az, 168, .inl Wm)), (mgv, .inl (ai, 42, .inl v))]) X dX9_wind_93 (c_X9_behind l D ai az al i 1 (by omega) (by decide)) gX9_wind_X9_behind rfl rfl ok_X9_behind rfl rfl (by decide) ⟨by decide, by decide⟩ (Nat.le_of_ble_eq_true rfl) [] [0, 1, 2, 3, 4, 5, 6, 7] ⟨rfl, by decide, rfl, by decide, by decide⟩ (fun r4 u hp => ?_)
                obtain rfl := hp
                refine g_sub (k := 0) (n := 0) (ws' := [(m, .inr (9, [.ref mh, .ref mg, .ref mt, .ref mf, .ref ms, .ref msT, .ref msF, .ref mgv, .ref mP, .ref mW, .ref mV, .ref mco, .ref men, .ref mnt, .int (nI 0), .int mse, .int mbr, .int mwk, .int mns, .int mtp, .int mss])), (mh, .inl (ai, 42, .inl Ha)), (mg, .inl (ai, 42, .inl Ga)), (mf, .inl (ai, 168, .inl Fm)), (mt, .inl (ai, 42, .inl Tm)), (mP, .inl (az, 42, .inl Pm)), (mW, .inl (az, 168, .inl Wm)), (mgv, .inl (ai, 42, .inl v))]) [0, 1, 2, 3, 4, 5, 6, 7] (by decide) rfl ?_
                rw [show cd (bN i 1) = nI (i + 6) by rw [← hW.op (by omega) (by decide) (by rw [hg.1]; omega), hg.1]; exact cd_lt hg.2]
                refine g_istore (lv' := [(4, .int (nI (i + 6))), (0, .ref m), (1, .int (nI n)), (2, .int (nI k)), (3, .int (nI i))]) X dX9_wind_96 (by decide) rfl ?_
                refine g_aload_n X dX9_wind_98 rfl 1 rfl ?_
                refine g_getf (T := TX9) (v := .ref mh) X dX9_wind_99 0 rfl rfl in_X9_wind_X9 0 (by decide) (by decide +kernel) rfl rfl ?_
                refine g_iload_n X dX9_wind_102 rfl 4 rfl ?_
                refine g_dup2 X dX9_wind_103 rfl rfl ?_
                refine g_ialdN (v := (Ha i)) X dX9_wind_104 1 0 rfl rfl (by omega) (by omega) (rfl) ?_
                refine g_iconst (v := nI 1) X dX9_wind_105 (by decide) ?_
                refine g_isub (v := ((Ha i) - nI 1)) X dX9_wind_106 (rfl) ?_
                refine g_iastN (g' := upd Ha i ((Ha i) - nI 1)) (ws' := [(m, .inr (9, [.ref mh, .ref mg, .ref mt, .ref mf, .ref ms, .ref msT, .ref msF, .ref mgv, .ref mP, .ref mW, .ref mV, .ref mco, .ref men, .ref mnt, .int (nI 0), .int mse, .int mbr, .int mwk, .int mns, .int mtp, .int mss])), (mh, .inl (ai, 42, .inl (upd Ha i ((Ha i) - nI 1)))), (mg, .inl (ai, 42, .inl Ga)), (mf, .inl (ai, 168, .inl Fm)), (mt, .inl (ai, 42, .inl Tm)), (mP, .inl (az, 42, .inl Pm)), (mW, .inl (az, 168, .inl Wm)), (mgv, .inl (ai, 42, .inl v))]) X dX9_wind_107 1 0 rfl rfl (by omega) (by omega) (rfl) rfl ?_
                refine g_aload_n X dX9_wind_108 rfl 1 rfl ?_
                refine g_getf (T := TX9) (v := .ref mg) X dX9_wind_109 0 rfl rfl in_X9_wind_X9 1 (by decide) (by decide +kernel) rfl rfl ?_
                refine g_iload_n X dX9_wind_112 rfl 4 rfl ?_
                refine g_dup2 X dX9_wind_113 rfl rfl ?_
                refine g_ialdN (v := (Ga i)) X dX9_wind_114 2 0 rfl rfl (by omega) (by omega) (rfl) ?_
                refine g_iconst (v := nI 1) X dX9_wind_115 (by decide) ?_
                refine g_isub (v := ((Ga i) - nI 1)) X dX9_wind_116 (rfl) ?_
                refine g_iastN (g' := upd Ga i ((Ga i) - nI 1)) (ws' := [(m, .inr (9, [.ref mh, .ref mg, .ref mt, .ref mf, .ref ms, .ref msT, .ref msF, .ref mgv, .ref mP, .ref mW, .ref mV, .ref mco, .ref men, .ref mnt, .int (nI 0), .int mse, .int mbr, .int mwk, .int mns, .int mtp, .int mss])), (mh, .inl (ai, 42, .inl (upd Ha i ((Ha i) - nI 1)))), (mg, .inl (ai, 42, .inl (upd Ga i ((Ga i) - nI 1)))), (mf, .inl (ai, 168, .inl Fm)), (mt, .inl (ai, 42, .inl Tm)), (mP, .inl (az, 42, .inl Pm)), (mW, .inl (az, 168, .inl Wm)), (mgv, .inl (ai, 42, .inl v))]) X dX9_wind_117 2 0 rfl rfl (by omega) (by omega) (rfl) rfl ?_
                refine g_aload_n X dX9_wind_118 rfl 1 rfl ?_
                refine g_getf (T := TX9) (v := .ref mh) X dX9_wind_119 0 rfl rfl in_X9_wind_X9 0 (by decide) (by decide +kernel) rfl rfl ?_
                refine g_iload X dX9_wind_122 0 rfl ?_
                refine g_dup2 X dX9_wind_124 rfl rfl ?_
                refine g_ialdN (v := ((upd Ha i ((Ha i) - nI 1)) (i + 6))) X dX9_wind_125 1 0 rfl rfl (by omega) (by omega) (rfl) ?_
                refine g_iconst (v := nI 1) X dX9_wind_126 (by decide) ?_
                refine g_iadd (v := (((upd Ha i ((Ha i) - nI 1)) (i + 6)) + nI 1)) X dX9_wind_127 (rfl) ?_
                refine g_iastN (g' := upd (upd Ha i ((Ha i) - nI 1)) (i + 6) (((upd Ha i ((Ha i) - nI 1)) (i + 6)) + nI 1)) (ws' := [(m, .inr (9, [.ref mh, .ref mg, .ref mt, .ref mf, .ref ms, .ref msT, .ref msF, .ref mgv, .ref mP, .ref mW, .ref mV, .ref mco, .ref men, .ref mnt, .int (nI 0), .int mse, .int mbr, .int mwk, .int mns, .int mtp, .int mss])), (mh, .inl (ai, 42, .inl (upd (upd Ha i ((Ha i) - nI 1)) (i + 6) (((upd Ha i ((Ha i) - nI 1)) (i + 6)) + nI 1)))), (mg, .inl (ai, 42, .inl (upd Ga i ((Ga i) - nI 1)))), (mf, .inl (ai, 168, .inl Fm)), (mt, .inl (ai, 42, .inl Tm)), (mP, .inl (az, 42, .inl Pm)), (mW, .inl (az, 168, .inl Wm)), (mgv, .inl (ai, 42, .inl v))]) X dX9_wind_128 1 0 rfl rfl (by omega) (by omega) (rfl) rfl ?_
                refine g_aload_n X dX9_wind_129 rfl 1 rfl ?_
                refine g_getf (T := TX9) (v := .ref mg) X dX9_wind_130 0 rfl rfl in_X9_wind_X9 1 (by decide) (by decide +kernel) rfl rfl ?_
                refine g_iload X dX9_wind_133 0 rfl ?_
                refine g_dup2 X dX9_wind_135 rfl rfl ?_
                refine g_ialdN (v := ((upd Ga i ((Ga i) - nI 1)) (i + 6))) X dX9_wind_136 2 0 rfl rfl (by omega) (by omega) (rfl) ?_
                refine g_iconst (v := nI 1) X dX9_wind_137 (by decide) ?_
                refine g_iadd (v := (((upd Ga i ((Ga i) - nI 1)) (i + 6)) + nI 1)) X dX9_wind_138 (rfl) ?_
                refine g_iastN (g' := upd (upd Ga i ((Ga i) - nI 1)) (i + 6) (((upd Ga i ((Ga i) - nI 1)) (i + 6)) + nI 1)) (ws' := [(m, .inr (9, [.ref mh, .ref mg, .ref mt, .ref mf, .ref ms, .ref msT, .ref msF, .ref mgv, .ref mP, .ref mW, .ref mV, .ref mco, .ref men, .ref mnt, .int (nI 0), .int mse, .int mbr, .int mwk, .int mns, .int mtp, .int mss])), (mh, .inl (ai, 42, .inl (upd (upd Ha i ((Ha i) - nI 1)) (i + 6) (((upd Ha i ((Ha i) - nI 1)) (i + 6)) + nI 1)))), (mg, .inl (ai, 42, .inl (upd (upd Ga i ((Ga i) - nI 1)) (i + 6) (((upd Ga i ((Ga i) - nI 1)) (i + 6)) + nI 1)))), (mf, .inl (ai, 168, .inl Fm)), (mt, .inl (ai, 42, .inl Tm)), (mP, .inl (az, 42, .inl Pm)), (mW, .inl (az, 168, .inl Wm)), (mgv, .inl (ai, 42, .inl v))]) X dX9_wind_139 2 0 rfl rfl (by omega) (by omega) (rfl) rfl ?_
                refine g_iinc (v := nI (k + 1)) (lv' := [(2, .int (nI (k + 1))), (4, .int (nI (i + 6))), (0, .ref m), (1, .int (nI n)), (3, .int (nI i))]) X dX9_wind_140 3 rfl (nI_inc _) (by decide) rfl ?_
                refine g_iinc (v := nI (i + 1)) (lv' := [(3, .int (nI (i + 1))), (2, .int (nI (k + 1))), (4, .int (nI (i + 6))), (0, .ref m), (1, .int (nI n))]) X dX9_wind_143 4 rfl (nI_inc _) (by decide) rfl ?_
                refine g_goto (tgt := 73) X dX9_wind_146 (by decide) ?_
                refine g_lv (lv' := [(0, .ref m), (1, .int (nI n)), (2, .int (nI (k + 1))), (3, .int (nI (i + 1)))]) [3, 4, 1, 0] rfl ?_
                exact ih73 (i + 1) (k + 1) (upd (upd Ha i ((Ha i) - nI 1)) (i + 6) (((upd Ha i ((Ha i) - nI 1)) (i + 6)) + nI 1)) (upd (upd Ga i ((Ga i) - nI 1)) (i + 6) (((upd Ga i ((Ga i) - nI 1)) (i + 6)) + nI 1)) (by omega) (wHa_step hg.2 hgv hpos hHa) (wDa_step hg.2 hgv hGa) (by rw [cB_s, hgv, hk]; rfl) (by omega)
              · have hgv : (gvB pl nb h n) i = false := bn_0.mp b85
                refine g_goto (tgt := 143) X dX9_wind_88 (by decide) ?_
                refine g_iinc (v := nI (i + 1)) (lv' := [(3, .int (nI (i + 1))), (0, .ref m), (1, .int (nI n)), (2, .int (nI k))]) X dX9_wind_143 3 rfl (nI_inc _) (by decide) rfl ?_
                refine g_goto (tgt := 73) X dX9_wind_146 (by decide) ?_
                refine g_lv (lv' := [(0, .ref m), (1, .int (nI n)), (2, .int (nI k)), (3, .int (nI (i + 1)))]) [1, 2, 3, 0] rfl ?_
                exact ih73 (i + 1) _ Ha Ga (by omega) (hHa.congr (fun c _ => (wHa_n hgv c).symm)) (fun c hc => by rw [wDa_n hgv c]; exact hGa c hc) (by rw [cB_s, hgv, hk]; rfl) (by omega)
        refine g_lv (lv' := [(0, .ref m), (1, .int (nI n)), (2, .int (nI 0)), (3, .int (nI 0))]) [1, 2, 3, 0] rfl ?_
        exact L73 43 0 0 Hm Gm (by decide) (hH.congr (fun c _ => (wHa_0 c).symm)) (fun c _ => by rw [wDa_0]; exact (Int32.add_zero _).symm) (rfl) (by decide)
      · have hi42 : i < 42 := by omega
        have hbi : h i < 2 ^ 31 := Nat.lt_of_le_of_lt (Nat.le_trans (sN_one hi42) hn) (by decide)
        refine g_aload_n X dX9_wind_26 rfl 0 rfl ?_
        refine g_getf (T := TX9) (v := .ref mgv) X dX9_wind_27 0 rfl rfl in_X9_wind_X9 7 (by decide) (by decide +kernel) rfl rfl ?_
        refine g_iload_n X dX9_wind_30 rfl 3 rfl ?_
        refine g_aload_n X dX9_wind_31 rfl 0 rfl ?_
        refine g_getf (T := TX9) (v := .ref mP) X dX9_wind_32 0 rfl rfl in_X9_wind_X9 8 (by decide) (by decide +kernel) rfl rfl ?_
        refine g_iload_n X dX9_wind_35 rfl 3 rfl ?_
        refine g_zaldN (v := (Pm i)) X dX9_wind_36 5 1 rfl rfl (by omega) (by omega) (rfl) ?_
        refine g_if_ne (tgt := 63) X dX9_wind_37 (by decide) (fun b37 => ?_) (fun b37 => ?_)
        · refine g_iconst (v := nI 0) X dX9_wind_63 (by decide) ?_
          refine g_iastN (g' := upd v i (nI 0)) (ws' := [(m, .inr (9, [.ref mh, .ref mg, .ref mt, .ref mf, .ref ms, .ref msT, .ref msF, .ref mgv, .ref mP, .ref mW, .ref mV, .ref mco, .ref men, .ref mnt, .int (nI 0), .int mse, .int mbr, .int mwk, .int mns, .int mtp, .int mss])), (mh, .inl (ai, 42, .inl Hm)), (mg, .inl (ai, 42, .inl Gm)), (mf, .inl (ai, 168, .inl Fm)), (mt, .inl (ai, 42, .inl Tm)), (mP, .inl (az, 42, .inl Pm)), (mW, .inl (az, 168, .inl Wm)), (mgv, .inl (ai, 42, .inl (upd v i (nI 0))))]) X dX9_wind_64 7 0 rfl rfl (by omega) (by omega) (rfl) rfl ?_
          refine g_iinc (v := nI (i + 1)) (lv' := [(3, .int (nI (i + 1))), (0, .ref m), (1, .int (nI n)), (2, .int (nI 0))]) X dX9_wind_65 3 rfl (nI_inc _) (by decide) rfl ?_
          refine g_goto (tgt := 20) X dX9_wind_68 (by decide) ?_
          refine g_lv (lv' := [(0, .ref m), (1, .int (nI n)), (2, .int (nI 0)), (3, .int (nI (i + 1)))]) [1, 2, 3, 0] rfl ?_
          exact ih20 (i + 1) (upd v i (nI 0)) (by omega) (agree_upd hv (by
              show _ = nI (bn ((gvB pl nb h n) i))
              first
              | (rw [gvB_iff.mpr ⟨(hP.z hi42).mp b37, b47, of_decide_eq_true (bn_n.mp b56)⟩]; rfl)
              | (have e : (gvB pl nb h n) i = false := by
                   cases z : (gvB pl nb h n) i
                   · rfl
                   · exfalso
                     have q := gvB_iff.mp z
                     first
                     | (have q2 := hP.n hi42 b37; rw [q.1] at q2; cases q2)
                     | omega
                     | exact of_decide_eq_false (bn_0.mp b56) q.2.2
                 rw [e]; rfl))) (by omega)
        · refine g_aload_n X dX9_wind_40 rfl 0 rfl ?_
          refine g_getf (T := TX9) (v := .ref mh) X dX9_wind_41 0 rfl rfl in_X9_wind_X9 0 (by decide) (by decide +kernel) rfl rfl ?_
          refine g_iload_n X dX9_wind_44 rfl 3 rfl ?_
          refine g_ialdN (v := nI (h i)) X dX9_wind_45 1 0 rfl rfl (by omega) (by omega) (hH i hi42) ?_
          refine g_iload_n X dX9_wind_46 rfl 1 rfl ?_
          refine g_icmp_ltN (tgt := 63) X dX9_wind_47 (by decide) hbi (by omega) (fun b47 => ?_) (fun b47 => ?_)
          · refine g_iconst (v := nI 0) X dX9_wind_63 (by decide) ?_
            refine g_iastN (g' := upd v i (nI 0)) (ws' := [(m, .inr (9, [.ref mh, .ref mg, .ref mt, .ref mf, .ref ms, .ref msT, .ref msF, .ref mgv, .ref mP, .ref mW, .ref mV, .ref mco, .ref men, .ref mnt, .int (nI 0), .int mse, .int mbr, .int mwk, .int mns, .int mtp, .int mss])), (mh, .inl (ai, 42, .inl Hm)), (mg, .inl (ai, 42, .inl Gm)), (mf, .inl (ai, 168, .inl Fm)), (mt, .inl (ai, 42, .inl Tm)), (mP, .inl (az, 42, .inl Pm)), (mW, .inl (az, 168, .inl Wm)), (mgv, .inl (ai, 42, .inl (upd v i (nI 0))))]) X dX9_wind_64 7 0 rfl rfl (by omega) (by omega) (rfl) rfl ?_
            refine g_iinc (v := nI (i + 1)) (lv' := [(3, .int (nI (i + 1))), (0, .ref m), (1, .int (nI n)), (2, .int (nI 0))]) X dX9_wind_65 3 rfl (nI_inc _) (by decide) rfl ?_
            refine g_goto (tgt := 20) X dX9_wind_68 (by decide) ?_
            refine g_lv (lv' := [(0, .ref m), (1, .int (nI n)), (2, .int (nI 0)), (3, .int (nI (i + 1)))]) [1, 2, 3, 0] rfl ?_
            exact ih20 (i + 1) (upd v i (nI 0)) (by omega) (agree_upd hv (by
              show _ = nI (bn ((gvB pl nb h n) i))
              first
              | (rw [gvB_iff.mpr ⟨(hP.z hi42).mp b37, b47, of_decide_eq_true (bn_n.mp b56)⟩]; rfl)
              | (have e : (gvB pl nb h n) i = false := by
                   cases z : (gvB pl nb h n) i
                   · rfl
                   · exfalso
                     have q := gvB_iff.mp z
                     first
                     | (have q2 := hP.n hi42 b37; rw [q.1] at q2; cases q2)
                     | omega
                     | exact of_decide_eq_false (bn_0.mp b56) q.2.2
                 rw [e]; rfl))) (by omega)
          · refine g_aload_n X dX9_wind_50 rfl 0 rfl ?_
            refine g_iload_n X dX9_wind_51 rfl 3 rfl ?_
            refine g_iconst (v := nI 1) X dX9_wind_52 (by decide) ?_
            refine g_callVi (C := RX9) (As := [.int (nI i), .int (nI 1)]) (rest := [.int (nI i), .ref mgv]) (wr := [(mh, .inl (ai, 42, .inl Hm)), (mg, .inl (ai, 42, .inl Gm)), (mf, .inl (ai, 168, .inl Fm)), (mt, .inl (ai, 42, .inl Tm)), (mP, .inl (az, 42, .inl Pm)), (mgv, .inl (ai, 42, .inl v))]) X dX9_wind_53 (c_X9_isOpen l D ai az al m mh mg mt mf ms msT msF mgv mP mW mV mco men mnt (nI 0) mse mbr mwk mns mtp mss Wm nb i 1 (hi42) (by decide) (hW) (hWm)) gX9_wind_X9_isOpen rfl rfl ok_X9_isOpen rfl rfl (by decide) ⟨by decide, by decide⟩ (Nat.le_of_ble_eq_true rfl) [0, 6] [1, 2, 3, 4, 5, 7] ⟨rfl, by decide, rfl, by decide, by decide⟩ 0 rfl rfl rfl (fun r5 u hp => ?_)
            obtain rfl := hp
            refine g_sub (k := 0) (n := 0) (ws' := [(m, .inr (9, [.ref mh, .ref mg, .ref mt, .ref mf, .ref ms, .ref msT, .ref msF, .ref mgv, .ref mP, .ref mW, .ref mV, .ref mco, .ref men, .ref mnt, .int (nI 0), .int mse, .int mbr, .int mwk, .int mns, .int mtp, .int mss])), (mh, .inl (ai, 42, .inl Hm)), (mg, .inl (ai, 42, .inl Gm)), (mf, .inl (ai, 168, .inl Fm)), (mt, .inl (ai, 42, .inl Tm)), (mP, .inl (az, 42, .inl Pm)), (mW, .inl (az, 168, .inl Wm)), (mgv, .inl (ai, 42, .inl v))]) [6, 0, 1, 2, 3, 4, 7, 5] (by decide) rfl ?_
            refine g_if_eqN (tgt := 63) X dX9_wind_56 (by decide) (bn_lt _) (fun b56 => ?_) (fun b56 => ?_)
            · refine g_iconst (v := nI 0) X dX9_wind_63 (by decide) ?_
              refine g_iastN (g' := upd v i (nI 0)) (ws' := [(m, .inr (9, [.ref mh, .ref mg, .ref mt, .ref mf, .ref ms, .ref msT, .ref msF, .ref mgv, .ref mP, .ref mW, .ref mV, .ref mco, .ref men, .ref mnt, .int (nI 0), .int mse, .int mbr, .int mwk, .int mns, .int mtp, .int mss])), (mh, .inl (ai, 42, .inl Hm)), (mg, .inl (ai, 42, .inl Gm)), (mf, .inl (ai, 168, .inl Fm)), (mt, .inl (ai, 42, .inl Tm)), (mP, .inl (az, 42, .inl Pm)), (mW, .inl (az, 168, .inl Wm)), (mgv, .inl (ai, 42, .inl (upd v i (nI 0))))]) X dX9_wind_64 7 0 rfl rfl (by omega) (by omega) (rfl) rfl ?_
              refine g_iinc (v := nI (i + 1)) (lv' := [(3, .int (nI (i + 1))), (0, .ref m), (1, .int (nI n)), (2, .int (nI 0))]) X dX9_wind_65 3 rfl (nI_inc _) (by decide) rfl ?_
              refine g_goto (tgt := 20) X dX9_wind_68 (by decide) ?_
              refine g_lv (lv' := [(0, .ref m), (1, .int (nI n)), (2, .int (nI 0)), (3, .int (nI (i + 1)))]) [1, 2, 3, 0] rfl ?_
              exact ih20 (i + 1) (upd v i (nI 0)) (by omega) (agree_upd hv (by
              show _ = nI (bn ((gvB pl nb h n) i))
              first
              | (rw [gvB_iff.mpr ⟨(hP.z hi42).mp b37, b47, of_decide_eq_true (bn_n.mp b56)⟩]; rfl)
              | (have e : (gvB pl nb h n) i = false := by
                   cases z : (gvB pl nb h n) i
                   · rfl
                   · exfalso
                     have q := gvB_iff.mp z
                     first
                     | (have q2 := hP.n hi42 b37; rw [q.1] at q2; cases q2)
                     | omega
                     | exact of_decide_eq_false (bn_0.mp b56) q.2.2
                 rw [e]; rfl))) (by omega)
            · refine g_iconst (v := nI 1) X dX9_wind_59 (by decide) ?_
              refine g_goto (tgt := 64) X dX9_wind_60 (by decide) ?_
              refine g_iastN (g' := upd v i (nI 1)) (ws' := [(m, .inr (9, [.ref mh, .ref mg, .ref mt, .ref mf, .ref ms, .ref msT, .ref msF, .ref mgv, .ref mP, .ref mW, .ref mV, .ref mco, .ref men, .ref mnt, .int (nI 0), .int mse, .int mbr, .int mwk, .int mns, .int mtp, .int mss])), (mh, .inl (ai, 42, .inl Hm)), (mg, .inl (ai, 42, .inl Gm)), (mf, .inl (ai, 168, .inl Fm)), (mt, .inl (ai, 42, .inl Tm)), (mP, .inl (az, 42, .inl Pm)), (mW, .inl (az, 168, .inl Wm)), (mgv, .inl (ai, 42, .inl (upd v i (nI 1))))]) X dX9_wind_64 7 0 rfl rfl (by omega) (by omega) (rfl) rfl ?_
              refine g_iinc (v := nI (i + 1)) (lv' := [(3, .int (nI (i + 1))), (0, .ref m), (1, .int (nI n)), (2, .int (nI 0))]) X dX9_wind_65 3 rfl (nI_inc _) (by decide) rfl ?_
              refine g_goto (tgt := 20) X dX9_wind_68 (by decide) ?_
              refine g_lv (lv' := [(0, .ref m), (1, .int (nI n)), (2, .int (nI 0)), (3, .int (nI (i + 1)))]) [1, 2, 3, 0] rfl ?_
              exact ih20 (i + 1) (upd v i (nI 1)) (by omega) (agree_upd hv (by
              show _ = nI (bn ((gvB pl nb h n) i))
              first
              | (rw [gvB_iff.mpr ⟨(hP.z hi42).mp b37, b47, of_decide_eq_true (bn_n.mp b56)⟩]; rfl)
              | (have e : (gvB pl nb h n) i = false := by
                   cases z : (gvB pl nb h n) i
                   · rfl
                   · exfalso
                     have q := gvB_iff.mp z
                     first
                     | (have q2 := hP.n hi42 b37; rw [q.1] at q2; cases q2)
                     | omega
                     | exact of_decide_eq_false (bn_0.mp b56) q.2.2
                 rw [e]; rfl))) (by omega)
  refine g_lv (lv' := [(0, .ref m), (1, .int (nI n)), (2, .int (nI 0)), (3, .int (nI 0))]) [2, 3, 1, 0] rfl ?_
  exact L20 43 0 Vm (by decide) (fun j hj => absurd hj (by omega)) (by decide)

theorem ok_X9_init : okName yX9_init 0 := by decide +kernel
theorem in_X9_init_X9 : ∀ w ∈ u_ws RX9 TX9 21, w ∈ wsX9_init := by decide +kernel
set_option maxRecDepth 100000 in
set_option maxHeartbeats 4000000 in
theorem c_X9_init (l : Launch) (D : va_G) (ai az al : ClassId) (m : Nat) : CV l D (tY ai az al) yX9_init wsX9_init { frames := 1, cells := 14, slots := 863, locals := 20 } [.ref m] [(m, .inr (9, [.null, .null, .null, .null, .null, .null, .null, .null, .null, .null, .null, .null, .null, .null, .int (nI 0), .int (nI 0), .int (nI 0), .int (nI 0), .int (nI 0), .int (nI 0), .int (nI 0)]))] (fun (u : Nat × Nat × Nat × Nat × Nat × Nat × Nat × Nat × Nat × Nat × Nat × Nat × Nat × Nat) => True) (fun (u : Nat × Nat × Nat × Nat × Nat × Nat × Nat × Nat × Nat × Nat × Nat × Nat × Nat × Nat) => [(m, .inr (9, [.ref u.1, .ref u.2.1, .ref u.2.2.1, .ref u.2.2.2.1, .ref u.2.2.2.2.1, .ref u.2.2.2.2.2.1, .ref u.2.2.2.2.2.2.1, .ref u.2.2.2.2.2.2.2.1, .ref u.2.2.2.2.2.2.2.2.1, .ref u.2.2.2.2.2.2.2.2.2.1, .ref u.2.2.2.2.2.2.2.2.2.2.1, .ref u.2.2.2.2.2.2.2.2.2.2.2.1, .ref u.2.2.2.2.2.2.2.2.2.2.2.2.1, .ref u.2.2.2.2.2.2.2.2.2.2.2.2.2, .int (nI 0), .int (nI 0), .int (nI 0), .int (nI 0), .int (nI 0), .int (nI 0), .int (nI 0)])), (u.1, .inl (ai, 42, .inl (fun _ => 0))), (u.2.1, .inl (ai, 42, .inl (fun _ => 0))), (u.2.2.1, .inl (ai, 42, .inl (fun _ => 0))), (u.2.2.2.1, .inl (ai, 168, .inl (fun _ => 0))), (u.2.2.2.2.1, .inl (ai, 42, .inl (fun _ => 0))), (u.2.2.2.2.2.1, .inl (ai, 42, .inl (fun _ => 0))), (u.2.2.2.2.2.2.1, .inl (ai, 168, .inl (fun _ => 0))), (u.2.2.2.2.2.2.2.1, .inl (ai, 42, .inl (fun _ => 0))), (u.2.2.2.2.2.2.2.2.1, .inl (az, 42, .inl (fun _ => 0))), (u.2.2.2.2.2.2.2.2.2.1, .inl (az, 168, .inl (fun _ => 0))), (u.2.2.2.2.2.2.2.2.2.2.1, .inl (az, 42, .inl (fun _ => 0))), (u.2.2.2.2.2.2.2.2.2.2.2.1, .inl (ai, 8, .inl (fun _ => 0))), (u.2.2.2.2.2.2.2.2.2.2.2.2.1, .inl (ai, 8, .inl (fun _ => 0))), (u.2.2.2.2.2.2.2.2.2.2.2.2.2, .inl (ai, 7, .inl (fun _ => 0)))]) := by
  refine ofG_V (cc := cX9_init) (nL := 1) (lv0 := [(0, .ref m)]) (by decide) rfl (Nat.le_of_ble_eq_true rfl) rfl ?_
  intro Γ X E hinit
  have hinit := hinit rfl
  refine g_aload_n X dX9_init_0 rfl 0 rfl ?_
  refine g_objInit X dX9_init_1 (by decide +kernel) (by decide +kernel) (by decide +kernel) (by decide) (by decide) ?_
  refine g_aload_n X dX9_init_4 rfl 0 rfl ?_
  refine g_bipush (v := nI 42) X dX9_init_5 (by decide) ?_
  refine g_newa (ty := .int) (cA := ai) (N := 42) (a0 := (42, .inl (fun _ => 0))) X dX9_init_7 (by decide +kernel) rfl (fun C h => by cases h) 0 rfl (fun cA => rfl) (by decide) (by decide) (by decide) (by decide) (by decide) (fun q1 => ?_)
  refine g_sub (k := 1) (n := 42) (ws' := [(m, .inr (9, [.null, .null, .null, .null, .null, .null, .null, .null, .null, .null, .null, .null, .null, .null, .int (nI 0), .int (nI 0), .int (nI 0), .int (nI 0), .int (nI 0), .int (nI 0), .int (nI 0)])), (q1, .inl (ai, 42, .inl (fun _ => 0)))]) [0, 1] (by decide) rfl ?_
  refine g_putfF (T := TX9) (v := .ref q1) (ty := tyX9 0) (ws' := [(m, .inr (9, [.ref q1, .null, .null, .null, .null, .null, .null, .null, .null, .null, .null, .null, .null, .null, .int (nI 0), .int (nI 0), .int (nI 0), .int (nI 0), .int (nI 0), .int (nI 0), .int (nI 0)])), (q1, .inl (ai, 42, .inl (fun _ => 0)))]) X dX9_init_9 0 rfl rfl in_X9_init_X9 tyX9 tyX9_ok nmX9 0 (by decide) (by decide +kernel) rfl rfl hinit rfl (by decide +kernel) rfl rfl (Nat.le_of_ble_eq_true rfl) rfl ?_
  refine g_aload_n X dX9_init_12 rfl 0 rfl ?_
  refine g_bipush (v := nI 42) X dX9_init_13 (by decide) ?_
  refine g_newa (ty := .int) (cA := ai) (N := 42) (a0 := (42, .inl (fun _ => 0))) X dX9_init_15 (by decide +kernel) rfl (fun C h => by cases h) 0 rfl (fun cA => rfl) (by decide) (by decide) (by decide) (by decide) (by decide) (fun q2 => ?_)
  refine g_sub (k := 2) (n := 84) (ws' := [(m, .inr (9, [.ref q1, .null, .null, .null, .null, .null, .null, .null, .null, .null, .null, .null, .null, .null, .int (nI 0), .int (nI 0), .int (nI 0), .int (nI 0), .int (nI 0), .int (nI 0), .int (nI 0)])), (q1, .inl (ai, 42, .inl (fun _ => 0))), (q2, .inl (ai, 42, .inl (fun _ => 0)))]) [0, 1, 2] (by decide) rfl ?_
  refine g_putfF (T := TX9) (v := .ref q2) (ty := tyX9 1) (ws' := [(m, .inr (9, [.ref q1, .ref q2, .null, .null, .null, .null, .null, .null, .null, .null, .null, .null, .null, .null, .int (nI 0), .int (nI 0), .int (nI 0), .int (nI 0), .int (nI 0), .int (nI 0), .int (nI 0)])), (q1, .inl (ai, 42, .inl (fun _ => 0))), (q2, .inl (ai, 42, .inl (fun _ => 0)))]) X dX9_init_17 0 rfl rfl in_X9_init_X9 tyX9 tyX9_ok nmX9 1 (by decide) (by decide +kernel) rfl rfl hinit rfl (by decide +kernel) rfl rfl (Nat.le_of_ble_eq_true rfl) rfl ?_
  refine g_aload_n X dX9_init_20 rfl 0 rfl ?_
  refine g_bipush (v := nI 42) X dX9_init_21 (by decide) ?_
  refine g_newa (ty := .int) (cA := ai) (N := 42) (a0 := (42, .inl (fun _ => 0))) X dX9_init_23 (by decide +kernel) rfl (fun C h => by cases h) 0 rfl (fun cA => rfl) (by decide) (by decide) (by decide) (by decide) (by decide) (fun q3 => ?_)
  refine g_sub (k := 3) (n := 126) (ws' := [(m, .inr (9, [.ref q1, .ref q2, .null, .null, .null, .null, .null, .null, .null, .null, .null, .null, .null, .null, .int (nI 0), .int (nI 0), .int (nI 0), .int (nI 0), .int (nI 0), .int (nI 0), .int (nI 0)])), (q1, .inl (ai, 42, .inl (fun _ => 0))), (q2, .inl (ai, 42, .inl (fun _ => 0))), (q3, .inl (ai, 42, .inl (fun _ => 0)))]) [0, 1, 2, 3] (by decide) rfl ?_
  refine g_putfF (T := TX9) (v := .ref q3) (ty := tyX9 2) (ws' := [(m, .inr (9, [.ref q1, .ref q2, .ref q3, .null, .null, .null, .null, .null, .null, .null, .null, .null, .null, .null, .int (nI 0), .int (nI 0), .int (nI 0), .int (nI 0), .int (nI 0), .int (nI 0), .int (nI 0)])), (q1, .inl (ai, 42, .inl (fun _ => 0))), (q2, .inl (ai, 42, .inl (fun _ => 0))), (q3, .inl (ai, 42, .inl (fun _ => 0)))]) X dX9_init_25 0 rfl rfl in_X9_init_X9 tyX9 tyX9_ok nmX9 2 (by decide) (by decide +kernel) rfl rfl hinit rfl (by decide +kernel) rfl rfl (Nat.le_of_ble_eq_true rfl) rfl ?_
  refine g_aload_n X dX9_init_28 rfl 0 rfl ?_
  refine g_sipush (v := nI 168) X dX9_init_29 (by decide) ?_
  refine g_newa (ty := .int) (cA := ai) (N := 168) (a0 := (168, .inl (fun _ => 0))) X dX9_init_32 (by decide +kernel) rfl (fun C h => by cases h) 0 rfl (fun cA => rfl) (by decide) (by decide) (by decide) (by decide) (by decide) (fun q4 => ?_)
  refine g_sub (k := 4) (n := 294) (ws' := [(m, .inr (9, [.ref q1, .ref q2, .ref q3, .null, .null, .null, .null, .null, .null, .null, .null, .null, .null, .null, .int (nI 0), .int (nI 0), .int (nI 0), .int (nI 0), .int (nI 0), .int (nI 0), .int (nI 0)])), (q1, .inl (ai, 42, .inl (fun _ => 0))), (q2, .inl (ai, 42, .inl (fun _ => 0))), (q3, .inl (ai, 42, .inl (fun _ => 0))), (q4, .inl (ai, 168, .inl (fun _ => 0)))]) [0, 1, 2, 3, 4] (by decide) rfl ?_
  refine g_putfF (T := TX9) (v := .ref q4) (ty := tyX9 3) (ws' := [(m, .inr (9, [.ref q1, .ref q2, .ref q3, .ref q4, .null, .null, .null, .null, .null, .null, .null, .null, .null, .null, .int (nI 0), .int (nI 0), .int (nI 0), .int (nI 0), .int (nI 0), .int (nI 0), .int (nI 0)])), (q1, .inl (ai, 42, .inl (fun _ => 0))), (q2, .inl (ai, 42, .inl (fun _ => 0))), (q3, .inl (ai, 42, .inl (fun _ => 0))), (q4, .inl (ai, 168, .inl (fun _ => 0)))]) X dX9_init_34 0 rfl rfl in_X9_init_X9 tyX9 tyX9_ok nmX9 3 (by decide) (by decide +kernel) rfl rfl hinit rfl (by decide +kernel) rfl rfl (Nat.le_of_ble_eq_true rfl) rfl ?_
  refine g_aload_n X dX9_init_37 rfl 0 rfl ?_
  refine g_bipush (v := nI 42) X dX9_init_38 (by decide) ?_
  refine g_newa (ty := .int) (cA := ai) (N := 42) (a0 := (42, .inl (fun _ => 0))) X dX9_init_40 (by decide +kernel) rfl (fun C h => by cases h) 0 rfl (fun cA => rfl) (by decide) (by decide) (by decide) (by decide) (by decide) (fun q5 => ?_)
  refine g_sub (k := 5) (n := 336) (ws' := [(m, .inr (9, [.ref q1, .ref q2, .ref q3, .ref q4, .null, .null, .null, .null, .null, .null, .null, .null, .null, .null, .int (nI 0), .int (nI 0), .int (nI 0), .int (nI 0), .int (nI 0), .int (nI 0), .int (nI 0)])), (q1, .inl (ai, 42, .inl (fun _ => 0))), (q2, .inl (ai, 42, .inl (fun _ => 0))), (q3, .inl (ai, 42, .inl (fun _ => 0))), (q4, .inl (ai, 168, .inl (fun _ => 0))), (q5, .inl (ai, 42, .inl (fun _ => 0)))]) [0, 1, 2, 3, 4, 5] (by decide) rfl ?_
  refine g_putfF (T := TX9) (v := .ref q5) (ty := tyX9 4) (ws' := [(m, .inr (9, [.ref q1, .ref q2, .ref q3, .ref q4, .ref q5, .null, .null, .null, .null, .null, .null, .null, .null, .null, .int (nI 0), .int (nI 0), .int (nI 0), .int (nI 0), .int (nI 0), .int (nI 0), .int (nI 0)])), (q1, .inl (ai, 42, .inl (fun _ => 0))), (q2, .inl (ai, 42, .inl (fun _ => 0))), (q3, .inl (ai, 42, .inl (fun _ => 0))), (q4, .inl (ai, 168, .inl (fun _ => 0))), (q5, .inl (ai, 42, .inl (fun _ => 0)))]) X dX9_init_42 0 rfl rfl in_X9_init_X9 tyX9 tyX9_ok nmX9 4 (by decide) (by decide +kernel) rfl rfl hinit rfl (by decide +kernel) rfl rfl (Nat.le_of_ble_eq_true rfl) rfl ?_
  refine g_aload_n X dX9_init_45 rfl 0 rfl ?_
  refine g_bipush (v := nI 42) X dX9_init_46 (by decide) ?_
  refine g_newa (ty := .int) (cA := ai) (N := 42) (a0 := (42, .inl (fun _ => 0))) X dX9_init_48 (by decide +kernel) rfl (fun C h => by cases h) 0 rfl (fun cA => rfl) (by decide) (by decide) (by decide) (by decide) (by decide) (fun q6 => ?_)
  refine g_sub (k := 6) (n := 378) (ws' := [(m, .inr (9, [.ref q1, .ref q2, .ref q3, .ref q4, .ref q5, .null, .null, .null, .null, .null, .null, .null, .null, .null, .int (nI 0), .int (nI 0), .int (nI 0), .int (nI 0), .int (nI 0), .int (nI 0), .int (nI 0)])), (q1, .inl (ai, 42, .inl (fun _ => 0))), (q2, .inl (ai, 42, .inl (fun _ => 0))), (q3, .inl (ai, 42, .inl (fun _ => 0))), (q4, .inl (ai, 168, .inl (fun _ => 0))), (q5, .inl (ai, 42, .inl (fun _ => 0))), (q6, .inl (ai, 42, .inl (fun _ => 0)))]) [0, 1, 2, 3, 4, 5, 6] (by decide) rfl ?_
  refine g_putfF (T := TX9) (v := .ref q6) (ty := tyX9 5) (ws' := [(m, .inr (9, [.ref q1, .ref q2, .ref q3, .ref q4, .ref q5, .ref q6, .null, .null, .null, .null, .null, .null, .null, .null, .int (nI 0), .int (nI 0), .int (nI 0), .int (nI 0), .int (nI 0), .int (nI 0), .int (nI 0)])), (q1, .inl (ai, 42, .inl (fun _ => 0))), (q2, .inl (ai, 42, .inl (fun _ => 0))), (q3, .inl (ai, 42, .inl (fun _ => 0))), (q4, .inl (ai, 168, .inl (fun _ => 0))), (q5, .inl (ai, 42, .inl (fun _ => 0))), (q6, .inl (ai, 42, .inl (fun _ => 0)))]) X dX9_init_50 0 rfl rfl in_X9_init_X9 tyX9 tyX9_ok nmX9 5 (by decide) (by decide +kernel) rfl rfl hinit rfl (by decide +kernel) rfl rfl (Nat.le_of_ble_eq_true rfl) rfl ?_
  refine g_aload_n X dX9_init_53 rfl 0 rfl ?_
  refine g_sipush (v := nI 168) X dX9_init_54 (by decide) ?_
  refine g_newa (ty := .int) (cA := ai) (N := 168) (a0 := (168, .inl (fun _ => 0))) X dX9_init_57 (by decide +kernel) rfl (fun C h => by cases h) 0 rfl (fun cA => rfl) (by decide) (by decide) (by decide) (by decide) (by decide) (fun q7 => ?_)
  refine g_sub (k := 7) (n := 546) (ws' := [(m, .inr (9, [.ref q1, .ref q2, .ref q3, .ref q4, .ref q5, .ref q6, .null, .null, .null, .null, .null, .null, .null, .null, .int (nI 0), .int (nI 0), .int (nI 0), .int (nI 0), .int (nI 0), .int (nI 0), .int (nI 0)])), (q1, .inl (ai, 42, .inl (fun _ => 0))), (q2, .inl (ai, 42, .inl (fun _ => 0))), (q3, .inl (ai, 42, .inl (fun _ => 0))), (q4, .inl (ai, 168, .inl (fun _ => 0))), (q5, .inl (ai, 42, .inl (fun _ => 0))), (q6, .inl (ai, 42, .inl (fun _ => 0))), (q7, .inl (ai, 168, .inl (fun _ => 0)))]) [0, 1, 2, 3, 4, 5, 6, 7] (by decide) rfl ?_
  refine g_putfF (T := TX9) (v := .ref q7) (ty := tyX9 6) (ws' := [(m, .inr (9, [.ref q1, .ref q2, .ref q3, .ref q4, .ref q5, .ref q6, .ref q7, .null, .null, .null, .null, .null, .null, .null, .int (nI 0), .int (nI 0), .int (nI 0), .int (nI 0), .int (nI 0), .int (nI 0), .int (nI 0)])), (q1, .inl (ai, 42, .inl (fun _ => 0))), (q2, .inl (ai, 42, .inl (fun _ => 0))), (q3, .inl (ai, 42, .inl (fun _ => 0))), (q4, .inl (ai, 168, .inl (fun _ => 0))), (q5, .inl (ai, 42, .inl (fun _ => 0))), (q6, .inl (ai, 42, .inl (fun _ => 0))), (q7, .inl (ai, 168, .inl (fun _ => 0)))]) X dX9_init_59 0 rfl rfl in_X9_init_X9 tyX9 tyX9_ok nmX9 6 (by decide) (by decide +kernel) rfl rfl hinit rfl (by decide +kernel) rfl rfl (Nat.le_of_ble_eq_true rfl) rfl ?_
  refine g_aload_n X dX9_init_62 rfl 0 rfl ?_
  refine g_bipush (v := nI 42) X dX9_init_63 (by decide) ?_
  refine g_newa (ty := .int) (cA := ai) (N := 42) (a0 := (42, .inl (fun _ => 0))) X dX9_init_65 (by decide +kernel) rfl (fun C h => by cases h) 0 rfl (fun cA => rfl) (by decide) (by decide) (by decide) (by decide) (by decide) (fun q8 => ?_)
  refine g_sub (k := 8) (n := 588) (ws' := [(m, .inr (9, [.ref q1, .ref q2, .ref q3, .ref q4, .ref q5, .ref q6, .ref q7, .null, .null, .null, .null, .null, .null, .null, .int (nI 0), .int (nI 0), .int (nI 0), .int (nI 0), .int (nI 0), .int (nI 0), .int (nI 0)])), (q1, .inl (ai, 42, .inl (fun _ => 0))), (q2, .inl (ai, 42, .inl (fun _ => 0))), (q3, .inl (ai, 42, .inl (fun _ => 0))), (q4, .inl (ai, 168, .inl (fun _ => 0))), (q5, .inl (ai, 42, .inl (fun _ => 0))), (q6, .inl (ai, 42, .inl (fun _ => 0))), (q7, .inl (ai, 168, .inl (fun _ => 0))), (q8, .inl (ai, 42, .inl (fun _ => 0)))]) [0, 1, 2, 3, 4, 5, 6, 7, 8] (by decide) rfl ?_
  refine g_putfF (T := TX9) (v := .ref q8) (ty := tyX9 7) (ws' := [(m, .inr (9, [.ref q1, .ref q2, .ref q3, .ref q4, .ref q5, .ref q6, .ref q7, .ref q8, .null, .null, .null, .null, .null, .null, .int (nI 0), .int (nI 0), .int (nI 0), .int (nI 0), .int (nI 0), .int (nI 0), .int (nI 0)])), (q1, .inl (ai, 42, .inl (fun _ => 0))), (q2, .inl (ai, 42, .inl (fun _ => 0))), (q3, .inl (ai, 42, .inl (fun _ => 0))), (q4, .inl (ai, 168, .inl (fun _ => 0))), (q5, .inl (ai, 42, .inl (fun _ => 0))), (q6, .inl (ai, 42, .inl (fun _ => 0))), (q7, .inl (ai, 168, .inl (fun _ => 0))), (q8, .inl (ai, 42, .inl (fun _ => 0)))]) X dX9_init_67 0 rfl rfl in_X9_init_X9 tyX9 tyX9_ok nmX9 7 (by decide) (by decide +kernel) rfl rfl hinit rfl (by decide +kernel) rfl rfl (Nat.le_of_ble_eq_true rfl) rfl ?_
  refine g_aload_n X dX9_init_70 rfl 0 rfl ?_
  refine g_bipush (v := nI 42) X dX9_init_71 (by decide) ?_
  refine g_newa (ty := .boolean) (cA := az) (N := 42) (a0 := (42, .inl (fun _ => 0))) X dX9_init_73 (by decide +kernel) rfl (fun C h => by cases h) 1 rfl (fun cA => rfl) (by decide) (by decide) (by decide) (by decide) (by decide) (fun q9 => ?_)
  refine g_sub (k := 9) (n := 630) (ws' := [(m, .inr (9, [.ref q1, .ref q2, .ref q3, .ref q4, .ref q5, .ref q6, .ref q7, .ref q8, .null, .null, .null, .null, .null, .null, .int (nI 0), .int (nI 0), .int (nI 0), .int (nI 0), .int (nI 0), .int (nI 0), .int (nI 0)])), (q1, .inl (ai, 42, .inl (fun _ => 0))), (q2, .inl (ai, 42, .inl (fun _ => 0))), (q3, .inl (ai, 42, .inl (fun _ => 0))), (q4, .inl (ai, 168, .inl (fun _ => 0))), (q5, .inl (ai, 42, .inl (fun _ => 0))), (q6, .inl (ai, 42, .inl (fun _ => 0))), (q7, .inl (ai, 168, .inl (fun _ => 0))), (q8, .inl (ai, 42, .inl (fun _ => 0))), (q9, .inl (az, 42, .inl (fun _ => 0)))]) [0, 1, 2, 3, 4, 5, 6, 7, 8, 9] (by decide) rfl ?_
  refine g_putfF (T := TX9) (v := .ref q9) (ty := tyX9 8) (ws' := [(m, .inr (9, [.ref q1, .ref q2, .ref q3, .ref q4, .ref q5, .ref q6, .ref q7, .ref q8, .ref q9, .null, .null, .null, .null, .null, .int (nI 0), .int (nI 0), .int (nI 0), .int (nI 0), .int (nI 0), .int (nI 0), .int (nI 0)])), (q1, .inl (ai, 42, .inl (fun _ => 0))), (q2, .inl (ai, 42, .inl (fun _ => 0))), (q3, .inl (ai, 42, .inl (fun _ => 0))), (q4, .inl (ai, 168, .inl (fun _ => 0))), (q5, .inl (ai, 42, .inl (fun _ => 0))), (q6, .inl (ai, 42, .inl (fun _ => 0))), (q7, .inl (ai, 168, .inl (fun _ => 0))), (q8, .inl (ai, 42, .inl (fun _ => 0))), (q9, .inl (az, 42, .inl (fun _ => 0)))]) X dX9_init_75 0 rfl rfl in_X9_init_X9 tyX9 tyX9_ok nmX9 8 (by decide) (by decide +kernel) rfl rfl hinit rfl (by decide +kernel) rfl rfl (Nat.le_of_ble_eq_true rfl) rfl ?_
  refine g_aload_n X dX9_init_78 rfl 0 rfl ?_
  refine g_sipush (v := nI 168) X dX9_init_79 (by decide) ?_
  refine g_newa (ty := .boolean) (cA := az) (N := 168) (a0 := (168, .inl (fun _ => 0))) X dX9_init_82 (by decide +kernel) rfl (fun C h => by cases h) 1 rfl (fun cA => rfl) (by decide) (by decide) (by decide) (by decide) (by decide) (fun q10 => ?_)
  refine g_sub (k := 10) (n := 798) (ws' := [(m, .inr (9, [.ref q1, .ref q2, .ref q3, .ref q4, .ref q5, .ref q6, .ref q7, .ref q8, .ref q9, .null, .null, .null, .null, .null, .int (nI 0), .int (nI 0), .int (nI 0), .int (nI 0), .int (nI 0), .int (nI 0), .int (nI 0)])), (q1, .inl (ai, 42, .inl (fun _ => 0))), (q2, .inl (ai, 42, .inl (fun _ => 0))), (q3, .inl (ai, 42, .inl (fun _ => 0))), (q4, .inl (ai, 168, .inl (fun _ => 0))), (q5, .inl (ai, 42, .inl (fun _ => 0))), (q6, .inl (ai, 42, .inl (fun _ => 0))), (q7, .inl (ai, 168, .inl (fun _ => 0))), (q8, .inl (ai, 42, .inl (fun _ => 0))), (q9, .inl (az, 42, .inl (fun _ => 0))), (q10, .inl (az, 168, .inl (fun _ => 0)))]) [0, 1, 2, 3, 4, 5, 6, 7, 8, 9, 10] (by decide) rfl ?_
  refine g_putfF (T := TX9) (v := .ref q10) (ty := tyX9 9) (ws' := [(m, .inr (9, [.ref q1, .ref q2, .ref q3, .ref q4, .ref q5, .ref q6, .ref q7, .ref q8, .ref q9, .ref q10, .null, .null, .null, .null, .int (nI 0), .int (nI 0), .int (nI 0), .int (nI 0), .int (nI 0), .int (nI 0), .int (nI 0)])), (q1, .inl (ai, 42, .inl (fun _ => 0))), (q2, .inl (ai, 42, .inl (fun _ => 0))), (q3, .inl (ai, 42, .inl (fun _ => 0))), (q4, .inl (ai, 168, .inl (fun _ => 0))), (q5, .inl (ai, 42, .inl (fun _ => 0))), (q6, .inl (ai, 42, .inl (fun _ => 0))), (q7, .inl (ai, 168, .inl (fun _ => 0))), (q8, .inl (ai, 42, .inl (fun _ => 0))), (q9, .inl (az, 42, .inl (fun _ => 0))), (q10, .inl (az, 168, .inl (fun _ => 0)))]) X dX9_init_84 0 rfl rfl in_X9_init_X9 tyX9 tyX9_ok nmX9 9 (by decide) (by decide +kernel) rfl rfl hinit rfl (by decide +kernel) rfl rfl (Nat.le_of_ble_eq_true rfl) rfl ?_
  refine g_aload_n X dX9_init_87 rfl 0 rfl ?_
  refine g_bipush (v := nI 42) X dX9_init_88 (by decide) ?_
  refine g_newa (ty := .boolean) (cA := az) (N := 42) (a0 := (42, .inl (fun _ => 0))) X dX9_init_90 (by decide +kernel) rfl (fun C h => by cases h) 1 rfl (fun cA => rfl) (by decide) (by decide) (by decide) (by decide) (by decide) (fun q11 => ?_)
  refine g_sub (k := 11) (n := 840) (ws' := [(m, .inr (9, [.ref q1, .ref q2, .ref q3, .ref q4, .ref q5, .ref q6, .ref q7, .ref q8, .ref q9, .ref q10, .null, .null, .null, .null, .int (nI 0), .int (nI 0), .int (nI 0), .int (nI 0), .int (nI 0), .int (nI 0), .int (nI 0)])), (q1, .inl (ai, 42, .inl (fun _ => 0))), (q2, .inl (ai, 42, .inl (fun _ => 0))), (q3, .inl (ai, 42, .inl (fun _ => 0))), (q4, .inl (ai, 168, .inl (fun _ => 0))), (q5, .inl (ai, 42, .inl (fun _ => 0))), (q6, .inl (ai, 42, .inl (fun _ => 0))), (q7, .inl (ai, 168, .inl (fun _ => 0))), (q8, .inl (ai, 42, .inl (fun _ => 0))), (q9, .inl (az, 42, .inl (fun _ => 0))), (q10, .inl (az, 168, .inl (fun _ => 0))), (q11, .inl (az, 42, .inl (fun _ => 0)))]) [0, 1, 2, 3, 4, 5, 6, 7, 8, 9, 10, 11] (by decide) rfl ?_
  refine g_putfF (T := TX9) (v := .ref q11) (ty := tyX9 10) (ws' := [(m, .inr (9, [.ref q1, .ref q2, .ref q3, .ref q4, .ref q5, .ref q6, .ref q7, .ref q8, .ref q9, .ref q10, .ref q11, .null, .null, .null, .int (nI 0), .int (nI 0), .int (nI 0), .int (nI 0), .int (nI 0), .int (nI 0), .int (nI 0)])), (q1, .inl (ai, 42, .inl (fun _ => 0))), (q2, .inl (ai, 42, .inl (fun _ => 0))), (q3, .inl (ai, 42, .inl (fun _ => 0))), (q4, .inl (ai, 168, .inl (fun _ => 0))), (q5, .inl (ai, 42, .inl (fun _ => 0))), (q6, .inl (ai, 42, .inl (fun _ => 0))), (q7, .inl (ai, 168, .inl (fun _ => 0))), (q8, .inl (ai, 42, .inl (fun _ => 0))), (q9, .inl (az, 42, .inl (fun _ => 0))), (q10, .inl (az, 168, .inl (fun _ => 0))), (q11, .inl (az, 42, .inl (fun _ => 0)))]) X dX9_init_92 0 rfl rfl in_X9_init_X9 tyX9 tyX9_ok nmX9 10 (by decide) (by decide +kernel) rfl rfl hinit rfl (by decide +kernel) rfl rfl (Nat.le_of_ble_eq_true rfl) rfl ?_
  refine g_aload_n X dX9_init_95 rfl 0 rfl ?_
  refine g_bipush (v := nI 8) X dX9_init_96 (by decide) ?_
  refine g_newa (ty := .int) (cA := ai) (N := 8) (a0 := (8, .inl (fun _ => 0))) X dX9_init_98 (by decide +kernel) rfl (fun C h => by cases h) 0 rfl (fun cA => rfl) (by decide) (by decide) (by decide) (by decide) (by decide) (fun q12 => ?_)
  refine g_sub (k := 12) (n := 848) (ws' := [(m, .inr (9, [.ref q1, .ref q2, .ref q3, .ref q4, .ref q5, .ref q6, .ref q7, .ref q8, .ref q9, .ref q10, .ref q11, .null, .null, .null, .int (nI 0), .int (nI 0), .int (nI 0), .int (nI 0), .int (nI 0), .int (nI 0), .int (nI 0)])), (q1, .inl (ai, 42, .inl (fun _ => 0))), (q2, .inl (ai, 42, .inl (fun _ => 0))), (q3, .inl (ai, 42, .inl (fun _ => 0))), (q4, .inl (ai, 168, .inl (fun _ => 0))), (q5, .inl (ai, 42, .inl (fun _ => 0))), (q6, .inl (ai, 42, .inl (fun _ => 0))), (q7, .inl (ai, 168, .inl (fun _ => 0))), (q8, .inl (ai, 42, .inl (fun _ => 0))), (q9, .inl (az, 42, .inl (fun _ => 0))), (q10, .inl (az, 168, .inl (fun _ => 0))), (q11, .inl (az, 42, .inl (fun _ => 0))), (q12, .inl (ai, 8, .inl (fun _ => 0)))]) [0, 1, 2, 3, 4, 5, 6, 7, 8, 9, 10, 11, 12] (by decide) rfl ?_
  refine g_putfF (T := TX9) (v := .ref q12) (ty := tyX9 11) (ws' := [(m, .inr (9, [.ref q1, .ref q2, .ref q3, .ref q4, .ref q5, .ref q6, .ref q7, .ref q8, .ref q9, .ref q10, .ref q11, .ref q12, .null, .null, .int (nI 0), .int (nI 0), .int (nI 0), .int (nI 0), .int (nI 0), .int (nI 0), .int (nI 0)])), (q1, .inl (ai, 42, .inl (fun _ => 0))), (q2, .inl (ai, 42, .inl (fun _ => 0))), (q3, .inl (ai, 42, .inl (fun _ => 0))), (q4, .inl (ai, 168, .inl (fun _ => 0))), (q5, .inl (ai, 42, .inl (fun _ => 0))), (q6, .inl (ai, 42, .inl (fun _ => 0))), (q7, .inl (ai, 168, .inl (fun _ => 0))), (q8, .inl (ai, 42, .inl (fun _ => 0))), (q9, .inl (az, 42, .inl (fun _ => 0))), (q10, .inl (az, 168, .inl (fun _ => 0))), (q11, .inl (az, 42, .inl (fun _ => 0))), (q12, .inl (ai, 8, .inl (fun _ => 0)))]) X dX9_init_100 0 rfl rfl in_X9_init_X9 tyX9 tyX9_ok nmX9 11 (by decide) (by decide +kernel) rfl rfl hinit rfl (by decide +kernel) rfl rfl (Nat.le_of_ble_eq_true rfl) rfl ?_
  refine g_aload_n X dX9_init_103 rfl 0 rfl ?_
  refine g_bipush (v := nI 8) X dX9_init_104 (by decide) ?_
  refine g_newa (ty := .int) (cA := ai) (N := 8) (a0 := (8, .inl (fun _ => 0))) X dX9_init_106 (by decide +kernel) rfl (fun C h => by cases h) 0 rfl (fun cA => rfl) (by decide) (by decide) (by decide) (by decide) (by decide) (fun q13 => ?_)
  refine g_sub (k := 13) (n := 856) (ws' := [(m, .inr (9, [.ref q1, .ref q2, .ref q3, .ref q4, .ref q5, .ref q6, .ref q7, .ref q8, .ref q9, .ref q10, .ref q11, .ref q12, .null, .null, .int (nI 0), .int (nI 0), .int (nI 0), .int (nI 0), .int (nI 0), .int (nI 0), .int (nI 0)])), (q1, .inl (ai, 42, .inl (fun _ => 0))), (q2, .inl (ai, 42, .inl (fun _ => 0))), (q3, .inl (ai, 42, .inl (fun _ => 0))), (q4, .inl (ai, 168, .inl (fun _ => 0))), (q5, .inl (ai, 42, .inl (fun _ => 0))), (q6, .inl (ai, 42, .inl (fun _ => 0))), (q7, .inl (ai, 168, .inl (fun _ => 0))), (q8, .inl (ai, 42, .inl (fun _ => 0))), (q9, .inl (az, 42, .inl (fun _ => 0))), (q10, .inl (az, 168, .inl (fun _ => 0))), (q11, .inl (az, 42, .inl (fun _ => 0))), (q12, .inl (ai, 8, .inl (fun _ => 0))), (q13, .inl (ai, 8, .inl (fun _ => 0)))]) [0, 1, 2, 3, 4, 5, 6, 7, 8, 9, 10, 11, 12, 13] (by decide) rfl ?_
  refine g_putfF (T := TX9) (v := .ref q13) (ty := tyX9 12) (ws' := [(m, .inr (9, [.ref q1, .ref q2, .ref q3, .ref q4, .ref q5, .ref q6, .ref q7, .ref q8, .ref q9, .ref q10, .ref q11, .ref q12, .ref q13, .null, .int (nI 0), .int (nI 0), .int (nI 0), .int (nI 0), .int (nI 0), .int (nI 0), .int (nI 0)])), (q1, .inl (ai, 42, .inl (fun _ => 0))), (q2, .inl (ai, 42, .inl (fun _ => 0))), (q3, .inl (ai, 42, .inl (fun _ => 0))), (q4, .inl (ai, 168, .inl (fun _ => 0))), (q5, .inl (ai, 42, .inl (fun _ => 0))), (q6, .inl (ai, 42, .inl (fun _ => 0))), (q7, .inl (ai, 168, .inl (fun _ => 0))), (q8, .inl (ai, 42, .inl (fun _ => 0))), (q9, .inl (az, 42, .inl (fun _ => 0))), (q10, .inl (az, 168, .inl (fun _ => 0))), (q11, .inl (az, 42, .inl (fun _ => 0))), (q12, .inl (ai, 8, .inl (fun _ => 0))), (q13, .inl (ai, 8, .inl (fun _ => 0)))]) X dX9_init_108 0 rfl rfl in_X9_init_X9 tyX9 tyX9_ok nmX9 12 (by decide) (by decide +kernel) rfl rfl hinit rfl (by decide +kernel) rfl rfl (Nat.le_of_ble_eq_true rfl) rfl ?_
  refine g_aload_n X dX9_init_111 rfl 0 rfl ?_
  refine g_bipush (v := nI 7) X dX9_init_112 (by decide) ?_
  refine g_newa (ty := .int) (cA := ai) (N := 7) (a0 := (7, .inl (fun _ => 0))) X dX9_init_114 (by decide +kernel) rfl (fun C h => by cases h) 0 rfl (fun cA => rfl) (by decide) (by decide) (by decide) (by decide) (by decide) (fun q14 => ?_)
  refine g_sub (k := 14) (n := 863) (ws' := [(m, .inr (9, [.ref q1, .ref q2, .ref q3, .ref q4, .ref q5, .ref q6, .ref q7, .ref q8, .ref q9, .ref q10, .ref q11, .ref q12, .ref q13, .null, .int (nI 0), .int (nI 0), .int (nI 0), .int (nI 0), .int (nI 0), .int (nI 0), .int (nI 0)])), (q1, .inl (ai, 42, .inl (fun _ => 0))), (q2, .inl (ai, 42, .inl (fun _ => 0))), (q3, .inl (ai, 42, .inl (fun _ => 0))), (q4, .inl (ai, 168, .inl (fun _ => 0))), (q5, .inl (ai, 42, .inl (fun _ => 0))), (q6, .inl (ai, 42, .inl (fun _ => 0))), (q7, .inl (ai, 168, .inl (fun _ => 0))), (q8, .inl (ai, 42, .inl (fun _ => 0))), (q9, .inl (az, 42, .inl (fun _ => 0))), (q10, .inl (az, 168, .inl (fun _ => 0))), (q11, .inl (az, 42, .inl (fun _ => 0))), (q12, .inl (ai, 8, .inl (fun _ => 0))), (q13, .inl (ai, 8, .inl (fun _ => 0))), (q14, .inl (ai, 7, .inl (fun _ => 0)))]) [0, 1, 2, 3, 4, 5, 6, 7, 8, 9, 10, 11, 12, 13, 14] (by decide) rfl ?_
  refine g_putfF (T := TX9) (v := .ref q14) (ty := tyX9 13) (ws' := [(m, .inr (9, [.ref q1, .ref q2, .ref q3, .ref q4, .ref q5, .ref q6, .ref q7, .ref q8, .ref q9, .ref q10, .ref q11, .ref q12, .ref q13, .ref q14, .int (nI 0), .int (nI 0), .int (nI 0), .int (nI 0), .int (nI 0), .int (nI 0), .int (nI 0)])), (q1, .inl (ai, 42, .inl (fun _ => 0))), (q2, .inl (ai, 42, .inl (fun _ => 0))), (q3, .inl (ai, 42, .inl (fun _ => 0))), (q4, .inl (ai, 168, .inl (fun _ => 0))), (q5, .inl (ai, 42, .inl (fun _ => 0))), (q6, .inl (ai, 42, .inl (fun _ => 0))), (q7, .inl (ai, 168, .inl (fun _ => 0))), (q8, .inl (ai, 42, .inl (fun _ => 0))), (q9, .inl (az, 42, .inl (fun _ => 0))), (q10, .inl (az, 168, .inl (fun _ => 0))), (q11, .inl (az, 42, .inl (fun _ => 0))), (q12, .inl (ai, 8, .inl (fun _ => 0))), (q13, .inl (ai, 8, .inl (fun _ => 0))), (q14, .inl (ai, 7, .inl (fun _ => 0)))]) X dX9_init_116 0 rfl rfl in_X9_init_X9 tyX9 tyX9_ok nmX9 13 (by decide) (by decide +kernel) rfl rfl hinit rfl (by decide +kernel) rfl rfl (Nat.le_of_ble_eq_true rfl) rfl ?_
  refine g_aload_n X dX9_init_119 rfl 0 rfl ?_
  refine g_iconst (v := nI 0) X dX9_init_120 (by decide) ?_
  refine g_putf (T := TX9) (v := .int (nI 0)) (ty := tyX9 14) (ws' := [(m, .inr (9, [.ref q1, .ref q2, .ref q3, .ref q4, .ref q5, .ref q6, .ref q7, .ref q8, .ref q9, .ref q10, .ref q11, .ref q12, .ref q13, .ref q14, .int (nI 0), .int (nI 0), .int (nI 0), .int (nI 0), .int (nI 0), .int (nI 0), .int (nI 0)])), (q1, .inl (ai, 42, .inl (fun _ => 0))), (q2, .inl (ai, 42, .inl (fun _ => 0))), (q3, .inl (ai, 42, .inl (fun _ => 0))), (q4, .inl (ai, 168, .inl (fun _ => 0))), (q5, .inl (ai, 42, .inl (fun _ => 0))), (q6, .inl (ai, 42, .inl (fun _ => 0))), (q7, .inl (ai, 168, .inl (fun _ => 0))), (q8, .inl (ai, 42, .inl (fun _ => 0))), (q9, .inl (az, 42, .inl (fun _ => 0))), (q10, .inl (az, 168, .inl (fun _ => 0))), (q11, .inl (az, 42, .inl (fun _ => 0))), (q12, .inl (ai, 8, .inl (fun _ => 0))), (q13, .inl (ai, 8, .inl (fun _ => 0))), (q14, .inl (ai, 7, .inl (fun _ => 0)))]) X dX9_init_121 0 rfl rfl in_X9_init_X9 tyX9 tyX9_ok nmX9 14 (by decide) (by decide +kernel) rfl rfl (by decide +kernel) rfl rfl (Nat.le_of_ble_eq_true rfl) rfl ?_
  refine g_aload_n X dX9_init_124 rfl 0 rfl ?_
  refine g_iconst (v := nI 0) X dX9_init_125 (by decide) ?_
  refine g_putf (T := TX9) (v := .int (nI 0)) (ty := tyX9 15) (ws' := [(m, .inr (9, [.ref q1, .ref q2, .ref q3, .ref q4, .ref q5, .ref q6, .ref q7, .ref q8, .ref q9, .ref q10, .ref q11, .ref q12, .ref q13, .ref q14, .int (nI 0), .int (nI 0), .int (nI 0), .int (nI 0), .int (nI 0), .int (nI 0), .int (nI 0)])), (q1, .inl (ai, 42, .inl (fun _ => 0))), (q2, .inl (ai, 42, .inl (fun _ => 0))), (q3, .inl (ai, 42, .inl (fun _ => 0))), (q4, .inl (ai, 168, .inl (fun _ => 0))), (q5, .inl (ai, 42, .inl (fun _ => 0))), (q6, .inl (ai, 42, .inl (fun _ => 0))), (q7, .inl (ai, 168, .inl (fun _ => 0))), (q8, .inl (ai, 42, .inl (fun _ => 0))), (q9, .inl (az, 42, .inl (fun _ => 0))), (q10, .inl (az, 168, .inl (fun _ => 0))), (q11, .inl (az, 42, .inl (fun _ => 0))), (q12, .inl (ai, 8, .inl (fun _ => 0))), (q13, .inl (ai, 8, .inl (fun _ => 0))), (q14, .inl (ai, 7, .inl (fun _ => 0)))]) X dX9_init_126 0 rfl rfl in_X9_init_X9 tyX9 tyX9_ok nmX9 15 (by decide) (by decide +kernel) rfl rfl (by decide +kernel) rfl rfl (Nat.le_of_ble_eq_true rfl) rfl ?_
  refine g_aload_n X dX9_init_129 rfl 0 rfl ?_
  refine g_iconst (v := nI 0) X dX9_init_130 (by decide) ?_
  refine g_putf (T := TX9) (v := .int (nI 0)) (ty := tyX9 16) (ws' := [(m, .inr (9, [.ref q1, .ref q2, .ref q3, .ref q4, .ref q5, .ref q6, .ref q7, .ref q8, .ref q9, .ref q10, .ref q11, .ref q12, .ref q13, .ref q14, .int (nI 0), .int (nI 0), .int (nI 0), .int (nI 0), .int (nI 0), .int (nI 0), .int (nI 0)])), (q1, .inl (ai, 42, .inl (fun _ => 0))), (q2, .inl (ai, 42, .inl (fun _ => 0))), (q3, .inl (ai, 42, .inl (fun _ => 0))), (q4, .inl (ai, 168, .inl (fun _ => 0))), (q5, .inl (ai, 42, .inl (fun _ => 0))), (q6, .inl (ai, 42, .inl (fun _ => 0))), (q7, .inl (ai, 168, .inl (fun _ => 0))), (q8, .inl (ai, 42, .inl (fun _ => 0))), (q9, .inl (az, 42, .inl (fun _ => 0))), (q10, .inl (az, 168, .inl (fun _ => 0))), (q11, .inl (az, 42, .inl (fun _ => 0))), (q12, .inl (ai, 8, .inl (fun _ => 0))), (q13, .inl (ai, 8, .inl (fun _ => 0))), (q14, .inl (ai, 7, .inl (fun _ => 0)))]) X dX9_init_131 0 rfl rfl in_X9_init_X9 tyX9 tyX9_ok nmX9 16 (by decide) (by decide +kernel) rfl rfl (by decide +kernel) rfl rfl (Nat.le_of_ble_eq_true rfl) rfl ?_
  refine g_aload_n X dX9_init_134 rfl 0 rfl ?_
  refine g_iconst (v := nI 0) X dX9_init_135 (by decide) ?_
  refine g_putf (T := TX9) (v := .int (nI 0)) (ty := tyX9 17) (ws' := [(m, .inr (9, [.ref q1, .ref q2, .ref q3, .ref q4, .ref q5, .ref q6, .ref q7, .ref q8, .ref q9, .ref q10, .ref q11, .ref q12, .ref q13, .ref q14, .int (nI 0), .int (nI 0), .int (nI 0), .int (nI 0), .int (nI 0), .int (nI 0), .int (nI 0)])), (q1, .inl (ai, 42, .inl (fun _ => 0))), (q2, .inl (ai, 42, .inl (fun _ => 0))), (q3, .inl (ai, 42, .inl (fun _ => 0))), (q4, .inl (ai, 168, .inl (fun _ => 0))), (q5, .inl (ai, 42, .inl (fun _ => 0))), (q6, .inl (ai, 42, .inl (fun _ => 0))), (q7, .inl (ai, 168, .inl (fun _ => 0))), (q8, .inl (ai, 42, .inl (fun _ => 0))), (q9, .inl (az, 42, .inl (fun _ => 0))), (q10, .inl (az, 168, .inl (fun _ => 0))), (q11, .inl (az, 42, .inl (fun _ => 0))), (q12, .inl (ai, 8, .inl (fun _ => 0))), (q13, .inl (ai, 8, .inl (fun _ => 0))), (q14, .inl (ai, 7, .inl (fun _ => 0)))]) X dX9_init_136 0 rfl rfl in_X9_init_X9 tyX9 tyX9_ok nmX9 17 (by decide) (by decide +kernel) rfl rfl (by decide +kernel) rfl rfl (Nat.le_of_ble_eq_true rfl) rfl ?_
  refine g_aload_n X dX9_init_139 rfl 0 rfl ?_
  refine g_iconst (v := nI 0) X dX9_init_140 (by decide) ?_
  refine g_putf (T := TX9) (v := .int (nI 0)) (ty := tyX9 18) (ws' := [(m, .inr (9, [.ref q1, .ref q2, .ref q3, .ref q4, .ref q5, .ref q6, .ref q7, .ref q8, .ref q9, .ref q10, .ref q11, .ref q12, .ref q13, .ref q14, .int (nI 0), .int (nI 0), .int (nI 0), .int (nI 0), .int (nI 0), .int (nI 0), .int (nI 0)])), (q1, .inl (ai, 42, .inl (fun _ => 0))), (q2, .inl (ai, 42, .inl (fun _ => 0))), (q3, .inl (ai, 42, .inl (fun _ => 0))), (q4, .inl (ai, 168, .inl (fun _ => 0))), (q5, .inl (ai, 42, .inl (fun _ => 0))), (q6, .inl (ai, 42, .inl (fun _ => 0))), (q7, .inl (ai, 168, .inl (fun _ => 0))), (q8, .inl (ai, 42, .inl (fun _ => 0))), (q9, .inl (az, 42, .inl (fun _ => 0))), (q10, .inl (az, 168, .inl (fun _ => 0))), (q11, .inl (az, 42, .inl (fun _ => 0))), (q12, .inl (ai, 8, .inl (fun _ => 0))), (q13, .inl (ai, 8, .inl (fun _ => 0))), (q14, .inl (ai, 7, .inl (fun _ => 0)))]) X dX9_init_141 0 rfl rfl in_X9_init_X9 tyX9 tyX9_ok nmX9 18 (by decide) (by decide +kernel) rfl rfl (by decide +kernel) rfl rfl (Nat.le_of_ble_eq_true rfl) rfl ?_
  refine g_aload_n X dX9_init_144 rfl 0 rfl ?_
  refine g_iconst (v := nI 0) X dX9_init_145 (by decide) ?_
  refine g_putf (T := TX9) (v := .int (nI 0)) (ty := tyX9 19) (ws' := [(m, .inr (9, [.ref q1, .ref q2, .ref q3, .ref q4, .ref q5, .ref q6, .ref q7, .ref q8, .ref q9, .ref q10, .ref q11, .ref q12, .ref q13, .ref q14, .int (nI 0), .int (nI 0), .int (nI 0), .int (nI 0), .int (nI 0), .int (nI 0), .int (nI 0)])), (q1, .inl (ai, 42, .inl (fun _ => 0))), (q2, .inl (ai, 42, .inl (fun _ => 0))), (q3, .inl (ai, 42, .inl (fun _ => 0))), (q4, .inl (ai, 168, .inl (fun _ => 0))), (q5, .inl (ai, 42, .inl (fun _ => 0))), (q6, .inl (ai, 42, .inl (fun _ => 0))), (q7, .inl (ai, 168, .inl (fun _ => 0))), (q8, .inl (ai, 42, .inl (fun _ => 0))), (q9, .inl (az, 42, .inl (fun _ => 0))), (q10, .inl (az, 168, .inl (fun _ => 0))), (q11, .inl (az, 42, .inl (fun _ => 0))), (q12, .inl (ai, 8, .inl (fun _ => 0))), (q13, .inl (ai, 8, .inl (fun _ => 0))), (q14, .inl (ai, 7, .inl (fun _ => 0)))]) X dX9_init_146 0 rfl rfl in_X9_init_X9 tyX9 tyX9_ok nmX9 19 (by decide) (by decide +kernel) rfl rfl (by decide +kernel) rfl rfl (Nat.le_of_ble_eq_true rfl) rfl ?_
  refine g_aload_n X dX9_init_149 rfl 0 rfl ?_
  refine g_iconst (v := nI 0) X dX9_init_150 (by decide) ?_
  refine g_putf (T := TX9) (v := .int (nI 0)) (ty := tyX9 20) (ws' := [(m, .inr (9, [.ref q1, .ref q2, .ref q3, .ref q4, .ref q5, .ref q6, .ref q7, .ref q8, .ref q9, .ref q10, .ref q11, .ref q12, .ref q13, .ref q14, .int (nI 0), .int (nI 0), .int (nI 0), .int (nI 0), .int (nI 0), .int (nI 0), .int (nI 0)])), (q1, .inl (ai, 42, .inl (fun _ => 0))), (q2, .inl (ai, 42, .inl (fun _ => 0))), (q3, .inl (ai, 42, .inl (fun _ => 0))), (q4, .inl (ai, 168, .inl (fun _ => 0))), (q5, .inl (ai, 42, .inl (fun _ => 0))), (q6, .inl (ai, 42, .inl (fun _ => 0))), (q7, .inl (ai, 168, .inl (fun _ => 0))), (q8, .inl (ai, 42, .inl (fun _ => 0))), (q9, .inl (az, 42, .inl (fun _ => 0))), (q10, .inl (az, 168, .inl (fun _ => 0))), (q11, .inl (az, 42, .inl (fun _ => 0))), (q12, .inl (ai, 8, .inl (fun _ => 0))), (q13, .inl (ai, 8, .inl (fun _ => 0))), (q14, .inl (ai, 7, .inl (fun _ => 0)))]) X dX9_init_151 0 rfl rfl in_X9_init_X9 tyX9 tyX9_ok nmX9 20 (by decide) (by decide +kernel) rfl rfl (by decide +kernel) rfl rfl (Nat.le_of_ble_eq_true rfl) rfl ?_
  exact g_vret X E dX9_init_154 (⟨q1, q2, q3, q4, q5, q6, q7, q8, q9, q10, q11, q12, q13, q14⟩) rfl (by decide) (by decide) (trivial)
