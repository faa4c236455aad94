/-! the model's own facts -/
theorem inN_mk {p : Int32} {a b : Nat} (ha : a < 2 ^ 31) (hb : b < 2 ^ 31) (h1 : ¬ p < nI a) (h2 : ¬ nI b < p) : inN p a b := by
  have h3 : ¬ p < 0 := by
    intro q
    apply h1
    have e1 := Int32.lt_iff_toInt_lt.mp q
    apply Int32.lt_iff_toInt_lt.mpr
    rw [nI_toInt ha]
    have : (0 : Int32).toInt = 0 := rfl
    omega
  obtain ⟨j, hj, rfl⟩ := nI_of h3
  exact ⟨j, Nat.le_of_not_lt (fun q => h1 ((nI_ltI hj ha).mpr q)), Nat.le_of_not_lt (fun q => h2 ((nI_ltI hb hj).mpr q)), rfl⟩
theorem inN_hi {p : Int32} {a b : Nat} (hb : b < 2 ^ 31) (h : nI b < p) : ¬ inN p a b := by
  rintro ⟨x, h1, h2, rfl⟩
  have := (nI_ltI hb (by omega)).mp h
  omega
theorem inN_lo {p : Int32} {a b : Nat} (ha : a < 2 ^ 31) (hb : b < 2 ^ 31) (h : p < nI a) : ¬ inN p a b := by
  rintro ⟨x, h1, h2, rfl⟩
  have := (nI_ltI (by omega) ha).mp h
  omega
theorem sdI_inj : ∀ s, s < 4 → ∀ t, t < 4 → sdI s = sdI t → s = t := by decide
def WOK (Wm : Nat → Int32) (nb : Nat → Nat → Nat) : Prop := ∀ c s, c < 42 → s < 4 → Wm (c * 4 + s) = nI (bn (decide (nb c s = 43 ∧ bN c s ≠ 43)))
theorem WOK.z {Wm : Nat → Int32} {nb : Nat → Nat → Nat} (h : WOK Wm nb) {c s : Nat} (hc : c < 42) (hs : s < 4) : Wm (c * 4 + s) = 0 ↔ ¬ (nb c s = 43 ∧ bN c s ≠ 43) := by
  rw [h c s hc hs]
  by_cases q : nb c s = 43 ∧ bN c s ≠ 43
  · rw [decide_eq_true q]; exact ⟨fun z => absurd z (by decide), fun z => absurd q z⟩
  · rw [decide_eq_false q]; exact ⟨fun _ => q, fun _ => rfl⟩
theorem NW.out {nb : Nat → Nat → Nat} (h : NW nb) {c s : Nat} (hc : c < 42) (hs : s < 4) (hb : bN c s = 43) : nb c s = 43 := by
  rcases (h c s hc hs).1 with q | q
  · rw [q, hb]
  · exact q
theorem NW.op {nb : Nat → Nat → Nat} (h : NW nb) {c s : Nat} (hc : c < 42) (hs : s < 4) (hb : ¬ nb c s = 43) : nb c s = bN c s := by
  rcases (h c s hc hs).1 with q | q
  · exact q
  · exact absurd q hb
theorem m4 (c : Nat) : nI 4 * nI c = nI (c * 4) := (pk_mul _ _).trans (by rw [Nat.mul_comm])
theorem m6 (c : Nat) : nI 6 * nI c = nI (c * 6) := (pk_mul _ _).trans (by rw [Nat.mul_comm])
theorem ok_X9_in : okName yX9_in 3 := by decide +kernel
set_option maxRecDepth 100000 in
set_option maxHeartbeats 4000000 in
theorem c_X9_in (l : Launch) (D : va_G) (ai az al : ClassId) (p : Int32) (a : Nat) (b : Nat) (ha : a < 2 ^ 31) (hb : b < 2 ^ 31) : CI l D (tY ai az al) yX9_in wsX9_in { frames := 0, cells := 0, slots := 0, locals := 0 } [.int p, .int (nI a), .int (nI b)] [] (fun (r : Int32) (u : Bool) => r = nI (bn u) ∧ (u = true ↔ inN p a b)) (fun (u : Bool) => []) := by
  refine ofG_I (cc := cX9_in) (nL := 3) (lv0 := [(0, .int p), (1, .int (nI a)), (2, .int (nI b))]) (by decide) rfl (Nat.le_of_ble_eq_true rfl) rfl ?_
  intro Γ X E
  refine g_iload_n X dX9_in_0 rfl 0 rfl ?_
  refine g_iload_n X dX9_in_1 rfl 1 rfl ?_
  refine g_icmp_lt (tgt := 14) X dX9_in_2 (by decide) (fun b2 => ?_) (fun b2 => ?_)
  · refine g_iconst (v := nI 0) X dX9_in_14 (by decide) ?_
    exact g_zret X E dX9_in_15 false rfl (by decide) (by decide) (rfl) (⟨rfl, ⟨fun q => (by cases q), fun q => absurd q (by first | exact inN_lo ha hb b2 | exact inN_hi hb b7)⟩⟩)
  · refine g_iload_n X dX9_in_5 rfl 0 rfl ?_
    refine g_iload_n X dX9_in_6 rfl 2 rfl ?_
    refine g_icmp_gt (tgt := 14) X dX9_in_7 (by decide) (fun b7 => ?_) (fun b7 => ?_)
    · refine g_iconst (v := nI 0) X dX9_in_14 (by decide) ?_
      exact g_zret X E dX9_in_15 false rfl (by decide) (by decide) (rfl) (⟨rfl, ⟨fun q => (by cases q), fun q => absurd q (by first | exact inN_lo ha hb b2 | exact inN_hi hb b7)⟩⟩)
    · refine g_iconst (v := nI 1) X dX9_in_10 (by decide) ?_
      refine g_goto (tgt := 15) X dX9_in_11 (by decide) ?_
      exact g_zret X E dX9_in_15 true rfl (by decide) (by decide) (rfl) (⟨rfl, ⟨fun _ => inN_mk ha hb b2 b7, fun _ => rfl⟩⟩)

theorem c_X9_inT (l : Launch) (D : va_G) (ai az al : ClassId) (p : Int32) (a : Nat) (b : Nat) (ha : a < 2 ^ 31) (hb : b < 2 ^ 31) (hq : inN p a b) : CI l D (tY ai az al) yX9_in wsX9_in { frames := 0, cells := 0, slots := 0, locals := 0 } [.int p, .int (nI a), .int (nI b)] [] (fun (r : Int32) (u : Unit) => r = nI 1) (fun (u : Unit) => []) := (c_X9_in l D ai az al p a b ha hb).imp (fun r u h => ⟨(), by rw [h.1, h.2.mpr hq]; rfl, rfl⟩)
theorem c_X9_inF (l : Launch) (D : va_G) (ai az al : ClassId) (p : Int32) (a : Nat) (b : Nat) (ha : a < 2 ^ 31) (hb : b < 2 ^ 31) (hq : ¬ inN p a b) : CI l D (tY ai az al) yX9_in wsX9_in { frames := 0, cells := 0, slots := 0, locals := 0 } [.int p, .int (nI a), .int (nI b)] [] (fun (r : Int32) (u : Unit) => r = nI 0) (fun (u : Unit) => []) := (c_X9_in l D ai az al p a b ha hb).imp (fun r u h => ⟨(), by rw [h.1]; cases u; rfl; exact absurd (h.2.mp rfl) hq, rfl⟩)
theorem ok_X9_isCell : okName yX9_isCell 2 := by decide +kernel
set_option maxRecDepth 100000 in
set_option maxHeartbeats 4000000 in
theorem c_X9_isCell (l : Launch) (D : va_G) (ai az al : ClassId) (p0 : Int32) (p1 : Int32) : CI l D (tY ai az al) yX9_isCell wsX9_isCell { frames := 1, cells := 0, slots := 0, locals := 22 } [.int p0, .int p1] [] (fun (r : Int32) (u : Bool) => r = nI (bn u) ∧ (u = true ↔ CP p0 p1)) (fun (u : Bool) => []) := by
  refine ofG_I (cc := cX9_isCell) (nL := 2) (lv0 := [(0, .int p0), (1, .int p1)]) (by decide) rfl (Nat.le_of_ble_eq_true rfl) rfl ?_
  intro Γ X E
  refine g_iload_n X dX9_isCell_0 rfl 0 rfl ?_
  refine g_iconst (v := nI 0) X dX9_isCell_1 (by decide) ?_
  refine g_iconst (v := nI 5) X dX9_isCell_2 (by decide) ?_
  refine g_callSi (As := [.int p0, .int (nI 0), .int (nI 5)]) (rest := []) (wr := []) X dX9_isCell_3 (c_X9_in l D ai az al p0 0 5 (by decide) (by decide)) gX9_isCell_X9_in rfl rfl ok_X9_in rfl rfl (by decide) ⟨by decide, by decide⟩ (Nat.le_of_ble_eq_true rfl) [] [] ⟨rfl, by decide, rfl, by decide, by decide⟩ (fun r1 z1 hp => ?_)
  try dsimp only at hp
  obtain ⟨rfl, hz1⟩ := hp
  refine g_sub (k := 0) (n := 0) (ws' := []) [] (by decide) rfl ?_
  refine g_if_eqN (tgt := 23) X dX9_isCell_6 (by decide) (bn_lt _) (fun b6 => ?_) (fun b6 => ?_)
  · refine g_iconst (v := nI 0) X dX9_isCell_23 (by decide) ?_
    exact g_zret X E dX9_isCell_24 false rfl (by decide) (by decide) (rfl) (⟨rfl, ⟨fun q => (by cases q), fun q => by first | exact absurd (hz1.mpr q.1) (by rw [bn_0.mp b6]; decide) | exact absurd (hz2.mpr q.2) (by rw [bn_0.mp b16]; decide)⟩⟩)
  · refine g_iload_n X dX9_isCell_9 rfl 1 rfl ?_
    refine g_iconst (v := nI 0) X dX9_isCell_10 (by decide) ?_
    refine g_bipush (v := nI 6) X dX9_isCell_11 (by decide) ?_
    refine g_callSi (As := [.int p1, .int (nI 0), .int (nI 6)]) (rest := []) (wr := []) X dX9_isCell_13 (c_X9_in l D ai az al p1 0 6 (by decide) (by decide)) gX9_isCell_X9_in rfl rfl ok_X9_in rfl rfl (by decide) ⟨by decide, by decide⟩ (Nat.le_of_ble_eq_true rfl) [] [] ⟨rfl, by decide, rfl, by decide, by decide⟩ (fun r2 z2 hp => ?_)
    try dsimp only at hp
    obtain ⟨rfl, hz2⟩ := hp
    refine g_sub (k := 0) (n := 0) (ws' := []) [] (by decide) rfl ?_
    refine g_if_eqN (tgt := 23) X dX9_isCell_16 (by decide) (bn_lt _) (fun b16 => ?_) (fun b16 => ?_)
    · refine g_iconst (v := nI 0) X dX9_isCell_23 (by decide) ?_
      exact g_zret X E dX9_isCell_24 false rfl (by decide) (by decide) (rfl) (⟨rfl, ⟨fun q => (by cases q), fun q => by first | exact absurd (hz1.mpr q.1) (by rw [bn_0.mp b6]; decide) | exact absurd (hz2.mpr q.2) (by rw [bn_0.mp b16]; decide)⟩⟩)
    · refine g_iconst (v := nI 1) X dX9_isCell_19 (by decide) ?_
      refine g_goto (tgt := 24) X dX9_isCell_20 (by decide) ?_
      exact g_zret X E dX9_isCell_24 true rfl (by decide) (by decide) (rfl) (⟨rfl, ⟨fun _ => ⟨hz1.mp (bn_n.mp b6), hz2.mp (bn_n.mp b16)⟩, fun _ => rfl⟩⟩)

theorem c_X9_isCellT (l : Launch) (D : va_G) (ai az al : ClassId) (p0 : Int32) (p1 : Int32) (hq : CP p0 p1) : CI l D (tY ai az al) yX9_isCell wsX9_isCell { frames := 1, cells := 0, slots := 0, locals := 22 } [.int p0, .int p1] [] (fun (r : Int32) (u : Unit) => r = nI 1) (fun (u : Unit) => []) := (c_X9_isCell l D ai az al p0 p1).imp (fun r u h => ⟨(), by rw [h.1, h.2.mpr hq]; rfl, rfl⟩)
theorem c_X9_isCellF (l : Launch) (D : va_G) (ai az al : ClassId) (p0 : Int32) (p1 : Int32) (hq : ¬ (CP p0 p1)) : CI l D (tY ai az al) yX9_isCell wsX9_isCell { frames := 1, cells := 0, slots := 0, locals := 22 } [.int p0, .int p1] [] (fun (r : Int32) (u : Unit) => r = nI 0) (fun (u : Unit) => []) := (c_X9_isCell l D ai az al p0 p1).imp (fun r u h => ⟨(), by rw [h.1]; cases u; rfl; exact absurd (h.2.mp rfl) hq, rfl⟩)
theorem ok_X9_isColumn : okName yX9_isColumn 1 := by decide +kernel
set_option maxRecDepth 100000 in
set_option maxHeartbeats 4000000 in
theorem c_X9_isColumn (l : Launch) (D : va_G) (ai az al : ClassId) (p0 : Int32) : CI l D (tY ai az al) yX9_isColumn wsX9_isColumn { frames := 1, cells := 0, slots := 0, locals := 22 } [.int p0] [] (fun (r : Int32) (u : Bool) => r = nI (bn u) ∧ (u = true ↔ inN p0 0 5)) (fun (u : Bool) => []) := by
  refine ofG_I (cc := cX9_isColumn) (nL := 1) (lv0 := [(0, .int p0)]) (by decide) rfl (Nat.le_of_ble_eq_true rfl) rfl ?_
  intro Γ X E
  refine g_iload_n X dX9_isColumn_0 rfl 0 rfl ?_
  refine g_iconst (v := nI 0) X dX9_isColumn_1 (by decide) ?_
  refine g_iconst (v := nI 5) X dX9_isColumn_2 (by decide) ?_
  refine g_callSi (As := [.int p0, .int (nI 0), .int (nI 5)]) (rest := []) (wr := []) X dX9_isColumn_3 (c_X9_in l D ai az al p0 0 5 (by decide) (by decide)) gX9_isColumn_X9_in rfl rfl ok_X9_in rfl rfl (by decide) ⟨by decide, by decide⟩ (Nat.le_of_ble_eq_true rfl) [] [] ⟨rfl, by decide, rfl, by decide, by decide⟩ (fun r1 z1 hp => ?_)
  try dsimp only at hp
  obtain ⟨rfl, hz1⟩ := hp
  refine g_sub (k := 0) (n := 0) (ws' := []) [] (by decide) rfl ?_
  exact g_zret X E dX9_isColumn_6 z1 rfl (by decide) (by decide) (bn_z z1) (⟨rfl, hz1⟩)

theorem c_X9_isColumnT (l : Launch) (D : va_G) (ai az al : ClassId) (p0 : Int32) (hq : inN p0 0 5) : CI l D (tY ai az al) yX9_isColumn wsX9_isColumn { frames := 1, cells := 0, slots := 0, locals := 22 } [.int p0] [] (fun (r : Int32) (u : Unit) => r = nI 1) (fun (u : Unit) => []) := (c_X9_isColumn l D ai az al p0).imp (fun r u h => ⟨(), by rw [h.1, h.2.mpr hq]; rfl, rfl⟩)
theorem c_X9_isColumnF (l : Launch) (D : va_G) (ai az al : ClassId) (p0 : Int32) (hq : ¬ (inN p0 0 5)) : CI l D (tY ai az al) yX9_isColumn wsX9_isColumn { frames := 1, cells := 0, slots := 0, locals := 22 } [.int p0] [] (fun (r : Int32) (u : Unit) => r = nI 0) (fun (u : Unit) => []) := (c_X9_isColumn l D ai az al p0).imp (fun r u h => ⟨(), by rw [h.1]; cases u; rfl; exact absurd (h.2.mp rfl) hq, rfl⟩)
theorem ok_X9_at : okName yX9_at 2 := by decide +kernel
set_option maxRecDepth 100000 in
set_option maxHeartbeats 4000000 in
theorem c_X9_at (l : Launch) (D : va_G) (ai az al : ClassId) (x : Nat) (y : Nat) : CI l D (tY ai az al) yX9_at wsX9_at { frames := 0, cells := 0, slots := 0, locals := 0 } [.int (nI x), .int (nI y)] [] (fun (r : Int32) (u : Unit) => r = nI (y * 6 + x)) (fun (u : Unit) => []) := by
  refine ofG_I (cc := cX9_at) (nL := 2) (lv0 := [(0, .int (nI x)), (1, .int (nI y))]) (by decide) rfl (Nat.le_of_ble_eq_true rfl) rfl ?_
  intro Γ X E
  refine g_bipush (v := nI 6) X dX9_at_0 (by decide) ?_
  refine g_iload_n X dX9_at_2 rfl 1 rfl ?_
  refine g_imul (v := nI (y * 6)) X dX9_at_3 (m6 _) ?_
  refine g_iload_n X dX9_at_4 rfl 0 rfl ?_
  refine g_iadd (v := nI ((y * 6) + x)) X dX9_at_5 (nI_add _ _) ?_
  exact g_iret X E dX9_at_6 () rfl (by decide) (by decide) (rfl)

theorem ok_X9_sideOf : okName yX9_sideOf 1 := by decide +kernel
set_option maxRecDepth 100000 in
set_option maxHeartbeats 4000000 in
theorem c_X9_sideOf (l : Launch) (D : va_G) (ai az al : ClassId) (p2 : Int32) : CI l D (tY ai az al) yX9_sideOf wsX9_sideOf { frames := 0, cells := 0, slots := 0, locals := 0 } [.int p2] [] (fun (r : Int32) (u : Unit) => ((∃ s, s < 4 ∧ p2 = sdI s ∧ r = nI s) ∨ (r = -2 ∧ ¬ isSd p2))) (fun (u : Unit) => []) := by
  refine ofG_I (cc := cX9_sideOf) (nL := 1) (lv0 := [(0, .int p2)]) (by decide) rfl (Nat.le_of_ble_eq_true rfl) rfl ?_
  intro Γ X E
  refine g_iload_n X dX9_sideOf_0 rfl 0 rfl ?_
  refine g_bipush (v := nI 115) X dX9_sideOf_1 (by decide) ?_
  refine g_icmp_ne (tgt := 10) X dX9_sideOf_3 (by decide) (fun b3 => ?_) (fun b3 => ?_)
  · refine g_iload_n X dX9_sideOf_10 rfl 0 rfl ?_
    refine g_bipush (v := nI 108) X dX9_sideOf_11 (by decide) ?_
    refine g_icmp_ne (tgt := 20) X dX9_sideOf_13 (by decide) (fun b13 => ?_) (fun b13 => ?_)
    · refine g_iload_n X dX9_sideOf_20 rfl 0 rfl ?_
      refine g_bipush (v := nI 119) X dX9_sideOf_21 (by decide) ?_
      refine g_icmp_ne (tgt := 30) X dX9_sideOf_23 (by decide) (fun b23 => ?_) (fun b23 => ?_)
      · refine g_iload_n X dX9_sideOf_30 rfl 0 rfl ?_
        refine g_bipush (v := nI 101) X dX9_sideOf_31 (by decide) ?_
        refine g_icmp_ne (tgt := 40) X dX9_sideOf_33 (by decide) (fun b33 => ?_) (fun b33 => ?_)
        · refine g_bipush (v := (-2)) X dX9_sideOf_40 (by decide) ?_
          exact g_iret X E dX9_sideOf_42 () rfl (by decide) (by decide) (Or.inr ⟨rfl, isSd_no b3 b13 b23 b33⟩)
        · refine g_iconst (v := nI 3) X dX9_sideOf_36 (by decide) ?_
          refine g_goto (tgt := 42) X dX9_sideOf_37 (by decide) ?_
          exact g_iret X E dX9_sideOf_42 () rfl (by decide) (by decide) (Or.inl ⟨3, by decide, b33, rfl⟩)
      · refine g_iconst (v := nI 2) X dX9_sideOf_26 (by decide) ?_
        refine g_goto (tgt := 42) X dX9_sideOf_27 (by decide) ?_
        exact g_iret X E dX9_sideOf_42 () rfl (by decide) (by decide) (Or.inl ⟨2, by decide, b23, rfl⟩)
    · refine g_iconst (v := nI 1) X dX9_sideOf_16 (by decide) ?_
      refine g_goto (tgt := 42) X dX9_sideOf_17 (by decide) ?_
      exact g_iret X E dX9_sideOf_42 () rfl (by decide) (by decide) (Or.inl ⟨1, by decide, b13, rfl⟩)
  · refine g_iconst (v := nI 0) X dX9_sideOf_6 (by decide) ?_
    refine g_goto (tgt := 42) X dX9_sideOf_7 (by decide) ?_
    exact g_iret X E dX9_sideOf_42 () rfl (by decide) (by decide) (Or.inl ⟨0, by decide, b3, rfl⟩)

theorem c_X9_sideOfN (l : Launch) (D : va_G) (ai az al : ClassId) (s : Nat) (hs : s < 4) : CI l D (tY ai az al) yX9_sideOf wsX9_sideOf { frames := 0, cells := 0, slots := 0, locals := 0 } [.int (sdI s)] [] (fun (r : Int32) (u : Unit) => r = nI s) (fun (u : Unit) => []) := (c_X9_sideOf l D ai az al (sdI s)).imp (fun r u h => ⟨(), by rcases h with ⟨t, h1, h2, h3⟩ | ⟨_, h2⟩; (rw [h3, sdI_inj s hs t h1 h2]); exact absurd ⟨s, hs, rfl⟩ h2, rfl⟩)
theorem c_X9_sideOfF (l : Launch) (D : va_G) (ai az al : ClassId) (p2 : Int32) (hq : ¬ isSd p2) : CI l D (tY ai az al) yX9_sideOf wsX9_sideOf { frames := 0, cells := 0, slots := 0, locals := 0 } [.int p2] [] (fun (r : Int32) (u : Unit) => r = (-2)) (fun (u : Unit) => []) := (c_X9_sideOf l D ai az al p2).imp (fun r u h => ⟨(), by rcases h with ⟨t, h1, h2, h3⟩ | ⟨h1, _⟩; exact absurd ⟨t, h1, h2⟩ hq; exact h1, rfl⟩)
theorem ok_X9_behind : okName yX9_behind 2 := by decide +kernel
set_option maxRecDepth 100000 in
set_option maxHeartbeats 4000000 in
theorem c_X9_behind (l : Launch) (D : va_G) (ai az al : ClassId) (c : Nat) (s : Nat) (hc : c < 42) (hs : s < 4) : CI l D (tY ai az al) yX9_behind wsX9_behind { frames := 0, cells := 0, slots := 0, locals := 0 } [.int (nI c), .int (nI s)] [] (fun (r : Int32) (u : Unit) => r = cd (bN c s)) (fun (u : Unit) => []) := by
  refine ofG_I (cc := cX9_behind) (nL := 4) (lv0 := [(0, .int (nI c)), (1, .int (nI s))]) (by decide) rfl (Nat.le_of_ble_eq_true rfl) rfl ?_
  intro Γ X E
  refine g_iload_n X dX9_behind_0 rfl 0 rfl ?_
  refine g_bipush (v := nI 6) X dX9_behind_1 (by decide) ?_
  refine g_idiv (v := nI (c / 6)) X dX9_behind_3 (by decide) (pk_div (by omega) (by omega) (by omega)) ?_
  refine g_istore_n (lv' := [(2, .int (nI (c / 6))), (0, .int (nI c)), (1, .int (nI s))]) X dX9_behind_4 rfl (by decide) rfl ?_
  refine g_iload_n X dX9_behind_5 rfl 1 rfl ?_
  refine g_bipush (v := nI 6) X dX9_behind_6 (by decide) ?_
  refine g_irem (v := nI (c % 6)) X dX9_behind_8 (by decide) (pk_rem (by omega) (by omega) (by omega)) ?_
  refine g_istore_n (lv' := [(3, .int (nI (c % 6))), (2, .int (nI (c / 6))), (0, .int (nI c)), (1, .int (nI s))]) X dX9_behind_9 rfl (by decide) rfl ?_
  refine g_iload_n X dX9_behind_10 rfl 3 rfl ?_
  refine g_if_neN (tgt := 27) X dX9_behind_11 (by decide) (by omega) (fun b11 => ?_) (fun b11 => ?_)
  · refine g_iload_n X dX9_behind_27 rfl 3 rfl ?_
    refine g_iconst (v := nI 1) X dX9_behind_28 (by decide) ?_
    refine g_icmp_neN (tgt := 48) X dX9_behind_29 (by decide) (by omega) (by omega) (fun b29 => ?_) (fun b29 => ?_)
    · refine g_iload_n X dX9_behind_48 rfl 3 rfl ?_
      refine g_iconst (v := nI 2) X dX9_behind_49 (by decide) ?_
      refine g_icmp_neN (tgt := 66) X dX9_behind_50 (by decide) (by omega) (by omega) (fun b50 => ?_) (fun b50 => ?_)
      · refine g_iload_n X dX9_behind_66 rfl 0 rfl ?_
        refine g_iconst (v := nI 5) X dX9_behind_67 (by decide) ?_
        refine g_icmp_neN (tgt := 76) X dX9_behind_68 (by decide) (by omega) (by omega) (fun b68 => ?_) (fun b68 => ?_)
        · refine g_iload_n X dX9_behind_76 rfl 2 rfl ?_
          refine g_iconst (v := nI 1) X dX9_behind_77 (by decide) ?_
          refine g_iadd (v := nI (c + 1)) X dX9_behind_78 (nI_add _ _) ?_
          exact g_iret X E dX9_behind_79 () rfl (by decide) (by decide) (by unfold bN; (repeat' split) <;> first | (exfalso; omega) | exact (cd_lt (by omega)).symm | rfl)
        · refine g_bipush (v := (-2)) X dX9_behind_71 (by decide) ?_
          refine g_goto (tgt := 79) X dX9_behind_73 (by decide) ?_
          exact g_iret X E dX9_behind_79 () rfl (by decide) (by decide) (by unfold bN; (repeat' split) <;> first | (exfalso; omega) | exact (cd_lt (by omega)).symm | rfl)
      · refine g_iload_n X dX9_behind_53 rfl 0 rfl ?_
        refine g_if_neN (tgt := 62) X dX9_behind_54 (by decide) (by omega) (fun b54 => ?_) (fun b54 => ?_)
        · refine g_iload_n X dX9_behind_62 rfl 2 rfl ?_
          refine g_iconst (v := nI 1) X dX9_behind_63 (by decide) ?_
          refine g_isub (v := nI (c - 1)) X dX9_behind_64 (pk_sub (by omega)) ?_
          exact g_iret X E dX9_behind_65 () rfl (by decide) (by decide) (by unfold bN; (repeat' split) <;> first | (exfalso; omega) | exact (cd_lt (by omega)).symm | rfl)
        · refine g_bipush (v := (-2)) X dX9_behind_57 (by decide) ?_
          refine g_goto (tgt := 65) X dX9_behind_59 (by decide) ?_
          exact g_iret X E dX9_behind_65 () rfl (by decide) (by decide) (by unfold bN; (repeat' split) <;> first | (exfalso; omega) | exact (cd_lt (by omega)).symm | rfl)
    · refine g_iload_n X dX9_behind_32 rfl 1 rfl ?_
      refine g_bipush (v := nI 6) X dX9_behind_33 (by decide) ?_
      refine g_icmp_neN (tgt := 43) X dX9_behind_35 (by decide) (by omega) (by omega) (fun b35 => ?_) (fun b35 => ?_)
      · refine g_iload_n X dX9_behind_43 rfl 2 rfl ?_
        refine g_bipush (v := nI 6) X dX9_behind_44 (by decide) ?_
        refine g_iadd (v := nI (c + 6)) X dX9_behind_46 (nI_add _ _) ?_
        exact g_iret X E dX9_behind_47 () rfl (by decide) (by decide) (by unfold bN; (repeat' split) <;> first | (exfalso; omega) | exact (cd_lt (by omega)).symm | rfl)
      · refine g_bipush (v := (-2)) X dX9_behind_38 (by decide) ?_
        refine g_goto (tgt := 47) X dX9_behind_40 (by decide) ?_
        exact g_iret X E dX9_behind_47 () rfl (by decide) (by decide) (by unfold bN; (repeat' split) <;> first | (exfalso; omega) | exact (cd_lt (by omega)).symm | rfl)
  · refine g_iload_n X dX9_behind_14 rfl 1 rfl ?_
    refine g_if_neN (tgt := 22) X dX9_behind_15 (by decide) (by omega) (fun b15 => ?_) (fun b15 => ?_)
    · refine g_iload_n X dX9_behind_22 rfl 2 rfl ?_
      refine g_bipush (v := nI 6) X dX9_behind_23 (by decide) ?_
      refine g_isub (v := nI (c - 6)) X dX9_behind_25 (pk_sub (by omega)) ?_
      exact g_iret X E dX9_behind_26 () rfl (by decide) (by decide) (by unfold bN; (repeat' split) <;> first | (exfalso; omega) | exact (cd_lt (by omega)).symm | rfl)
    · refine g_iconst (v := (-1)) X dX9_behind_18 (by decide) ?_
      refine g_goto (tgt := 26) X dX9_behind_19 (by decide) ?_
      exact g_iret X E dX9_behind_26 () rfl (by decide) (by decide) (by unfold bN; (repeat' split) <;> first | (exfalso; omega) | exact (cd_lt (by omega)).symm | rfl)

theorem ok_X9_opposite : okName yX9_opposite 1 := by decide +kernel
set_option maxRecDepth 100000 in
set_option maxHeartbeats 4000000 in
theorem c_X9_opposite (l : Launch) (D : va_G) (ai az al : ClassId) (s : Nat) (hs : s < 4) : CI l D (tY ai az al) yX9_opposite wsX9_opposite { frames := 0, cells := 0, slots := 0, locals := 0 } [.int (nI s)] [] (fun (r : Int32) (u : Unit) => r = nI (opp s)) (fun (u : Unit) => []) := by
  refine ofG_I (cc := cX9_opposite) (nL := 1) (lv0 := [(0, .int (nI s))]) (by decide) rfl (Nat.le_of_ble_eq_true rfl) rfl ?_
  intro Γ X E
  refine g_iload_n X dX9_opposite_0 rfl 0 rfl ?_
  refine g_if_neN (tgt := 8) X dX9_opposite_1 (by decide) (by omega) (fun b1 => ?_) (fun b1 => ?_)
  · refine g_iload_n X dX9_opposite_8 rfl 0 rfl ?_
    refine g_iconst (v := nI 1) X dX9_opposite_9 (by decide) ?_
    refine g_icmp_neN (tgt := 17) X dX9_opposite_10 (by decide) (by omega) (by omega) (fun b10 => ?_) (fun b10 => ?_)
    · refine g_iload_n X dX9_opposite_17 rfl 0 rfl ?_
      refine g_iconst (v := nI 2) X dX9_opposite_18 (by decide) ?_
      refine g_icmp_neN (tgt := 26) X dX9_opposite_19 (by decide) (by omega) (by omega) (fun b19 => ?_) (fun b19 => ?_)
      · refine g_iconst (v := nI 2) X dX9_opposite_26 (by decide) ?_
        exact g_iret X E dX9_opposite_27 () rfl (by decide) (by decide) (by unfold opp; (repeat' split) <;> first | (exfalso; omega) | rfl)
      · refine g_iconst (v := nI 3) X dX9_opposite_22 (by decide) ?_
        refine g_goto (tgt := 27) X dX9_opposite_23 (by decide) ?_
        exact g_iret X E dX9_opposite_27 () rfl (by decide) (by decide) (by unfold opp; (repeat' split) <;> first | (exfalso; omega) | rfl)
    · refine g_iconst (v := nI 0) X dX9_opposite_13 (by decide) ?_
      refine g_goto (tgt := 27) X dX9_opposite_14 (by decide) ?_
      exact g_iret X E dX9_opposite_27 () rfl (by decide) (by decide) (by unfold opp; (repeat' split) <;> first | (exfalso; omega) | rfl)
  · refine g_iconst (v := nI 1) X dX9_opposite_4 (by decide) ?_
    refine g_goto (tgt := 27) X dX9_opposite_5 (by decide) ?_
    exact g_iret X E dX9_opposite_27 () rfl (by decide) (by decide) (by unfold opp; (repeat' split) <;> first | (exfalso; omega) | rfl)

theorem ok_X9_isOpen : okName yX9_isOpen 2 := by decide +kernel
theorem in_X9_isOpen_X9 : ∀ w ∈ u_ws RX9 TX9 21, w ∈ wsX9_isOpen := by decide +kernel
set_option maxRecDepth 100000 in
set_option maxHeartbeats 4000000 in
theorem c_X9_isOpen (l : Launch) (D : va_G) (ai az al : ClassId) (m : Nat) (mh : Nat) (mg : Nat) (mt : Nat) (mf : Nat) (ms : Nat) (msT : Nat) (msF : Nat) (mgv : Nat) (mP : Nat) (mW : Nat) (mV : Nat) (mco : Nat) (men : Nat) (mnt : Nat) (tw : Int32) (mse : Int32) (mbr : Int32) (mwk : Int32) (mns : Int32) (mtp : Int32) (mss : Int32) (Wm : Nat → Int32) (nb : Nat → Nat → Nat) (c : Nat) (s : Nat) (hc : c < 42) (hs : s < 4) (hW : NW nb) (hWm : WOK Wm nb) : CI l D (tY ai az al) yX9_isOpen wsX9_isOpen { frames := 1, cells := 0, slots := 0, locals := 23 } [.ref m, .int (nI c), .int (nI s)] [(m, .inr (9, [.ref mh, .ref mg, .ref mt, .ref mf, .ref ms, .ref msT, .ref msF, .ref mgv, .ref mP, .ref mW, .ref mV, .ref mco, .ref men, .ref mnt, .int tw, .int mse, .int mbr, .int mwk, .int mns, .int mtp, .int mss])), (mW, .inl (az, 168, .inl Wm))] (fun (r : Int32) (u : Unit) => r = nI (bn (decide (nb c s ≠ 43)))) (fun (u : Unit) => [(m, .inr (9, [.ref mh, .ref mg, .ref mt, .ref mf, .ref ms, .ref msT, .ref msF, .ref mgv, .ref mP, .ref mW, .ref mV, .ref mco, .ref men, .ref mnt, .int tw, .int mse, .int mbr, .int mwk, .int mns, .int mtp, .int mss])), (mW, .inl (az, 168, .inl Wm))]) := by
  refine ofG_I (cc := cX9_isOpen) (nL := 3) (lv0 := [(0, .ref m), (1, .int (nI c)), (2, .int (nI s))]) (by decide) rfl (Nat.le_of_ble_eq_true rfl) rfl ?_
  intro Γ X E
  refine g_iload_n X dX9_isOpen_0 rfl 1 rfl ?_
  refine g_iload_n X dX9_isOpen_1 rfl 2 rfl ?_
  refine g_callSi (As := [.int (nI c), .int (nI s)]) (rest := []) (wr := [(m, .inr (9, [.ref mh, .ref mg, .ref mt, .ref mf, .ref ms, .ref msT, .ref msF, .ref mgv, .ref mP, .ref mW, .ref mV, .ref mco, .ref men, .ref mnt, .int tw, .int mse, .int mbr, .int mwk, .int mns, .int mtp, .int mss])), (mW, .inl (az, 168, .inl Wm))]) X dX9_isOpen_2 (c_X9_behind l D ai az al c s (by first | omega | assumption) (by first | omega | assumption)) gX9_isOpen_X9_behind rfl rfl ok_X9_behind rfl rfl (by decide) ⟨by decide, by decide⟩ (Nat.le_of_ble_eq_true rfl) [] [0, 1] ⟨rfl, by decide, rfl, by decide, by decide⟩ (fun r1 u hp => ?_)
  obtain rfl := hp
  refine g_sub (k := 0) (n := 0) (ws' := [(m, .inr (9, [.ref mh, .ref mg, .ref mt, .ref mf, .ref ms, .ref msT, .ref msF, .ref mgv, .ref mP, .ref mW, .ref mV, .ref mco, .ref men, .ref mnt, .int tw, .int mse, .int mbr, .int mwk, .int mns, .int mtp, .int mss])), (mW, .inl (az, 168, .inl Wm))]) [0, 1] (by decide) rfl ?_
  refine g_bipush (v := (-2)) X dX9_isOpen_5 (by decide) ?_
  refine g_icmp_eq (tgt := 27) X dX9_isOpen_7 (by decide) (fun b7 => ?_) (fun b7 => ?_)
  · refine g_iconst (v := nI 0) X dX9_isOpen_27 (by decide) ?_
    exact g_zret X E dX9_isOpen_28 () rfl (by decide) (by decide) (rfl) (by first
          | (rw [decide_eq_false (p := nb c s ≠ 43) (fun q => q (hW.out hc hs ((cd_m2 (bN_le hc)).mp b7)))]; rfl)
          | (rw [decide_eq_false (p := nb c s ≠ 43) (fun q => b20 ((hWm.z hc hs).mpr (fun w => q w.1)))]; rfl)
          | (rw [decide_eq_true (p := nb c s ≠ 43) (fun q => (hWm.z hc hs).mp b20 ⟨q, fun w => b7 ((cd_m2 (bN_le hc)).mpr w)⟩)]; rfl))
  · refine g_aload_n X dX9_isOpen_10 rfl 0 rfl ?_
    refine g_getf (T := TX9) (v := .ref mW) X dX9_isOpen_11 0 rfl rfl in_X9_isOpen_X9 9 (by decide) (by decide +kernel) rfl rfl ?_
    refine g_iconst (v := nI 4) X dX9_isOpen_14 (by decide) ?_
    refine g_iload_n X dX9_isOpen_15 rfl 1 rfl ?_
    refine g_imul (v := nI (c * 4)) X dX9_isOpen_16 (m4 _) ?_
    refine g_iload_n X dX9_isOpen_17 rfl 2 rfl ?_
    refine g_iadd (v := nI ((c * 4) + s)) X dX9_isOpen_18 (nI_add _ _) ?_
    refine g_zaldN (v := (Wm ((c * 4) + s))) X dX9_isOpen_19 1 1 rfl rfl (by omega) (by omega) (rfl) ?_
    refine g_if_ne (tgt := 27) X dX9_isOpen_20 (by decide) (fun b20 => ?_) (fun b20 => ?_)
    · refine g_iconst (v := nI 0) X dX9_isOpen_27 (by decide) ?_
      exact g_zret X E dX9_isOpen_28 () rfl (by decide) (by decide) (rfl) (by first
          | (rw [decide_eq_false (p := nb c s ≠ 43) (fun q => q (hW.out hc hs ((cd_m2 (bN_le hc)).mp b7)))]; rfl)
          | (rw [decide_eq_false (p := nb c s ≠ 43) (fun q => b20 ((hWm.z hc hs).mpr (fun w => q w.1)))]; rfl)
          | (rw [decide_eq_true (p := nb c s ≠ 43) (fun q => (hWm.z hc hs).mp b20 ⟨q, fun w => b7 ((cd_m2 (bN_le hc)).mpr w)⟩)]; rfl))
    · refine g_iconst (v := nI 1) X dX9_isOpen_23 (by decide) ?_
      refine g_goto (tgt := 28) X dX9_isOpen_24 (by decide) ?_
      exact g_zret X E dX9_isOpen_28 () rfl (by decide) (by decide) (rfl) (by first
          | (rw [decide_eq_false (p := nb c s ≠ 43) (fun q => q (hW.out hc hs ((cd_m2 (bN_le hc)).mp b7)))]; rfl)
          | (rw [decide_eq_false (p := nb c s ≠ 43) (fun q => b20 ((hWm.z hc hs).mpr (fun w => q w.1)))]; rfl)
          | (rw [decide_eq_true (p := nb c s ≠ 43) (fun q => (hWm.z hc hs).mp b20 ⟨q, fun w => b7 ((cd_m2 (bN_le hc)).mpr w)⟩)]; rfl))

theorem ok_X9_bound : okName yX9_bound 1 := by decide +kernel
theorem in_X9_bound_X9 : ∀ w ∈ u_ws RX9 TX9 21, w ∈ wsX9_bound := by decide +kernel
set_option maxRecDepth 100000 in
set_option maxHeartbeats 4000000 in
theorem c_X9_bound (l : Launch) (D : va_G) (ai az al : ClassId) (m : Nat) (mh : Nat) (mg : Nat) (mt : Nat) (mf : Nat) (ms : Nat) (msT : Nat) (msF : Nat) (mgv : Nat) (mP : Nat) (mW : Nat) (mV : Nat) (mco : Nat) (men : Nat) (mnt : Nat) (tw : Int32) (mse : Int32) (mbr : Int32) (mwk : Int32) (mns : Int32) (mtp : Int32) (mss : Int32) (Pm : Nat → Int32) (pl : Nat → Bool) (c : Nat) (hc : c < 42) (hP : POK Pm pl) : CI l D (tY ai az al) yX9_bound wsX9_bound { frames := 0, cells := 0, slots := 0, locals := 0 } [.ref m, .int (nI c)] [(m, .inr (9, [.ref mh, .ref mg, .ref mt, .ref mf, .ref ms, .ref msT, .ref msF, .ref mgv, .ref mP, .ref mW, .ref mV, .ref mco, .ref men, .ref mnt, .int tw, .int mse, .int mbr, .int mwk, .int mns, .int mtp, .int mss])), (mP, .inl (az, 42, .inl Pm))] (fun (r : Int32) (u : Unit) => r = nI (lim pl c)) (fun (u : Unit) => [(m, .inr (9, [.ref mh, .ref mg, .ref mt, .ref mf, .ref ms, .ref msT, .ref msF, .ref mgv, .ref mP, .ref mW, .ref mV, .ref mco, .ref men, .ref mnt, .int tw, .int mse, .int mbr, .int mwk, .int mns, .int mtp, .int mss])), (mP, .inl (az, 42, .inl Pm))]) := by
  refine ofG_I (cc := cX9_bound) (nL := 2) (lv0 := [(0, .ref m), (1, .int (nI c))]) (by decide) rfl (Nat.le_of_ble_eq_true rfl) rfl ?_
  intro Γ X E
  refine g_aload_n X dX9_bound_0 rfl 0 rfl ?_
  refine g_getf (T := TX9) (v := .ref mP) X dX9_bound_1 0 rfl rfl in_X9_bound_X9 8 (by decide) (by decide +kernel) rfl rfl ?_
  refine g_iload_n X dX9_bound_4 rfl 1 rfl ?_
  refine g_zaldN (v := (Pm c)) X dX9_bound_5 1 1 rfl rfl (by omega) (by omega) (rfl) ?_
  refine g_if_eq (tgt := 14) X dX9_bound_6 (by decide) (fun b6 => ?_) (fun b6 => ?_)
  · refine g_iconst (v := nI 4) X dX9_bound_14 (by decide) ?_
    exact g_iret X E dX9_bound_15 () rfl (by decide) (by decide) (by first | rw [limZ hP hc b6] | rw [limN hP hc b6])
  · refine g_bipush (v := nI 8) X dX9_bound_9 (by decide) ?_
    refine g_goto (tgt := 15) X dX9_bound_11 (by decide) ?_
    exact g_iret X E dX9_bound_15 () rfl (by decide) (by decide) (by first | rw [limZ hP hc b6] | rw [limN hP hc b6])

theorem ok_X9_thrown : okName yX9_thrown 0 := by decide +kernel
theorem in_X9_thrown_X9 : ∀ w ∈ u_ws RX9 TX9 21, w ∈ wsX9_thrown := by decide +kernel
set_option maxRecDepth 100000 in
set_option maxHeartbeats 4000000 in
theorem c_X9_thrown (l : Launch) (D : va_G) (ai az al : ClassId) (m : Nat) (mh : Nat) (mg : Nat) (mt : Nat) (mf : Nat) (ms : Nat) (msT : Nat) (msF : Nat) (mgv : Nat) (mP : Nat) (mW : Nat) (mV : Nat) (mco : Nat) (men : Nat) (mnt : Nat) (tw : Int32) (mse : Int32) (mbr : Int32) (mwk : Int32) (mns : Int32) (mtp : Int32) (mss : Int32) : CI l D (tY ai az al) yX9_thrown wsX9_thrown { frames := 0, cells := 0, slots := 0, locals := 0 } [.ref m] [(m, .inr (9, [.ref mh, .ref mg, .ref mt, .ref mf, .ref ms, .ref msT, .ref msF, .ref mgv, .ref mP, .ref mW, .ref mV, .ref mco, .ref men, .ref mnt, .int tw, .int mse, .int mbr, .int mwk, .int mns, .int mtp, .int mss]))] (fun (r : Int32) (u : Unit) => r = tw) (fun (u : Unit) => [(m, .inr (9, [.ref mh, .ref mg, .ref mt, .ref mf, .ref ms, .ref msT, .ref msF, .ref mgv, .ref mP, .ref mW, .ref mV, .ref mco, .ref men, .ref mnt, .int tw, .int mse, .int mbr, .int mwk, .int mns, .int mtp, .int mss]))]) := by
  refine ofG_I (cc := cX9_thrown) (nL := 1) (lv0 := [(0, .ref m)]) (by decide) rfl (Nat.le_of_ble_eq_true rfl) rfl ?_
  intro Γ X E
  refine g_aload_n X dX9_thrown_0 rfl 0 rfl ?_
  refine g_getf (T := TX9) (v := .int tw) X dX9_thrown_1 0 rfl rfl in_X9_thrown_X9 14 (by decide) (by decide +kernel) rfl rfl ?_
  exact g_iret X E dX9_thrown_4 () rfl (by decide) (by decide) (rfl)

theorem ok_X9_plain : okName yX9_plain 1 := by decide +kernel
theorem in_X9_plain_X9 : ∀ w ∈ u_ws RX9 TX9 21, w ∈ wsX9_plain := by decide +kernel
set_option maxRecDepth 100000 in
set_option maxHeartbeats 4000000 in
theorem c_X9_plain (l : Launch) (D : va_G) (ai az al : ClassId) (m : Nat) (mh : Nat) (mg : Nat) (mt : Nat) (mf : Nat) (ms : Nat) (msT : Nat) (msF : Nat) (mgv : Nat) (mP : Nat) (mW : Nat) (mV : Nat) (mco : Nat) (men : Nat) (mnt : Nat) (tw : Int32) (mse : Int32) (mbr : Int32) (mwk : Int32) (mns : Int32) (mtp : Int32) (mss : Int32) (v : Int32) : CI l D (tY ai az al) yX9_plain wsX9_plain { frames := 0, cells := 0, slots := 0, locals := 0 } [.ref m, .int v] [(m, .inr (9, [.ref mh, .ref mg, .ref mt, .ref mf, .ref ms, .ref msT, .ref msF, .ref mgv, .ref mP, .ref mW, .ref mV, .ref mco, .ref men, .ref mnt, .int tw, .int mse, .int mbr, .int mwk, .int mns, .int mtp, .int mss]))] (fun (r : Int32) (u : Unit) => r = v) (fun (u : Unit) => [(m, .inr (9, [.ref mh, .ref mg, .ref mt, .ref mf, .ref ms, .ref msT, .ref msF, .ref mgv, .ref mP, .ref mW, .ref mV, .ref mco, .ref men, .ref mnt, .int (nI 0), .int mse, .int mbr, .int mwk, .int mns, .int mtp, .int mss]))]) := by
  refine ofG_I (cc := cX9_plain) (nL := 2) (lv0 := [(0, .ref m), (1, .int v)]) (by decide) rfl (Nat.le_of_ble_eq_true rfl) rfl ?_
  intro Γ X E
  refine g_aload_n X dX9_plain_0 rfl 0 rfl ?_
  refine g_iconst (v := nI 0) X dX9_plain_1 (by decide) ?_
  refine g_putf (T := TX9) (v := .int (nI 0)) (ty := tyX9 14) (ws' := [(m, .inr (9, [.ref mh, .ref mg, .ref mt, .ref mf, .ref ms, .ref msT, .ref msF, .ref mgv, .ref mP, .ref mW, .ref mV, .ref mco, .ref men, .ref mnt, .int (nI 0), .int mse, .int mbr, .int mwk, .int mns, .int mtp, .int mss]))]) X dX9_plain_2 0 rfl rfl in_X9_plain_X9 tyX9 tyX9_ok nmX9 14 (by decide) (by decide +kernel) rfl rfl (by decide +kernel) rfl rfl (Nat.le_of_ble_eq_true rfl) rfl ?_
  refine g_iload_n X dX9_plain_5 rfl 1 rfl ?_
  exact g_iret X E dX9_plain_6 () rfl (by decide) (by decide) (rfl)

theorem ok_X9_checked : okName yX9_checked 1 := by decide +kernel
theorem in_X9_checked_X9 : ∀ w ∈ u_ws RX9 TX9 21, w ∈ wsX9_checked := by decide +kernel
set_option maxRecDepth 100000 in
set_option maxHeartbeats 4000000 in
theorem c_X9_checkedT (l : Launch) (D : va_G) (ai az al : ClassId) (m : Nat) (mh : Nat) (mg : Nat) (mt : Nat) (mf : Nat) (ms : Nat) (msT : Nat) (msF : Nat) (mgv : Nat) (mP : Nat) (mW : Nat) (mV : Nat) (mco : Nat) (men : Nat) (mnt : Nat) (tw : Int32) (mse : Int32) (mbr : Int32) (mwk : Int32) (mns : Int32) (mtp : Int32) (mss : Int32) : CI l D (tY ai az al) yX9_checked wsX9_checked { frames := 0, cells := 0, slots := 0, locals := 0 } [.ref m, .int (nI 1)] [(m, .inr (9, [.ref mh, .ref mg, .ref mt, .ref mf, .ref ms, .ref msT, .ref msF, .ref mgv, .ref mP, .ref mW, .ref mV, .ref mco, .ref men, .ref mnt, .int tw, .int mse, .int mbr, .int mwk, .int mns, .int mtp, .int mss]))] (fun (r : Int32) (u : Unit) => r = nI 0) (fun (u : Unit) => [(m, .inr (9, [.ref mh, .ref mg, .ref mt, .ref mf, .ref ms, .ref msT, .ref msF, .ref mgv, .ref mP, .ref mW, .ref mV, .ref mco, .ref men, .ref mnt, .int (nI 0), .int mse, .int mbr, .int mwk, .int mns, .int mtp, .int mss]))]) := by
  refine ofG_I (cc := cX9_checked) (nL := 2) (lv0 := [(0, .ref m), (1, .int (nI 1))]) (by decide) rfl (Nat.le_of_ble_eq_true rfl) rfl ?_
  intro Γ X E
  refine g_aload_n X dX9_checked_0 rfl 0 rfl ?_
  refine g_iload_n X dX9_checked_1 rfl 1 rfl ?_
  refine g_if_eqN (tgt := 9) X dX9_checked_2 (by decide) (by decide) (fun b2x => False.elim (by revert b2x; decide)) (fun b2x => ?_)
  refine g_iconst (v := nI 0) X dX9_checked_5 (by decide) ?_
  refine g_goto (tgt := 10) X dX9_checked_6 (by decide) ?_
  refine g_putf (T := TX9) (v := .int (nI 0)) (ty := tyX9 14) (ws' := [(m, .inr (9, [.ref mh, .ref mg, .ref mt, .ref mf, .ref ms, .ref msT, .ref msF, .ref mgv, .ref mP, .ref mW, .ref mV, .ref mco, .ref men, .ref mnt, .int (nI 0), .int mse, .int mbr, .int mwk, .int mns, .int mtp, .int mss]))]) X dX9_checked_10 0 rfl rfl in_X9_checked_X9 tyX9 tyX9_ok nmX9 14 (by decide) (by decide +kernel) rfl rfl (by decide +kernel) rfl rfl (Nat.le_of_ble_eq_true rfl) rfl ?_
  refine g_aload_n X dX9_checked_13 rfl 0 rfl ?_
  refine g_getf (T := TX9) (v := .int (nI 0)) X dX9_checked_14 0 rfl rfl in_X9_checked_X9 14 (by decide) (by decide +kernel) rfl rfl ?_
  exact g_iret X E dX9_checked_17 () rfl (by decide) (by decide) (rfl)

set_option maxRecDepth 100000 in
set_option maxHeartbeats 4000000 in
theorem c_X9_checkedF (l : Launch) (D : va_G) (ai az al : ClassId) (m : Nat) (mh : Nat) (mg : Nat) (mt : Nat) (mf : Nat) (ms : Nat) (msT : Nat) (msF : Nat) (mgv : Nat) (mP : Nat) (mW : Nat) (mV : Nat) (mco : Nat) (men : Nat) (mnt : Nat) (tw : Int32) (mse : Int32) (mbr : Int32) (mwk : Int32) (mns : Int32) (mtp : Int32) (mss : Int32) : CI l D (tY ai az al) yX9_checked wsX9_checked { frames := 0, cells := 0, slots := 0, locals := 0 } [.ref m, .int (nI 0)] [(m, .inr (9, [.ref mh, .ref mg, .ref mt, .ref mf, .ref ms, .ref msT, .ref msF, .ref mgv, .ref mP, .ref mW, .ref mV, .ref mco, .ref men, .ref mnt, .int tw, .int mse, .int mbr, .int mwk, .int mns, .int mtp, .int mss]))] (fun (r : Int32) (u : Unit) => r = nI 1) (fun (u : Unit) => [(m, .inr (9, [.ref mh, .ref mg, .ref mt, .ref mf, .ref ms, .ref msT, .ref msF, .ref mgv, .ref mP, .ref mW, .ref mV, .ref mco, .ref men, .ref mnt, .int (nI 1), .int mse, .int mbr, .int mwk, .int mns, .int mtp, .int mss]))]) := by
  refine ofG_I (cc := cX9_checked) (nL := 2) (lv0 := [(0, .ref m), (1, .int (nI 0))]) (by decide) rfl (Nat.le_of_ble_eq_true rfl) rfl ?_
  intro Γ X E
  refine g_aload_n X dX9_checked_0 rfl 0 rfl ?_
  refine g_iload_n X dX9_checked_1 rfl 1 rfl ?_
  refine g_if_eqN (tgt := 9) X dX9_checked_2 (by decide) (by decide) (fun b2x => ?_) (fun b2x => False.elim (by revert b2x; decide))
  refine g_iconst (v := nI 1) X dX9_checked_9 (by decide) ?_
  refine g_putf (T := TX9) (v := .int (nI 1)) (ty := tyX9 14) (ws' := [(m, .inr (9, [.ref mh, .ref mg, .ref mt, .ref mf, .ref ms, .ref msT, .ref msF, .ref mgv, .ref mP, .ref mW, .ref mV, .ref mco, .ref men, .ref mnt, .int (nI 1), .int mse, .int mbr, .int mwk, .int mns, .int mtp, .int mss]))]) X dX9_checked_10 0 rfl rfl in_X9_checked_X9 tyX9 tyX9_ok nmX9 14 (by decide) (by decide +kernel) rfl rfl (by decide +kernel) rfl rfl (Nat.le_of_ble_eq_true rfl) rfl ?_
  refine g_aload_n X dX9_checked_13 rfl 0 rfl ?_
  refine g_getf (T := TX9) (v := .int (nI 1)) X dX9_checked_14 0 rfl rfl in_X9_checked_X9 14 (by decide) (by decide +kernel) rfl rfl ?_
  exact g_iret X E dX9_checked_17 () rfl (by decide) (by decide) (rfl)

theorem ok_X9_isBad : okName yX9_isBad 3 := by decide +kernel
theorem in_X9_isBad_X9 : ∀ w ∈ u_ws RX9 TX9 21, w ∈ wsX9_isBad := by decide +kernel
set_option maxRecDepth 100000 in
set_option maxHeartbeats 4000000 in
theorem c_X9_isBad1 (l : Launch) (D : va_G) (ai az al : ClassId) (m : Nat) (mh : Nat) (mg : Nat) (mt : Nat) (mf : Nat) (ms : Nat) (msT : Nat) (msF : Nat) (mgv : Nat) (mP : Nat) (mW : Nat) (mV : Nat) (mco : Nat) (men : Nat) (mnt : Nat) (tw : Int32) (mse : Int32) (mbr : Int32) (mwk : Int32) (mns : Int32) (mtp : Int32) (mss : Int32) (p0 : Int32) (p1 : Int32) (p2 : Int32) (hq : ¬ CP p0 p1) : CI l D (tY ai az al) yX9_isBad wsX9_isBad { frames := 2, cells := 0, slots := 0, locals := 43 } [.ref m, .int p0, .int p1, .int p2] [(m, .inr (9, [.ref mh, .ref mg, .ref mt, .ref mf, .ref ms, .ref msT, .ref msF, .ref mgv, .ref mP, .ref mW, .ref mV, .ref mco, .ref men, .ref mnt, .int tw, .int mse, .int mbr, .int mwk, .int mns, .int mtp, .int mss]))] (fun (r : Int32) (u : Unit) => r = nI 1) (fun (u : Unit) => [(m, .inr (9, [.ref mh, .ref mg, .ref mt, .ref mf, .ref ms, .ref msT, .ref msF, .ref mgv, .ref mP, .ref mW, .ref mV, .ref mco, .ref men, .ref mnt, .int (nI 1), .int mse, .int mbr, .int mwk, .int mns, .int mtp, .int mss]))]) := by
  refine ofG_I (cc := cX9_isBad) (nL := 4) (lv0 := [(0, .ref m), (1, .int p0), (2, .int p1), (3, .int p2)]) (by decide) rfl (Nat.le_of_ble_eq_true rfl) rfl ?_
  intro Γ X E
  refine g_aload_n X dX9_isBad_0 rfl 0 rfl ?_
  refine g_iload_n X dX9_isBad_1 rfl 1 rfl ?_
  refine g_iload_n X dX9_isBad_2 rfl 2 rfl ?_
  refine g_callSi (As := [.int p0, .int p1]) (rest := [.ref m]) (wr := [(m, .inr (9, [.ref mh, .ref mg, .ref mt, .ref mf, .ref ms, .ref msT, .ref msF, .ref mgv, .ref mP, .ref mW, .ref mV, .ref mco, .ref men, .ref mnt, .int tw, .int mse, .int mbr, .int mwk, .int mns, .int mtp, .int mss]))]) X dX9_isBad_3 (c_X9_isCellF l D ai az al p0 p1 (hq)) gX9_isBad_X9_isCell rfl rfl ok_X9_isCell rfl rfl (by decide) ⟨by decide, by decide⟩ (Nat.le_of_ble_eq_true rfl) [] [0] ⟨rfl, by decide, rfl, by decide, by decide⟩ (fun r1 u hp => ?_)
  obtain rfl := hp
  refine g_sub (k := 0) (n := 0) (ws' := [(m, .inr (9, [.ref mh, .ref mg, .ref mt, .ref mf, .ref ms, .ref msT, .ref msF, .ref mgv, .ref mP, .ref mW, .ref mV, .ref mco, .ref men, .ref mnt, .int tw, .int mse, .int mbr, .int mwk, .int mns, .int mtp, .int mss]))]) [0] (by decide) rfl ?_
  refine g_if_neN (tgt := 13) X dX9_isBad_6 (by decide) (by decide) (fun b6x => False.elim (by revert b6x; decide)) (fun b6x => ?_)
  refine g_iconst (v := nI 1) X dX9_isBad_9 (by decide) ?_
  refine g_goto (tgt := 28) X dX9_isBad_10 (by decide) ?_
  refine g_putf (T := TX9) (v := .int (nI 1)) (ty := tyX9 14) (ws' := [(m, .inr (9, [.ref mh, .ref mg, .ref mt, .ref mf, .ref ms, .ref msT, .ref msF, .ref mgv, .ref mP, .ref mW, .ref mV, .ref mco, .ref men, .ref mnt, .int (nI 1), .int mse, .int mbr, .int mwk, .int mns, .int mtp, .int mss]))]) X dX9_isBad_28 0 rfl rfl in_X9_isBad_X9 tyX9 tyX9_ok nmX9 14 (by decide) (by decide +kernel) rfl rfl (by decide +kernel) rfl rfl (Nat.le_of_ble_eq_true rfl) rfl ?_
  refine g_aload_n X dX9_isBad_31 rfl 0 rfl ?_
  refine g_getf (T := TX9) (v := .int (nI 1)) X dX9_isBad_32 0 rfl rfl in_X9_isBad_X9 14 (by decide) (by decide +kernel) rfl rfl ?_
  refine g_if_leN (tgt := 42) X dX9_isBad_35 (by decide) (by decide) (fun b35x => False.elim (by revert b35x; decide)) (fun b35x => ?_)
  refine g_iconst (v := nI 1) X dX9_isBad_38 (by decide) ?_
  refine g_goto (tgt := 43) X dX9_isBad_39 (by decide) ?_
  exact g_zret X E dX9_isBad_43 () rfl (by decide) (by decide) (rfl) (rfl)

set_option maxRecDepth 100000 in
set_option maxHeartbeats 4000000 in
theorem c_X9_isBad2 (l : Launch) (D : va_G) (ai az al : ClassId) (m : Nat) (mh : Nat) (mg : Nat) (mt : Nat) (mf : Nat) (ms : Nat) (msT : Nat) (msF : Nat) (mgv : Nat) (mP : Nat) (mW : Nat) (mV : Nat) (mco : Nat) (men : Nat) (mnt : Nat) (tw : Int32) (mse : Int32) (mbr : Int32) (mwk : Int32) (mns : Int32) (mtp : Int32) (mss : Int32) (p0 : Int32) (p1 : Int32) (p2 : Int32) (hq : CP p0 p1) (hq2 : ¬ inN p2 1 60) : CI l D (tY ai az al) yX9_isBad wsX9_isBad { frames := 2, cells := 0, slots := 0, locals := 43 } [.ref m, .int p0, .int p1, .int p2] [(m, .inr (9, [.ref mh, .ref mg, .ref mt, .ref mf, .ref ms, .ref msT, .ref msF, .ref mgv, .ref mP, .ref mW, .ref mV, .ref mco, .ref men, .ref mnt, .int tw, .int mse, .int mbr, .int mwk, .int mns, .int mtp, .int mss]))] (fun (r : Int32) (u : Unit) => r = nI 1) (fun (u : Unit) => [(m, .inr (9, [.ref mh, .ref mg, .ref mt, .ref mf, .ref ms, .ref msT, .ref msF, .ref mgv, .ref mP, .ref mW, .ref mV, .ref mco, .ref men, .ref mnt, .int (nI 2), .int mse, .int mbr, .int mwk, .int mns, .int mtp, .int mss]))]) := by
  refine ofG_I (cc := cX9_isBad) (nL := 4) (lv0 := [(0, .ref m), (1, .int p0), (2, .int p1), (3, .int p2)]) (by decide) rfl (Nat.le_of_ble_eq_true rfl) rfl ?_
  intro Γ X E
  refine g_aload_n X dX9_isBad_0 rfl 0 rfl ?_
  refine g_iload_n X dX9_isBad_1 rfl 1 rfl ?_
  refine g_iload_n X dX9_isBad_2 rfl 2 rfl ?_
  refine g_callSi (As := [.int p0, .int p1]) (rest := [.ref m]) (wr := [(m, .inr (9, [.ref mh, .ref mg, .ref mt, .ref mf, .ref ms, .ref msT, .ref msF, .ref mgv, .ref mP, .ref mW, .ref mV, .ref mco, .ref men, .ref mnt, .int tw, .int mse, .int mbr, .int mwk, .int mns, .int mtp, .int mss]))]) X dX9_isBad_3 (c_X9_isCellT l D ai az al p0 p1 (hq)) gX9_isBad_X9_isCell rfl rfl ok_X9_isCell rfl rfl (by decide) ⟨by decide, by decide⟩ (Nat.le_of_ble_eq_true rfl) [] [0] ⟨rfl, by decide, rfl, by decide, by decide⟩ (fun r1 u hp => ?_)
  obtain rfl := hp
  refine g_sub (k := 0) (n := 0) (ws' := [(m, .inr (9, [.ref mh, .ref mg, .ref mt, .ref mf, .ref ms, .ref msT, .ref msF, .ref mgv, .ref mP, .ref mW, .ref mV, .ref mco, .ref men, .ref mnt, .int tw, .int mse, .int mbr, .int mwk, .int mns, .int mtp, .int mss]))]) [0] (by decide) rfl ?_
  refine g_if_neN (tgt := 13) X dX9_isBad_6 (by decide) (by decide) (fun b6x => ?_) (fun b6x => False.elim (by revert b6x; decide))
  refine g_iload_n X dX9_isBad_13 rfl 3 rfl ?_
  refine g_iconst (v := nI 1) X dX9_isBad_14 (by decide) ?_
  refine g_bipush (v := nI 60) X dX9_isBad_15 (by decide) ?_
  refine g_callSi (As := [.int p2, .int (nI 1), .int (nI 60)]) (rest := [.ref m]) (wr := [(m, .inr (9, [.ref mh, .ref mg, .ref mt, .ref mf, .ref ms, .ref msT, .ref msF, .ref mgv, .ref mP, .ref mW, .ref mV, .ref mco, .ref men, .ref mnt, .int tw, .int mse, .int mbr, .int mwk, .int mns, .int mtp, .int mss]))]) X dX9_isBad_17 (c_X9_inF l D ai az al p2 1 60 (by decide) (by decide) (hq2)) gX9_isBad_X9_in rfl rfl ok_X9_in rfl rfl (by decide) ⟨by decide, by decide⟩ (Nat.le_of_ble_eq_true rfl) [] [0] ⟨rfl, by decide, rfl, by decide, by decide⟩ (fun r2 u hp => ?_)
  obtain rfl := hp
  refine g_sub (k := 0) (n := 0) (ws' := [(m, .inr (9, [.ref mh, .ref mg, .ref mt, .ref mf, .ref ms, .ref msT, .ref msF, .ref mgv, .ref mP, .ref mW, .ref mV, .ref mco, .ref men, .ref mnt, .int tw, .int mse, .int mbr, .int mwk, .int mns, .int mtp, .int mss]))]) [0] (by decide) rfl ?_
  refine g_if_neN (tgt := 27) X dX9_isBad_20 (by decide) (by decide) (fun b20x => False.elim (by revert b20x; decide)) (fun b20x => ?_)
  refine g_iconst (v := nI 2) X dX9_isBad_23 (by decide) ?_
  refine g_goto (tgt := 28) X dX9_isBad_24 (by decide) ?_
  refine g_putf (T := TX9) (v := .int (nI 2)) (ty := tyX9 14) (ws' := [(m, .inr (9, [.ref mh, .ref mg, .ref mt, .ref mf, .ref ms, .ref msT, .ref msF, .ref mgv, .ref mP, .ref mW, .ref mV, .ref mco, .ref men, .ref mnt, .int (nI 2), .int mse, .int mbr, .int mwk, .int mns, .int mtp, .int mss]))]) X dX9_isBad_28 0 rfl rfl in_X9_isBad_X9 tyX9 tyX9_ok nmX9 14 (by decide) (by decide +kernel) rfl rfl (by decide +kernel) rfl rfl (Nat.le_of_ble_eq_true rfl) rfl ?_
  refine g_aload_n X dX9_isBad_31 rfl 0 rfl ?_
  refine g_getf (T := TX9) (v := .int (nI 2)) X dX9_isBad_32 0 rfl rfl in_X9_isBad_X9 14 (by decide) (by decide +kernel) rfl rfl ?_
  refine g_if_leN (tgt := 42) X dX9_isBad_35 (by decide) (by decide) (fun b35x => False.elim (by revert b35x; decide)) (fun b35x => ?_)
  refine g_iconst (v := nI 1) X dX9_isBad_38 (by decide) ?_
  refine g_goto (tgt := 43) X dX9_isBad_39 (by decide) ?_
  exact g_zret X E dX9_isBad_43 () rfl (by decide) (by decide) (rfl) (rfl)

set_option maxRecDepth 100000 in
set_option maxHeartbeats 4000000 in
theorem c_X9_isBad0 (l : Launch) (D : va_G) (ai az al : ClassId) (m : Nat) (mh : Nat) (mg : Nat) (mt : Nat) (mf : Nat) (ms : Nat) (msT : Nat) (msF : Nat) (mgv : Nat) (mP : Nat) (mW : Nat) (mV : Nat) (mco : Nat) (men : Nat) (mnt : Nat) (tw : Int32) (mse : Int32) (mbr : Int32) (mwk : Int32) (mns : Int32) (mtp : Int32) (mss : Int32) (p0 : Int32) (p1 : Int32) (p2 : Int32) (hq : CP p0 p1) (hq2 : inN p2 1 60) : CI l D (tY ai az al) yX9_isBad wsX9_isBad { frames := 2, cells := 0, slots := 0, locals := 43 } [.ref m, .int p0, .int p1, .int p2] [(m, .inr (9, [.ref mh, .ref mg, .ref mt, .ref mf, .ref ms, .ref msT, .ref msF, .ref mgv, .ref mP, .ref mW, .ref mV, .ref mco, .ref men, .ref mnt, .int tw, .int mse, .int mbr, .int mwk, .int mns, .int mtp, .int mss]))] (fun (r : Int32) (u : Unit) => r = nI 0) (fun (u : Unit) => [(m, .inr (9, [.ref mh, .ref mg, .ref mt, .ref mf, .ref ms, .ref msT, .ref msF, .ref mgv, .ref mP, .ref mW, .ref mV, .ref mco, .ref men, .ref mnt, .int (nI 0), .int mse, .int mbr, .int mwk, .int mns, .int mtp, .int mss]))]) := by
  refine ofG_I (cc := cX9_isBad) (nL := 4) (lv0 := [(0, .ref m), (1, .int p0), (2, .int p1), (3, .int p2)]) (by decide) rfl (Nat.le_of_ble_eq_true rfl) rfl ?_
  intro Γ X E
  refine g_aload_n X dX9_isBad_0 rfl 0 rfl ?_
  refine g_iload_n X dX9_isBad_1 rfl 1 rfl ?_
  refine g_iload_n X dX9_isBad_2 rfl 2 rfl ?_
  refine g_callSi (As := [.int p0, .int p1]) (rest := [.ref m]) (wr := [(m, .inr (9, [.ref mh, .ref mg, .ref mt, .ref mf, .ref ms, .ref msT, .ref msF, .ref mgv, .ref mP, .ref mW, .ref mV, .ref mco, .ref men, .ref mnt, .int tw, .int mse, .int mbr, .int mwk, .int mns, .int mtp, .int mss]))]) X dX9_isBad_3 (c_X9_isCellT l D ai az al p0 p1 (hq)) gX9_isBad_X9_isCell rfl rfl ok_X9_isCell rfl rfl (by decide) ⟨by decide, by decide⟩ (Nat.le_of_ble_eq_true rfl) [] [0] ⟨rfl, by decide, rfl, by decide, by decide⟩ (fun r1 u hp => ?_)
  obtain rfl := hp
  refine g_sub (k := 0) (n := 0) (ws' := [(m, .inr (9, [.ref mh, .ref mg, .ref mt, .ref mf, .ref ms, .ref msT, .ref msF, .ref mgv, .ref mP, .ref mW, .ref mV, .ref mco, .ref men, .ref mnt, .int tw, .int mse, .int mbr, .int mwk, .int mns, .int mtp, .int mss]))]) [0] (by decide) rfl ?_
  refine g_if_neN (tgt := 13) X dX9_isBad_6 (by decide) (by decide) (fun b6x => ?_) (fun b6x => False.elim (by revert b6x; decide))
  refine g_iload_n X dX9_isBad_13 rfl 3 rfl ?_
  refine g_iconst (v := nI 1) X dX9_isBad_14 (by decide) ?_
  refine g_bipush (v := nI 60) X dX9_isBad_15 (by decide) ?_
  refine g_callSi (As := [.int p2, .int (nI 1), .int (nI 60)]) (rest := [.ref m]) (wr := [(m, .inr (9, [.ref mh, .ref mg, .ref mt, .ref mf, .ref ms, .ref msT, .ref msF, .ref mgv, .ref mP, .ref mW, .ref mV, .ref mco, .ref men, .ref mnt, .int tw, .int mse, .int mbr, .int mwk, .int mns, .int mtp, .int mss]))]) X dX9_isBad_17 (c_X9_inT l D ai az al p2 1 60 (by decide) (by decide) (hq2)) gX9_isBad_X9_in rfl rfl ok_X9_in rfl rfl (by decide) ⟨by decide, by decide⟩ (Nat.le_of_ble_eq_true rfl) [] [0] ⟨rfl, by decide, rfl, by decide, by decide⟩ (fun r2 u hp => ?_)
  obtain rfl := hp
  refine g_sub (k := 0) (n := 0) (ws' := [(m, .inr (9, [.ref mh, .ref mg, .ref mt, .ref mf, .ref ms, .ref msT, .ref msF, .ref mgv, .ref mP, .ref mW, .ref mV, .ref mco, .ref men, .ref mnt, .int tw, .int mse, .int mbr, .int mwk, .int mns, .int mtp, .int mss]))]) [0] (by decide) rfl ?_
  refine g_if_neN (tgt := 27) X dX9_isBad_20 (by decide) (by decide) (fun b20x => ?_) (fun b20x => False.elim (by revert b20x; decide))
  refine g_iconst (v := nI 0) X dX9_isBad_27 (by decide) ?_
  refine g_putf (T := TX9) (v := .int (nI 0)) (ty := tyX9 14) (ws' := [(m, .inr (9, [.ref mh, .ref mg, .ref mt, .ref mf, .ref ms, .ref msT, .ref msF, .ref mgv, .ref mP, .ref mW, .ref mV, .ref mco, .ref men, .ref mnt, .int (nI 0), .int mse, .int mbr, .int mwk, .int mns, .int mtp, .int mss]))]) X dX9_isBad_28 0 rfl rfl in_X9_isBad_X9 tyX9 tyX9_ok nmX9 14 (by decide) (by decide +kernel) rfl rfl (by decide +kernel) rfl rfl (Nat.le_of_ble_eq_true rfl) rfl ?_
  refine g_aload_n X dX9_isBad_31 rfl 0 rfl ?_
  refine g_getf (T := TX9) (v := .int (nI 0)) X dX9_isBad_32 0 rfl rfl in_X9_isBad_X9 14 (by decide) (by decide +kernel) rfl rfl ?_
  refine g_if_leN (tgt := 42) X dX9_isBad_35 (by decide) (by decide) (fun b35x => ?_) (fun b35x => False.elim (by revert b35x; decide))
  refine g_iconst (v := nI 0) X dX9_isBad_42 (by decide) ?_
  exact g_zret X E dX9_isBad_43 () rfl (by decide) (by decide) (rfl) (rfl)

theorem ok_X9_wrongSide : okName yX9_wrongSide 3 := by decide +kernel
set_option maxRecDepth 100000 in
set_option maxHeartbeats 4000000 in
theorem c_X9_wrongSide1 (l : Launch) (D : va_G) (ai az al : ClassId) (m : Nat) (mh : Nat) (mg : Nat) (mt : Nat) (mf : Nat) (ms : Nat) (msT : Nat) (msF : Nat) (mgv : Nat) (mP : Nat) (mW : Nat) (mV : Nat) (mco : Nat) (men : Nat) (mnt : Nat) (tw : Int32) (mse : Int32) (mbr : Int32) (mwk : Int32) (mns : Int32) (mtp : Int32) (mss : Int32) (p0 : Int32) (p1 : Int32) (p2 : Int32) (hq : ¬ CP p0 p1) : CI l D (tY ai az al) yX9_wrongSide wsX9_wrongSide { frames := 2, cells := 0, slots := 0, locals := 43 } [.ref m, .int p0, .int p1, .int p2] [(m, .inr (9, [.ref mh, .ref mg, .ref mt, .ref mf, .ref ms, .ref msT, .ref msF, .ref mgv, .ref mP, .ref mW, .ref mV, .ref mco, .ref men, .ref mnt, .int tw, .int mse, .int mbr, .int mwk, .int mns, .int mtp, .int mss]))] (fun (r : Int32) (u : Unit) => r = nI 1) (fun (u : Unit) => [(m, .inr (9, [.ref mh, .ref mg, .ref mt, .ref mf, .ref ms, .ref msT, .ref msF, .ref mgv, .ref mP, .ref mW, .ref mV, .ref mco, .ref men, .ref mnt, .int tw, .int mse, .int mbr, .int mwk, .int mns, .int mtp, .int mss]))]) := by
  refine ofG_I (cc := cX9_wrongSide) (nL := 4) (lv0 := [(0, .ref m), (1, .int p0), (2, .int p1), (3, .int p2)]) (by decide) rfl (Nat.le_of_ble_eq_true rfl) rfl ?_
  intro Γ X E
  refine g_iload_n X dX9_wrongSide_0 rfl 1 rfl ?_
  refine g_iload_n X dX9_wrongSide_1 rfl 2 rfl ?_
  refine g_callSi (As := [.int p0, .int p1]) (rest := []) (wr := [(m, .inr (9, [.ref mh, .ref mg, .ref mt, .ref mf, .ref ms, .ref msT, .ref msF, .ref mgv, .ref mP, .ref mW, .ref mV, .ref mco, .ref men, .ref mnt, .int tw, .int mse, .int mbr, .int mwk, .int mns, .int mtp, .int mss]))]) X dX9_wrongSide_2 (c_X9_isCellF l D ai az al p0 p1 (hq)) gX9_wrongSide_X9_isCell rfl rfl ok_X9_isCell rfl rfl (by decide) ⟨by decide, by decide⟩ (Nat.le_of_ble_eq_true rfl) [] [0] ⟨rfl, by decide, rfl, by decide, by decide⟩ (fun r1 u hp => ?_)
  obtain rfl := hp
  refine g_sub (k := 0) (n := 0) (ws' := [(m, .inr (9, [.ref mh, .ref mg, .ref mt, .ref mf, .ref ms, .ref msT, .ref msF, .ref mgv, .ref mP, .ref mW, .ref mV, .ref mco, .ref men, .ref mnt, .int tw, .int mse, .int mbr, .int mwk, .int mns, .int mtp, .int mss]))]) [0] (by decide) rfl ?_
  refine g_if_neN (tgt := 12) X dX9_wrongSide_5 (by decide) (by decide) (fun b5x => False.elim (by revert b5x; decide)) (fun b5x => ?_)
  refine g_iconst (v := nI 1) X dX9_wrongSide_8 (by decide) ?_
  refine g_goto (tgt := 24) X dX9_wrongSide_9 (by decide) ?_
  exact g_iret X E dX9_wrongSide_24 () rfl (by decide) (by decide) (rfl)

set_option maxRecDepth 100000 in
set_option maxHeartbeats 4000000 in
theorem c_X9_wrongSide2 (l : Launch) (D : va_G) (ai az al : ClassId) (m : Nat) (mh : Nat) (mg : Nat) (mt : Nat) (mf : Nat) (ms : Nat) (msT : Nat) (msF : Nat) (mgv : Nat) (mP : Nat) (mW : Nat) (mV : Nat) (mco : Nat) (men : Nat) (mnt : Nat) (tw : Int32) (mse : Int32) (mbr : Int32) (mwk : Int32) (mns : Int32) (mtp : Int32) (mss : Int32) (p0 : Int32) (p1 : Int32) (p2 : Int32) (hq : CP p0 p1) (hq2 : ¬ isSd p2) : CI l D (tY ai az al) yX9_wrongSide wsX9_wrongSide { frames := 2, cells := 0, slots := 0, locals := 43 } [.ref m, .int p0, .int p1, .int p2] [(m, .inr (9, [.ref mh, .ref mg, .ref mt, .ref mf, .ref ms, .ref msT, .ref msF, .ref mgv, .ref mP, .ref mW, .ref mV, .ref mco, .ref men, .ref mnt, .int tw, .int mse, .int mbr, .int mwk, .int mns, .int mtp, .int mss]))] (fun (r : Int32) (u : Unit) => r = nI 2) (fun (u : Unit) => [(m, .inr (9, [.ref mh, .ref mg, .ref mt, .ref mf, .ref ms, .ref msT, .ref msF, .ref mgv, .ref mP, .ref mW, .ref mV, .ref mco, .ref men, .ref mnt, .int tw, .int mse, .int mbr, .int mwk, .int mns, .int mtp, .int mss]))]) := by
  refine ofG_I (cc := cX9_wrongSide) (nL := 4) (lv0 := [(0, .ref m), (1, .int p0), (2, .int p1), (3, .int p2)]) (by decide) rfl (Nat.le_of_ble_eq_true rfl) rfl ?_
  intro Γ X E
  refine g_iload_n X dX9_wrongSide_0 rfl 1 rfl ?_
  refine g_iload_n X dX9_wrongSide_1 rfl 2 rfl ?_
  refine g_callSi (As := [.int p0, .int p1]) (rest := []) (wr := [(m, .inr (9, [.ref mh, .ref mg, .ref mt, .ref mf, .ref ms, .ref msT, .ref msF, .ref mgv, .ref mP, .ref mW, .ref mV, .ref mco, .ref men, .ref mnt, .int tw, .int mse, .int mbr, .int mwk, .int mns, .int mtp, .int mss]))]) X dX9_wrongSide_2 (c_X9_isCellT l D ai az al p0 p1 (hq)) gX9_wrongSide_X9_isCell rfl rfl ok_X9_isCell rfl rfl (by decide) ⟨by decide, by decide⟩ (Nat.le_of_ble_eq_true rfl) [] [0] ⟨rfl, by decide, rfl, by decide, by decide⟩ (fun r1 u hp => ?_)
  obtain rfl := hp
  refine g_sub (k := 0) (n := 0) (ws' := [(m, .inr (9, [.ref mh, .ref mg, .ref mt, .ref mf, .ref ms, .ref msT, .ref msF, .ref mgv, .ref mP, .ref mW, .ref mV, .ref mco, .ref men, .ref mnt, .int tw, .int mse, .int mbr, .int mwk, .int mns, .int mtp, .int mss]))]) [0] (by decide) rfl ?_
  refine g_if_neN (tgt := 12) X dX9_wrongSide_5 (by decide) (by decide) (fun b5x => ?_) (fun b5x => False.elim (by revert b5x; decide))
  refine g_iload_n X dX9_wrongSide_12 rfl 3 rfl ?_
  refine g_callSi (As := [.int p2]) (rest := []) (wr := [(m, .inr (9, [.ref mh, .ref mg, .ref mt, .ref mf, .ref ms, .ref msT, .ref msF, .ref mgv, .ref mP, .ref mW, .ref mV, .ref mco, .ref men, .ref mnt, .int tw, .int mse, .int mbr, .int mwk, .int mns, .int mtp, .int mss]))]) X dX9_wrongSide_13 (c_X9_sideOfF l D ai az al p2 (hq2)) gX9_wrongSide_X9_sideOf rfl rfl ok_X9_sideOf rfl rfl (by decide) ⟨by decide, by decide⟩ (Nat.le_of_ble_eq_true rfl) [] [0] ⟨rfl, by decide, rfl, by decide, by decide⟩ (fun r2 u hp => ?_)
  obtain rfl := hp
  refine g_sub (k := 0) (n := 0) (ws' := [(m, .inr (9, [.ref mh, .ref mg, .ref mt, .ref mf, .ref ms, .ref msT, .ref msF, .ref mgv, .ref mP, .ref mW, .ref mV, .ref mco, .ref men, .ref mnt, .int tw, .int mse, .int mbr, .int mwk, .int mns, .int mtp, .int mss]))]) [0] (by decide) rfl ?_
  refine g_if_ge (tgt := 23) X dX9_wrongSide_16 (by decide) (fun b16 => False.elim (absurd b16 (by decide))) (fun b16 => ?_)
  refine g_iconst (v := nI 2) X dX9_wrongSide_19 (by decide) ?_
  refine g_goto (tgt := 24) X dX9_wrongSide_20 (by decide) ?_
  exact g_iret X E dX9_wrongSide_24 () rfl (by decide) (by decide) (rfl)

set_option maxRecDepth 100000 in
set_option maxHeartbeats 4000000 in
theorem c_X9_wrongSide0 (l : Launch) (D : va_G) (ai az al : ClassId) (m : Nat) (mh : Nat) (mg : Nat) (mt : Nat) (mf : Nat) (ms : Nat) (msT : Nat) (msF : Nat) (mgv : Nat) (mP : Nat) (mW : Nat) (mV : Nat) (mco : Nat) (men : Nat) (mnt : Nat) (tw : Int32) (mse : Int32) (mbr : Int32) (mwk : Int32) (mns : Int32) (mtp : Int32) (mss : Int32) (p0 : Int32) (p1 : Int32) (s : Nat) (hq : CP p0 p1) (hs : s < 4) : CI l D (tY ai az al) yX9_wrongSide wsX9_wrongSide { frames := 2, cells := 0, slots := 0, locals := 43 } [.ref m, .int p0, .int p1, .int (sdI s)] [(m, .inr (9, [.ref mh, .ref mg, .ref mt, .ref mf, .ref ms, .ref msT, .ref msF, .ref mgv, .ref mP, .ref mW, .ref mV, .ref mco, .ref men, .ref mnt, .int tw, .int mse, .int mbr, .int mwk, .int mns, .int mtp, .int mss]))] (fun (r : Int32) (u : Unit) => r = nI 0) (fun (u : Unit) => [(m, .inr (9, [.ref mh, .ref mg, .ref mt, .ref mf, .ref ms, .ref msT, .ref msF, .ref mgv, .ref mP, .ref mW, .ref mV, .ref mco, .ref men, .ref mnt, .int tw, .int mse, .int mbr, .int mwk, .int mns, .int mtp, .int mss]))]) := by
  refine ofG_I (cc := cX9_wrongSide) (nL := 4) (lv0 := [(0, .ref m), (1, .int p0), (2, .int p1), (3, .int (sdI s))]) (by decide) rfl (Nat.le_of_ble_eq_true rfl) rfl ?_
  intro Γ X E
  refine g_iload_n X dX9_wrongSide_0 rfl 1 rfl ?_
  refine g_iload_n X dX9_wrongSide_1 rfl 2 rfl ?_
  refine g_callSi (As := [.int p0, .int p1]) (rest := []) (wr := [(m, .inr (9, [.ref mh, .ref mg, .ref mt, .ref mf, .ref ms, .ref msT, .ref msF, .ref mgv, .ref mP, .ref mW, .ref mV, .ref mco, .ref men, .ref mnt, .int tw, .int mse, .int mbr, .int mwk, .int mns, .int mtp, .int mss]))]) X dX9_wrongSide_2 (c_X9_isCellT l D ai az al p0 p1 (hq)) gX9_wrongSide_X9_isCell rfl rfl ok_X9_isCell rfl rfl (by decide) ⟨by decide, by decide⟩ (Nat.le_of_ble_eq_true rfl) [] [0] ⟨rfl, by decide, rfl, by decide, by decide⟩ (fun r1 u hp => ?_)
  obtain rfl := hp
  refine g_sub (k := 0) (n := 0) (ws' := [(m, .inr (9, [.ref mh, .ref mg, .ref mt, .ref mf, .ref ms, .ref msT, .ref msF, .ref mgv, .ref mP, .ref mW, .ref mV, .ref mco, .ref men, .ref mnt, .int tw, .int mse, .int mbr, .int mwk, .int mns, .int mtp, .int mss]))]) [0] (by decide) rfl ?_
  refine g_if_neN (tgt := 12) X dX9_wrongSide_5 (by decide) (by decide) (fun b5x => ?_) (fun b5x => False.elim (by revert b5x; decide))
  refine g_iload_n X dX9_wrongSide_12 rfl 3 rfl ?_
  refine g_callSi (As := [.int (sdI s)]) (rest := []) (wr := [(m, .inr (9, [.ref mh, .ref mg, .ref mt, .ref mf, .ref ms, .ref msT, .ref msF, .ref mgv, .ref mP, .ref mW, .ref mV, .ref mco, .ref men, .ref mnt, .int tw, .int mse, .int mbr, .int mwk, .int mns, .int mtp, .int mss]))]) X dX9_wrongSide_13 (c_X9_sideOfN l D ai az al s (hs)) gX9_wrongSide_X9_sideOf rfl rfl ok_X9_sideOf rfl rfl (by decide) ⟨by decide, by decide⟩ (Nat.le_of_ble_eq_true rfl) [] [0] ⟨rfl, by decide, rfl, by decide, by decide⟩ (fun r2 u hp => ?_)
  obtain rfl := hp
  refine g_sub (k := 0) (n := 0) (ws' := [(m, .inr (9, [.ref mh, .ref mg, .ref mt, .ref mf, .ref ms, .ref msT, .ref msF, .ref mgv, .ref mP, .ref mW, .ref mV, .ref mco, .ref men, .ref mnt, .int tw, .int mse, .int mbr, .int mwk, .int mns, .int mtp, .int mss]))]) [0] (by decide) rfl ?_
  refine g_if_geN (tgt := 23) X dX9_wrongSide_16 (by decide) (by omega) (fun b16 => ?_) (fun b16 => False.elim (by omega))
  refine g_iconst (v := nI 0) X dX9_wrongSide_23 (by decide) ?_
  exact g_iret X E dX9_wrongSide_24 () rfl (by decide) (by decide) (rfl)
