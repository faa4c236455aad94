theorem bs1_sea {nb : Nat → Nat → Nat} {V : Nat → Bool} {c s : Nat} (h : nb c s = 42) : bs1 nb V c s = true := by unfold bs1; simp [h]
theorem bs1_wet {nb : Nat → Nat → Nat} {V : Nat → Bool} {f : Nat → Int32} (hV : POK f V) {c s : Nat} (hl : nb c s ≤ 43) (h : ¬ atF f 42 (cd (nb c s)) = 0) : bs1 nb V c s = true := by
  rw [atF_cd hl] at h
  by_cases q : nb c s < 42
  · rw [if_pos q] at h
    have : V (nb c s) = true := by
      cases hv : V (nb c s)
      · exact absurd ((hV.z q).mpr hv) h
      · rfl
    unfold bs1; simp [q, this]
  · rw [if_neg q] at h; exact absurd rfl h
theorem bs1_dry {nb : Nat → Nat → Nat} {V : Nat → Bool} {f : Nat → Int32} (hV : POK f V) {c s : Nat} (hl : nb c s ≤ 43) (h0 : ¬ nb c s = 42) (h : atF f 42 (cd (nb c s)) = 0) : bs1 nb V c s = false := by
  rw [atF_cd hl] at h
  unfold bs1
  by_cases q : nb c s < 42
  · rw [if_pos q] at h
    simp [h0, (hV.z q).mp h]
  · simp [h0, q]
theorem bes_none {nb : Nat → Nat → Nat} {V : Nat → Bool} {c : Nat} (h : ∀ s, s < 4 → bs1 nb V c s = false) : bes nb V c = false := by
  unfold bes
  rw [h 0 (by omega), h 1 (by omega), h 2 (by omega), h 3 (by omega)]; rfl
theorem bes_one {nb : Nat → Nat → Nat} {V : Nat → Bool} {c s : Nat} (hs : s < 4) (h : bs1 nb V c s = true) : bes nb V c = true := by
  unfold bes
  rcases (show s = 0 ∨ s = 1 ∨ s = 2 ∨ s = 3 by omega) with rfl | rfl | rfl | rfl <;> rw [h] <;> simp
theorem bes_congr {nb : Nat → Nat → Nat} {V W : Nat → Bool} (e : ∀ c, c < 42 → V c = W c) (c : Nat) : bes nb V c = bes nb W c := by
  have key : ∀ s, bs1 nb V c s = bs1 nb W c s := by
    intro s
    unfold bs1
    by_cases q : nb c s < 42
    · rw [e _ q]
    · simp [q]
  unfold bes
  rw [key, key, key, key]
/-- behind soaking: what V and the queue are -/
theorem soak_snd {nb : Nat → Nat → Nat} {low : Nat → Bool} {V V2 : Nat → Bool} {d : Nat} (h : ∀ c, c < 42 → V c = true → ∃ k, rch nb low k c = true) (hv : V2 = adB V d) (hl : low d = true) (hb : bes nb V d = true) : ∀ c, c < 42 → V2 c = true → ∃ k, rch nb low k c = true := by
  subst hv
  intro c hc q
  by_cases e : c = d
  · subst e; exact snd_of h hl hb
  · rw [adB_ne e] at q; exact h c hc q
theorem ok_X1_soak : okName yX1_soak 2 := by decide +kernel
theorem in_X1_soak_X1 : ∀ w ∈ u_ws RX1 TX1 4, w ∈ wsX1_soak := by decide +kernel
set_option maxRecDepth 100000 in
set_option maxHeartbeats 4000000 in
theorem c_X1_soak (l : Launch) (D : va_G) (ai az al : ClassId) (fo : Nat) (g : Nat) (hN : Nat) (wN : Nat) (q0 : Nat) (hA : Nat) (Hf : Nat → Int32) (wtA : Nat) (Wf : Nat → Int32) (r : Nat) (ra : Nat) (w : Nat) (wa : Nat) (fs : Nat) (cnt : Nat) (Rr : Nat → Int32) (Wt : Nat → Int32) (h : Nat → Nat) (V : Nat → Bool) (lv : Nat) (d : Nat) (ql : List Nat) (hd : d ≤ 43) (hH : HOK Hf h) (hb : ∀ c, c < 42 → h c < 2 ^ 31) (hV : POK Wf V) (hq : QOK fs cnt Rr Wt ql) (hlv : lv < 2 ^ 31) (hsq : ∀ x ∈ ql, V x = true) : CV l D (tY ai az al) yX1_soak wsX1_soak { frames := 2, cells := 0, slots := 0, locals := 43 } [.ref fo, .int (cd d), .int (nI lv)] [(fo, .inr (1, [.ref g, .ref hN, .ref wN, .ref q0])), (hN, .inr (3, [.ref hA])), (hA, .inl (ai, 42, .inl Hf)), (wN, .inr (3, [.ref wtA])), (wtA, .inl (ai, 42, .inl Wf)), (q0, .inr (0, [.ref r, .ref w, .int (nI fs), .int (nI cnt)])), (r, .inr (3, [.ref ra])), (ra, .inl (ai, 42, .inl Rr)), (w, .inr (3, [.ref wa])), (wa, .inl (ai, 42, .inl Wt))] (fun (u : (Nat → Int32) × Nat × (Nat → Int32) × (Nat → Int32) × (Nat → Bool) × (List Nat)) => POK u.1 u.2.2.2.2.1 ∧ QOK fs u.2.1 u.2.2.1 u.2.2.2.1 u.2.2.2.2.2 ∧ ((skB h lv V d ∧ u.2.2.2.2.1 = adB V d ∧ u.2.2.2.2.2 = ql ++ [d]) ∨ (¬ skB h lv V d ∧ u.2.2.2.2.1 = V ∧ u.2.2.2.2.2 = ql))) (fun (u : (Nat → Int32) × Nat × (Nat → Int32) × (Nat → Int32) × (Nat → Bool) × (List Nat)) => [(fo, .inr (1, [.ref g, .ref hN, .ref wN, .ref q0])), (hN, .inr (3, [.ref hA])), (hA, .inl (ai, 42, .inl Hf)), (wN, .inr (3, [.ref wtA])), (wtA, .inl (ai, 42, .inl u.1)), (q0, .inr (0, [.ref r, .ref w, .int (nI fs), .int (nI u.2.1)])), (r, .inr (3, [.ref ra])), (ra, .inl (ai, 42, .inl u.2.2.1)), (w, .inr (3, [.ref wa])), (wa, .inl (ai, 42, .inl u.2.2.2.1))]) := by
  refine ofG_V (cc := cX1_soak) (nL := 3) (lv0 := [(0, .ref fo), (1, .int (cd d)), (2, .int (nI lv))]) (by decide) rfl (Nat.le_of_ble_eq_true rfl) rfl ?_
  intro Γ X E hinit
  refine g_iload_n X dX1_soak_0 rfl 1 rfl ?_
  refine g_callNi (As := [.int (cd d)]) (rest := []) (wr := [(fo, .inr (1, [.ref g, .ref hN, .ref wN, .ref q0])), (hN, .inr (3, [.ref hA])), (hA, .inl (ai, 42, .inl Hf)), (wN, .inr (3, [.ref wtA])), (wtA, .inl (ai, 42, .inl Wf)), (q0, .inr (0, [.ref r, .ref w, .int (nI fs), .int (nI cnt)])), (r, .inr (3, [.ref ra])), (ra, .inl (ai, 42, .inl Rr)), (w, .inr (3, [.ref wa])), (wa, .inl (ai, 42, .inl Wt))]) X dX1_soak_1 (c_X8_isCellD l D ai az al d (hd)) gX1_soak_X8_isCell_n59 rfl 20 rfl (by decide +kernel) (by decide +kernel) ok_X8_isCell rfl rfl (by decide) ⟨by decide, by decide⟩ (Nat.le_of_ble_eq_true rfl) [] [0, 1, 2, 3, 4, 5, 6, 7, 8, 9] ⟨rfl, by decide, rfl, by decide, by decide⟩ (fun r1 u hp => ?_)
  obtain rfl := hp
  refine g_sub (k := 0) (n := 0) (ws' := [(fo, .inr (1, [.ref g, .ref hN, .ref wN, .ref q0])), (hN, .inr (3, [.ref hA])), (hA, .inl (ai, 42, .inl Hf)), (wN, .inr (3, [.ref wtA])), (wtA, .inl (ai, 42, .inl Wf)), (q0, .inr (0, [.ref r, .ref w, .int (nI fs), .int (nI cnt)])), (r, .inr (3, [.ref ra])), (ra, .inl (ai, 42, .inl Rr)), (w, .inr (3, [.ref wa])), (wa, .inl (ai, 42, .inl Wt))]) [0, 1, 2, 3, 4, 5, 6, 7, 8, 9] (by decide) rfl ?_
  refine g_if_eqN (tgt := 47) X dX1_soak_4 (by decide) isC_lt (fun b4 => ?_) (fun b4 => ?_)
  · exact g_vret X E dX1_soak_47 (⟨Wf, cnt, Rr, Wt, V, ql⟩) rfl (by decide) (by decide) (⟨hV, hq, Or.inr ⟨fun z => by first | exact isC_0.mp b4 z.1 | exact b15 ((hV.z z.1).mpr z.2.1) | (have := z.2.2; omega), rfl, rfl⟩⟩)
  · have hd2 : d < 42 := isC_n.mp b4
    refine g_lv (lv' := [(0, .ref fo), (1, .int (nI d)), (2, .int (nI lv))]) [0, 1, 2] (by rw [cd_lt hd2]; rfl) ?_
    refine g_aload_n X dX1_soak_7 rfl 0 rfl ?_
    refine g_getf (T := TX1) (v := .ref wN) X dX1_soak_8 0 rfl rfl in_X1_soak_X1 2 (by decide) (by decide +kernel) rfl rfl ?_
    refine g_iload_n X dX1_soak_11 rfl 1 rfl ?_
    refine g_callVi (C := RX3) (As := [.int (nI d)]) (rest := []) (wr := [(fo, .inr (1, [.ref g, .ref hN, .ref wN, .ref q0])), (hN, .inr (3, [.ref hA])), (hA, .inl (ai, 42, .inl Hf)), (q0, .inr (0, [.ref r, .ref w, .int (nI fs), .int (nI cnt)])), (r, .inr (3, [.ref ra])), (ra, .inl (ai, 42, .inl Rr)), (w, .inr (3, [.ref wa])), (wa, .inl (ai, 42, .inl Wt))]) X dX1_soak_12 (c_X3_atN l D ai az al wN wtA 42 Wf d (by decide) (by omega)) gX1_soak_X3_at rfl rfl ok_X3_at rfl rfl (by decide) ⟨by decide, by decide⟩ (Nat.le_of_ble_eq_true rfl) [3, 4] [0, 1, 2, 5, 6, 7, 8, 9] ⟨rfl, by decide, rfl, by decide, by decide⟩ 0 rfl rfl rfl (fun r2 u hp => ?_)
    obtain rfl := hp
    refine g_sub (k := 0) (n := 0) (ws' := [(fo, .inr (1, [.ref g, .ref hN, .ref wN, .ref q0])), (hN, .inr (3, [.ref hA])), (hA, .inl (ai, 42, .inl Hf)), (wN, .inr (3, [.ref wtA])), (wtA, .inl (ai, 42, .inl Wf)), (q0, .inr (0, [.ref r, .ref w, .int (nI fs), .int (nI cnt)])), (r, .inr (3, [.ref ra])), (ra, .inl (ai, 42, .inl Rr)), (w, .inr (3, [.ref wa])), (wa, .inl (ai, 42, .inl Wt))]) [0, 1, 2, 8, 9, 3, 4, 5, 6, 7] (by decide) rfl ?_
    refine g_if_ne (tgt := 47) X dX1_soak_15 (by decide) (fun b15 => ?_) (fun b15 => ?_)
    · exact g_vret X E dX1_soak_47 (⟨Wf, cnt, Rr, Wt, V, ql⟩) rfl (by decide) (by decide) (⟨hV, hq, Or.inr ⟨fun z => by first | exact isC_0.mp b4 z.1 | exact b15 ((hV.z z.1).mpr z.2.1) | (have := z.2.2; omega), rfl, rfl⟩⟩)
    · have hv0 : V d = false := (hV.z hd2).mp b15
      have hni : d ∉ ql := fun z => by rw [hsq d z] at hv0; cases hv0
      refine g_aload_n X dX1_soak_18 rfl 0 rfl ?_
      refine g_getf (T := TX1) (v := .ref hN) X dX1_soak_19 0 rfl rfl in_X1_soak_X1 1 (by decide) (by decide +kernel) rfl rfl ?_
      refine g_iload_n X dX1_soak_22 rfl 1 rfl ?_
      refine g_callVi (C := RX3) (As := [.int (nI d)]) (rest := []) (wr := [(fo, .inr (1, [.ref g, .ref hN, .ref wN, .ref q0])), (wN, .inr (3, [.ref wtA])), (wtA, .inl (ai, 42, .inl Wf)), (q0, .inr (0, [.ref r, .ref w, .int (nI fs), .int (nI cnt)])), (r, .inr (3, [.ref ra])), (ra, .inl (ai, 42, .inl Rr)), (w, .inr (3, [.ref wa])), (wa, .inl (ai, 42, .inl Wt))]) X dX1_soak_23 (c_X3_atN l D ai az al hN hA 42 Hf d (by decide) (by omega)) gX1_soak_X3_at rfl rfl ok_X3_at rfl rfl (by decide) ⟨by decide, by decide⟩ (Nat.le_of_ble_eq_true rfl) [1, 2] [0, 3, 4, 5, 6, 7, 8, 9] ⟨rfl, by decide, rfl, by decide, by decide⟩ 0 rfl rfl rfl (fun r3 u hp => ?_)
      obtain rfl := hp
      refine g_sub (k := 0) (n := 0) (ws' := [(fo, .inr (1, [.ref g, .ref hN, .ref wN, .ref q0])), (hN, .inr (3, [.ref hA])), (hA, .inl (ai, 42, .inl Hf)), (wN, .inr (3, [.ref wtA])), (wtA, .inl (ai, 42, .inl Wf)), (q0, .inr (0, [.ref r, .ref w, .int (nI fs), .int (nI cnt)])), (r, .inr (3, [.ref ra])), (ra, .inl (ai, 42, .inl Rr)), (w, .inr (3, [.ref wa])), (wa, .inl (ai, 42, .inl Wt))]) [0, 8, 9, 1, 2, 3, 4, 5, 6, 7] (by decide) rfl ?_
      rw [hH d hd2]
      refine g_iload_n X dX1_soak_26 rfl 2 rfl ?_
      refine g_icmp_geN (tgt := 47) X dX1_soak_27 (by decide) (hb d hd2) hlv (fun b27 => ?_) (fun b27 => ?_)
      · exact g_vret X E dX1_soak_47 (⟨Wf, cnt, Rr, Wt, V, ql⟩) rfl (by decide) (by decide) (⟨hV, hq, Or.inr ⟨fun z => by first | exact isC_0.mp b4 z.1 | exact b15 ((hV.z z.1).mpr z.2.1) | (have := z.2.2; omega), rfl, rfl⟩⟩)
      · refine g_aload_n X dX1_soak_30 rfl 0 rfl ?_
        refine g_getf (T := TX1) (v := .ref wN) X dX1_soak_31 0 rfl rfl in_X1_soak_X1 2 (by decide) (by decide +kernel) rfl rfl ?_
        refine g_iload_n X dX1_soak_34 rfl 1 rfl ?_
        refine g_iconst (v := nI 1) X dX1_soak_35 (by decide) ?_
        refine g_callVv (C := RX3) (As := [.int (nI d), .int (nI 1)]) (rest := []) (wr := [(fo, .inr (1, [.ref g, .ref hN, .ref wN, .ref q0])), (hN, .inr (3, [.ref hA])), (hA, .inl (ai, 42, .inl Hf)), (q0, .inr (0, [.ref r, .ref w, .int (nI fs), .int (nI cnt)])), (r, .inr (3, [.ref ra])), (ra, .inl (ai, 42, .inl Rr)), (w, .inr (3, [.ref wa])), (wa, .inl (ai, 42, .inl Wt))]) X dX1_soak_36 (c_X3_putN l D ai az al wN wtA 42 Wf d (nI 1) (by decide) (hd2)) gX1_soak_X3_put rfl rfl ok_X3_put rfl rfl (by decide) ⟨by decide, by decide⟩ (Nat.le_of_ble_eq_true rfl) [3, 4] [0, 1, 2, 5, 6, 7, 8, 9] ⟨rfl, by decide, rfl, by decide, by decide⟩ 0 rfl rfl rfl (fun u hp => ?_)
        refine g_sub (k := 0) (n := 0) (ws' := [(fo, .inr (1, [.ref g, .ref hN, .ref wN, .ref q0])), (hN, .inr (3, [.ref hA])), (hA, .inl (ai, 42, .inl Hf)), (wN, .inr (3, [.ref wtA])), (wtA, .inl (ai, 42, .inl (upd Wf d ((nI 1))))), (q0, .inr (0, [.ref r, .ref w, .int (nI fs), .int (nI cnt)])), (r, .inr (3, [.ref ra])), (ra, .inl (ai, 42, .inl Rr)), (w, .inr (3, [.ref wa])), (wa, .inl (ai, 42, .inl Wt))]) [0, 1, 2, 8, 9, 3, 4, 5, 6, 7] (by decide) rfl ?_
        refine g_aload_n X dX1_soak_39 rfl 0 rfl ?_
        refine g_getf (T := TX1) (v := .ref q0) X dX1_soak_40 0 rfl rfl in_X1_soak_X1 3 (by decide) (by decide +kernel) rfl rfl ?_
        refine g_iload_n X dX1_soak_43 rfl 1 rfl ?_
        refine g_callVv (C := RX0) (As := [.int (nI d)]) (rest := []) (wr := [(fo, .inr (1, [.ref g, .ref hN, .ref wN, .ref q0])), (hN, .inr (3, [.ref hA])), (hA, .inl (ai, 42, .inl Hf)), (wN, .inr (3, [.ref wtA])), (wtA, .inl (ai, 42, .inl (upd Wf d ((nI 1)))))]) X dX1_soak_44 (c_X0_enter l D ai az al q0 r ra w wa fs cnt Rr Wt ql d (hd2) (hq)) gX1_soak_X0_enter rfl rfl ok_X0_enter rfl rfl (by decide) ⟨by decide, by decide⟩ (Nat.le_of_ble_eq_true rfl) [5, 6, 7, 8, 9] [0, 1, 2, 3, 4] ⟨rfl, by decide, rfl, by decide, by decide⟩ 0 rfl rfl rfl (fun u hp => ?_)
        obtain ⟨cnt24, R25, W26⟩ := u
        try dsimp only at hp
        have hq3 := hp
        refine g_sub (k := 0) (n := 0) (ws' := [(fo, .inr (1, [.ref g, .ref hN, .ref wN, .ref q0])), (hN, .inr (3, [.ref hA])), (hA, .inl (ai, 42, .inl Hf)), (wN, .inr (3, [.ref wtA])), (wtA, .inl (ai, 42, .inl (upd Wf d ((nI 1))))), (q0, .inr (0, [.ref r, .ref w, .int (nI fs), .int (nI cnt24)])), (r, .inr (3, [.ref ra])), (ra, .inl (ai, 42, .inl R25)), (w, .inr (3, [.ref wa])), (wa, .inl (ai, 42, .inl W26))]) [0, 1, 2, 3, 4, 5, 6, 7, 8, 9] (by decide) rfl ?_
        exact g_vret X E dX1_soak_47 (⟨upd Wf d ((nI 1)), cnt24, R25, W26, adB V d, (if d ∈ ql then ql else ql ++ [d])⟩) rfl (by decide) (by decide) (⟨hV.ad, hq3, Or.inl ⟨⟨hd2, hv0, b27⟩, rfl, if_neg hni⟩⟩)

theorem c_X1_soakN (l : Launch) (D : va_G) (ai az al : ClassId) (fo : Nat) (g : Nat) (hN : Nat) (wN : Nat) (q0 : Nat) (hA : Nat) (Hf : Nat → Int32) (wtA : Nat) (Wf : Nat → Int32) (r : Nat) (ra : Nat) (w : Nat) (wa : Nat) (fs : Nat) (cnt : Nat) (Rr : Nat → Int32) (Wt : Nat → Int32) (h : Nat → Nat) (V : Nat → Bool) (lv : Nat) (d : Nat) (ql : List Nat) (hd : d < 42) (hH : HOK Hf h) (hb : ∀ c, c < 42 → h c < 2 ^ 31) (hV : POK Wf V) (hq : QOK fs cnt Rr Wt ql) (hlv : lv < 2 ^ 31) (hsq : ∀ x ∈ ql, V x = true) : CV l D (tY ai az al) yX1_soak wsX1_soak { frames := 2, cells := 0, slots := 0, locals := 43 } [.ref fo, .int (nI d), .int (nI lv)] [(fo, .inr (1, [.ref g, .ref hN, .ref wN, .ref q0])), (hN, .inr (3, [.ref hA])), (hA, .inl (ai, 42, .inl Hf)), (wN, .inr (3, [.ref wtA])), (wtA, .inl (ai, 42, .inl Wf)), (q0, .inr (0, [.ref r, .ref w, .int (nI fs), .int (nI cnt)])), (r, .inr (3, [.ref ra])), (ra, .inl (ai, 42, .inl Rr)), (w, .inr (3, [.ref wa])), (wa, .inl (ai, 42, .inl Wt))] (fun (u : (Nat → Int32) × Nat × (Nat → Int32) × (Nat → Int32) × (Nat → Bool) × (List Nat)) => POK u.1 u.2.2.2.2.1 ∧ QOK fs u.2.1 u.2.2.1 u.2.2.2.1 u.2.2.2.2.2 ∧ ((skB h lv V d ∧ u.2.2.2.2.1 = adB V d ∧ u.2.2.2.2.2 = ql ++ [d]) ∨ (¬ skB h lv V d ∧ u.2.2.2.2.1 = V ∧ u.2.2.2.2.2 = ql))) (fun (u : (Nat → Int32) × Nat × (Nat → Int32) × (Nat → Int32) × (Nat → Bool) × (List Nat)) => [(fo, .inr (1, [.ref g, .ref hN, .ref wN, .ref q0])), (hN, .inr (3, [.ref hA])), (hA, .inl (ai, 42, .inl Hf)), (wN, .inr (3, [.ref wtA])), (wtA, .inl (ai, 42, .inl u.1)), (q0, .inr (0, [.ref r, .ref w, .int (nI fs), .int (nI u.2.1)])), (r, .inr (3, [.ref ra])), (ra, .inl (ai, 42, .inl u.2.2.1)), (w, .inr (3, [.ref wa])), (wa, .inl (ai, 42, .inl u.2.2.2.1))]) := by
  have q := c_X1_soak l D ai az al fo g hN wN q0 hA Hf wtA Wf r ra w wa fs cnt Rr Wt h V lv d ql (by omega) hH hb hV hq hlv hsq
  rw [cd_lt hd] at q
  exact q

theorem ok_X1_spread : okName yX1_spread 1 := by decide +kernel
theorem in_X1_spread_X1 : ∀ w ∈ u_ws RX1 TX1 4, w ∈ wsX1_spread := by decide +kernel
set_option maxRecDepth 100000 in
set_option maxHeartbeats 4000000 in
theorem c_X1_spread (l : Launch) (D : va_G) (ai az al : ClassId) (fo : Nat) (g : Nat) (hN : Nat) (wN : Nat) (q0 : Nat) (L : Nat) (la : Nat) (Lf : Nat → Int32) (wc : Int32) (nb : Nat → Nat → Nat) (hA : Nat) (Hf : Nat → Int32) (wtA : Nat) (Wf : Nat → Int32) (r : Nat) (ra : Nat) (w : Nat) (wa : Nat) (fsI : Int32) (cntI : Int32) (Rr : Nat → Int32) (Wt : Nat → Int32) (h : Nat → Nat) (lv : Nat) (hL : LeadsOK Lf nb) (hW : NW nb) (hH : HOK Hf h) (hb : ∀ c, c < 42 → h c < 2 ^ 31) (hlv : lv < 2 ^ 31) : CI l D (tY ai az al) yX1_spread wsX1_spread { frames := 3, cells := 0, slots := 0, locals := 65 } [.ref fo, .int (nI lv)] [(fo, .inr (1, [.ref g, .ref hN, .ref wN, .ref q0])), (g, .inr (2, [.ref L, .int wc])), (L, .inr (3, [.ref la])), (la, .inl (ai, 168, .inl Lf)), (hN, .inr (3, [.ref hA])), (hA, .inl (ai, 42, .inl Hf)), (wN, .inr (3, [.ref wtA])), (wtA, .inl (ai, 42, .inl Wf)), (q0, .inr (0, [.ref r, .ref w, .int fsI, .int cntI])), (r, .inr (3, [.ref ra])), (ra, .inl (ai, 42, .inl Rr)), (w, .inr (3, [.ref wa])), (wa, .inl (ai, 42, .inl Wt))] (fun (r : Int32) (u : (Nat → Int32) × Nat × Nat × (Nat → Int32) × (Nat → Int32) × (Nat → Bool)) => r = nI (cB u.2.2.2.2.2 42) ∧ FL nb (lowB h lv) u.2.2.2.2.2 ∧ POK u.1 u.2.2.2.2.2) (fun (u : (Nat → Int32) × Nat × Nat × (Nat → Int32) × (Nat → Int32) × (Nat → Bool)) => [(fo, .inr (1, [.ref g, .ref hN, .ref wN, .ref q0])), (g, .inr (2, [.ref L, .int wc])), (L, .inr (3, [.ref la])), (la, .inl (ai, 168, .inl Lf)), (hN, .inr (3, [.ref hA])), (hA, .inl (ai, 42, .inl Hf)), (wN, .inr (3, [.ref wtA])), (wtA, .inl (ai, 42, .inl u.1)), (q0, .inr (0, [.ref r, .ref w, .int (nI u.2.1), .int (nI u.2.2.1)])), (r, .inr (3, [.ref ra])), (ra, .inl (ai, 42, .inl u.2.2.2.1)), (w, .inr (3, [.ref wa])), (wa, .inl (ai, 42, .inl u.2.2.2.2.1))]) := by
  refine ofG_I (cc := cX1_spread) (nL := 5) (lv0 := [(0, .ref fo), (1, .int (nI lv))]) (by decide) rfl (Nat.le_of_ble_eq_true rfl) rfl ?_
  intro Γ X E
  refine g_aload_n X dX1_spread_0 rfl 0 rfl ?_
  refine g_getf (T := TX1) (v := .ref wN) X dX1_spread_1 0 rfl rfl in_X1_spread_X1 2 (by decide) (by decide +kernel) rfl rfl ?_
  refine g_callVv (C := RX3) (As := []) (rest := []) (wr := [(fo, .inr (1, [.ref g, .ref hN, .ref wN, .ref q0])), (g, .inr (2, [.ref L, .int wc])), (L, .inr (3, [.ref la])), (la, .inl (ai, 168, .inl Lf)), (hN, .inr (3, [.ref hA])), (hA, .inl (ai, 42, .inl Hf)), (q0, .inr (0, [.ref r, .ref w, .int fsI, .int cntI])), (r, .inr (3, [.ref ra])), (ra, .inl (ai, 42, .inl Rr)), (w, .inr (3, [.ref wa])), (wa, .inl (ai, 42, .inl Wt))]) X dX1_spread_4 (c_X3_clear l D ai az al wN wtA 42 Wf (by decide)) gX1_spread_X3_clear rfl rfl ok_X3_clear rfl rfl (by decide) ⟨by decide, by decide⟩ (Nat.le_of_ble_eq_true rfl) [6, 7] [0, 1, 2, 3, 4, 5, 8, 9, 10, 11, 12] ⟨rfl, by decide, rfl, by decide, by decide⟩ 0 rfl rfl rfl (fun u hp => ?_)
  refine g_sub (k := 0) (n := 0) (ws' := [(fo, .inr (1, [.ref g, .ref hN, .ref wN, .ref q0])), (g, .inr (2, [.ref L, .int wc])), (L, .inr (3, [.ref la])), (la, .inl (ai, 168, .inl Lf)), (hN, .inr (3, [.ref hA])), (hA, .inl (ai, 42, .inl Hf)), (wN, .inr (3, [.ref wtA])), (wtA, .inl (ai, 42, .inl (fun _ => 0))), (q0, .inr (0, [.ref r, .ref w, .int fsI, .int cntI])), (r, .inr (3, [.ref ra])), (ra, .inl (ai, 42, .inl Rr)), (w, .inr (3, [.ref wa])), (wa, .inl (ai, 42, .inl Wt))]) [0, 1, 2, 3, 4, 5, 11, 12, 6, 7, 8, 9, 10] (by decide) rfl ?_
  refine g_aload_n X dX1_spread_7 rfl 0 rfl ?_
  refine g_getf (T := TX1) (v := .ref q0) X dX1_spread_8 0 rfl rfl in_X1_spread_X1 3 (by decide) (by decide +kernel) rfl rfl ?_
  refine g_callVv (C := RX0) (As := []) (rest := []) (wr := [(fo, .inr (1, [.ref g, .ref hN, .ref wN, .ref q0])), (g, .inr (2, [.ref L, .int wc])), (L, .inr (3, [.ref la])), (la, .inl (ai, 168, .inl Lf)), (hN, .inr (3, [.ref hA])), (hA, .inl (ai, 42, .inl Hf)), (wN, .inr (3, [.ref wtA])), (wtA, .inl (ai, 42, .inl (fun _ => 0)))]) X dX1_spread_11 (c_X0_clear l D ai az al q0 r ra w wa fsI cntI Rr Wt ) gX1_spread_X0_clear rfl rfl ok_X0_clear rfl rfl (by decide) ⟨by decide, by decide⟩ (Nat.le_of_ble_eq_true rfl) [8, 9, 10, 11, 12] [0, 1, 2, 3, 4, 5, 6, 7] ⟨rfl, by decide, rfl, by decide, by decide⟩ 0 rfl rfl rfl (fun u hp => ?_)
  refine g_sub (k := 0) (n := 0) (ws' := [(fo, .inr (1, [.ref g, .ref hN, .ref wN, .ref q0])), (g, .inr (2, [.ref L, .int wc])), (L, .inr (3, [.ref la])), (la, .inl (ai, 168, .inl Lf)), (hN, .inr (3, [.ref hA])), (hA, .inl (ai, 42, .inl Hf)), (wN, .inr (3, [.ref wtA])), (wtA, .inl (ai, 42, .inl (fun _ => 0))), (q0, .inr (0, [.ref r, .ref w, .int (nI 0), .int (nI 0)])), (r, .inr (3, [.ref ra])), (ra, .inl (ai, 42, .inl Rr)), (w, .inr (3, [.ref wa])), (wa, .inl (ai, 42, .inl (fun _ => 0)))]) [0, 1, 2, 3, 4, 5, 6, 7, 8, 9, 10, 11, 12] (by decide) rfl ?_
  refine g_iconst (v := nI 0) X dX1_spread_14 (by decide) ?_
  refine g_istore_n (lv' := [(2, .int (nI 0)), (0, .ref fo), (1, .int (nI lv))]) X dX1_spread_15 rfl (by decide) rfl ?_
  have L16 : ∀ (fl : Nat) (i : Nat) (Wa : Nat → Int32) (ca : Nat) (Ra : Nat → Int32) (Wb : Nat → Int32) (Va : Nat → Bool) (qa : List Nat), (i ≤ 6) → (POK Wa Va) → (QOK 0 ca Ra Wb qa) → (∀ x, Va x = true ↔ x ∈ qa) → (∀ c, c < 42 → Va c = true → ∃ k, rch nb (lowB h lv) k c = true) → (∀ c, c < i → lowB h lv c = true → nb c 0 = 42 → Va c = true) → (cB Va 42 = qa.length) → (7 ≤ i + fl) → G Γ 5 0 0 [(fo, .inr (1, [.ref g, .ref hN, .ref wN, .ref q0])), (g, .inr (2, [.ref L, .int wc])), (L, .inr (3, [.ref la])), (la, .inl (ai, 168, .inl Lf)), (hN, .inr (3, [.ref hA])), (hA, .inl (ai, 42, .inl Hf)), (wN, .inr (3, [.ref wtA])), (wtA, .inl (ai, 42, .inl Wa)), (q0, .inr (0, [.ref r, .ref w, .int (nI 0), .int (nI ca)])), (r, .inr (3, [.ref ra])), (ra, .inl (ai, 42, .inl Ra)), (w, .inr (3, [.ref wa])), (wa, .inl (ai, 42, .inl Wb))] [(0, .ref fo), (1, .int (nI lv)), (2, .int (nI i))] 16 [] := by
    intro fl
    induction fl with
    | zero => intro i Wa ca Ra Wb Va qa hi hVa hqa hvq hsn hc0 hcn hm; exact absurd hm (by omega)
    | succ fl ih16 =>
      intro i Wa ca Ra Wb Va qa hi hVa hqa hvq hsn hc0 hcn hm
      refine g_iload_n X dX1_spread_16 rfl 2 rfl ?_
      refine g_bipush (v := nI 6) X dX1_spread_17 (by decide) ?_
      refine g_icmp_geN (tgt := 47) X dX1_spread_19 (by decide) (by omega) (by omega) (fun b19 => ?_) (fun b19 => ?_)
      · refine g_iconst (v := nI 0) X dX1_spread_47 (by decide) ?_
        refine g_istore_n (lv' := [(2, .int (nI 0)), (0, .ref fo), (1, .int (nI lv))]) X dX1_spread_48 rfl (by decide) rfl ?_
        have L49 : ∀ (fm : Nat) (tn : Nat) (Wc : Nat → Int32) (fb : Nat) (cb : Nat) (Rb : Nat → Int32) (Wd : Nat → Int32) (Vb : Nat → Bool) (qb : List Nat), (tn ≤ 42) → (POK Wc Vb) → (QOK fb cb Rb Wd qb) → (∀ x ∈ qb, Vb x = true) → (∀ c, c < 42 → Vb c = true → ∃ k, rch nb (lowB h lv) k c = true) → (∀ c, c < 42 → lowB h lv c = true → nb c 0 = 42 → Vb c = true) → (∀ y s, y < 42 → s < 4 → Vb y = true → y ∉ qb → nb y s < 42 → lowB h lv (nb y s) = true → Vb (nb y s) = true) → (cB Vb 42 = tn + qb.length) → (43 ≤ tn + fm) → G Γ 5 0 0 [(fo, .inr (1, [.ref g, .ref hN, .ref wN, .ref q0])), (g, .inr (2, [.ref L, .int wc])), (L, .inr (3, [.ref la])), (la, .inl (ai, 168, .inl Lf)), (hN, .inr (3, [.ref hA])), (hA, .inl (ai, 42, .inl Hf)), (wN, .inr (3, [.ref wtA])), (wtA, .inl (ai, 42, .inl Wc)), (q0, .inr (0, [.ref r, .ref w, .int (nI fb), .int (nI cb)])), (r, .inr (3, [.ref ra])), (ra, .inl (ai, 42, .inl Rb)), (w, .inr (3, [.ref wa])), (wa, .inl (ai, 42, .inl Wd))] [(0, .ref fo), (1, .int (nI lv)), (2, .int (nI tn))] 49 [] := by
          intro fm
          induction fm with
          | zero => intro tn Wc fb cb Rb Wd Vb qb ht hVb hqb hsq hsb hcb0 hcb hcnb hn; exact absurd hn (by omega)
          | succ fm ih49 =>
            intro tn Wc fb cb Rb Wd Vb qb ht hVb hqb hsq hsb hcb0 hcb hcnb hn
            have hcl := cB_le Vb 42
            have hNB := hW.nb
            refine g_iload_n X dX1_spread_49 rfl 2 rfl ?_
            refine g_bipush (v := nI 42) X dX1_spread_50 (by decide) ?_
            refine g_icmp_geN (tgt := 109) X dX1_spread_52 (by decide) (by omega) (by omega) (fun b52 => ?_) (fun b52 => ?_)
            · have hql : qb = [] := List.eq_nil_of_length_eq_zero (by first | omega | (have e : cb = 0 := of_decide_eq_true (bn_n.mp b62); rw [e] at hqb; exact hqb.2.2.1.symm))
              refine g_aload_n X dX1_spread_109 rfl 0 rfl ?_
              refine g_getf (T := TX1) (v := .ref wN) X dX1_spread_110 0 rfl rfl in_X1_spread_X1 2 (by decide) (by decide +kernel) rfl rfl ?_
              refine g_callVi (C := RX3) (As := []) (rest := []) (wr := [(fo, .inr (1, [.ref g, .ref hN, .ref wN, .ref q0])), (g, .inr (2, [.ref L, .int wc])), (L, .inr (3, [.ref la])), (la, .inl (ai, 168, .inl Lf)), (hN, .inr (3, [.ref hA])), (hA, .inl (ai, 42, .inl Hf)), (q0, .inr (0, [.ref r, .ref w, .int (nI fb), .int (nI cb)])), (r, .inr (3, [.ref ra])), (ra, .inl (ai, 42, .inl Rb)), (w, .inr (3, [.ref wa])), (wa, .inl (ai, 42, .inl Wd))]) X dX1_spread_113 (c_X3_total l D ai az al wN wtA 42 Wc (by decide)) gX1_spread_X3_total rfl rfl ok_X3_total rfl rfl (by decide) ⟨by decide, by decide⟩ (Nat.le_of_ble_eq_true rfl) [6, 7] [0, 1, 2, 3, 4, 5, 8, 9, 10, 11, 12] ⟨rfl, by decide, rfl, by decide, by decide⟩ 0 rfl rfl rfl (fun r1 u hp => ?_)
              obtain rfl := hp
              refine g_sub (k := 0) (n := 0) (ws' := [(fo, .inr (1, [.ref g, .ref hN, .ref wN, .ref q0])), (g, .inr (2, [.ref L, .int wc])), (L, .inr (3, [.ref la])), (la, .inl (ai, 168, .inl Lf)), (hN, .inr (3, [.ref hA])), (hA, .inl (ai, 42, .inl Hf)), (wN, .inr (3, [.ref wtA])), (wtA, .inl (ai, 42, .inl Wc)), (q0, .inr (0, [.ref r, .ref w, .int (nI fb), .int (nI cb)])), (r, .inr (3, [.ref ra])), (ra, .inl (ai, 42, .inl Rb)), (w, .inr (3, [.ref wa])), (wa, .inl (ai, 42, .inl Wd))]) [0, 1, 2, 3, 4, 5, 11, 12, 6, 7, 8, 9, 10] (by decide) rfl ?_
              exact g_iret X E dX1_spread_116 (⟨Wc, fb, cb, Rb, Wd, Vb⟩) rfl (by decide) (by decide) (⟨sumI_N hVb, FL.fin hNB hsb hcb0 (fun y s hy hs h1 h4 h5 => hcb y s hy hs h1 (by rw [hql]; exact List.not_mem_nil) h4 h5), hVb⟩)
            · refine g_aload_n X dX1_spread_55 rfl 0 rfl ?_
              refine g_getf (T := TX1) (v := .ref q0) X dX1_spread_56 0 rfl rfl in_X1_spread_X1 3 (by decide) (by decide +kernel) rfl rfl ?_
              refine g_callVi (C := RX0) (As := []) (rest := []) (wr := [(fo, .inr (1, [.ref g, .ref hN, .ref wN, .ref q0])), (g, .inr (2, [.ref L, .int wc])), (L, .inr (3, [.ref la])), (la, .inl (ai, 168, .inl Lf)), (hN, .inr (3, [.ref hA])), (hA, .inl (ai, 42, .inl Hf)), (wN, .inr (3, [.ref wtA])), (wtA, .inl (ai, 42, .inl Wc))]) X dX1_spread_59 (c_X0_isEmpty l D ai az al q0 r ra w wa fb cb Rb Wd (by have := hqb.le; omega)) gX1_spread_X0_isEmpty rfl rfl ok_X0_isEmpty rfl rfl (by decide) ⟨by decide, by decide⟩ (Nat.le_of_ble_eq_true rfl) [8, 9, 10, 11, 12] [0, 1, 2, 3, 4, 5, 6, 7] ⟨rfl, by decide, rfl, by decide, by decide⟩ 0 rfl rfl rfl (fun r2 u hp => ?_)
              obtain rfl := hp
              refine g_sub (k := 0) (n := 0) (ws' := [(fo, .inr (1, [.ref g, .ref hN, .ref wN, .ref q0])), (g, .inr (2, [.ref L, .int wc])), (L, .inr (3, [.ref la])), (la, .inl (ai, 168, .inl Lf)), (hN, .inr (3, [.ref hA])), (hA, .inl (ai, 42, .inl Hf)), (wN, .inr (3, [.ref wtA])), (wtA, .inl (ai, 42, .inl Wc)), (q0, .inr (0, [.ref r, .ref w, .int (nI fb), .int (nI cb)])), (r, .inr (3, [.ref ra])), (ra, .inl (ai, 42, .inl Rb)), (w, .inr (3, [.ref wa])), (wa, .inl (ai, 42, .inl Wd))]) [0, 1, 2, 3, 4, 5, 6, 7, 8, 9, 10, 11, 12] (by decide) rfl ?_
              refine g_if_neN (tgt := 109) X dX1_spread_62 (by decide) (bn_lt _) (fun b62 => ?_) (fun b62 => ?_)
              · have hql : qb = [] := List.eq_nil_of_length_eq_zero (by first | omega | (have e : cb = 0 := of_decide_eq_true (bn_n.mp b62); rw [e] at hqb; exact hqb.2.2.1.symm))
                refine g_aload_n X dX1_spread_109 rfl 0 rfl ?_
                refine g_getf (T := TX1) (v := .ref wN) X dX1_spread_110 0 rfl rfl in_X1_spread_X1 2 (by decide) (by decide +kernel) rfl rfl ?_
                refine g_callVi (C := RX3) (As := []) (rest := []) (wr := [(fo, .inr (1, [.ref g, .ref hN, .ref wN, .ref q0])), (g, .inr (2, [.ref L, .int wc])), (L, .inr (3, [.ref la])), (la, .inl (ai, 168, .inl Lf)), (hN, .inr (3, [.ref hA])), (hA, .inl (ai, 42, .inl Hf)), (q0, .inr (0, [.ref r, .ref w, .int (nI fb), .int (nI cb)])), (r, .inr (3, [.ref ra])), (ra, .inl (ai, 42, .inl Rb)), (w, .inr (3, [.ref wa])), (wa, .inl (ai, 42, .inl Wd))]) X dX1_spread_113 (c_X3_total l D ai az al wN wtA 42 Wc (by decide)) gX1_spread_X3_total rfl rfl ok_X3_total rfl rfl (by decide) ⟨by decide, by decide⟩ (Nat.le_of_ble_eq_true rfl) [6, 7] [0, 1, 2, 3, 4, 5, 8, 9, 10, 11, 12] ⟨rfl, by decide, rfl, by decide, by decide⟩ 0 rfl rfl rfl (fun r3 u hp => ?_)
                obtain rfl := hp
                refine g_sub (k := 0) (n := 0) (ws' := [(fo, .inr (1, [.ref g, .ref hN, .ref wN, .ref q0])), (g, .inr (2, [.ref L, .int wc])), (L, .inr (3, [.ref la])), (la, .inl (ai, 168, .inl Lf)), (hN, .inr (3, [.ref hA])), (hA, .inl (ai, 42, .inl Hf)), (wN, .inr (3, [.ref wtA])), (wtA, .inl (ai, 42, .inl Wc)), (q0, .inr (0, [.ref r, .ref w, .int (nI fb), .int (nI cb)])), (r, .inr (3, [.ref ra])), (ra, .inl (ai, 42, .inl Rb)), (w, .inr (3, [.ref wa])), (wa, .inl (ai, 42, .inl Wd))]) [0, 1, 2, 3, 4, 5, 11, 12, 6, 7, 8, 9, 10] (by decide) rfl ?_
                exact g_iret X E dX1_spread_116 (⟨Wc, fb, cb, Rb, Wd, Vb⟩) rfl (by decide) (by decide) (⟨sumI_N hVb, FL.fin hNB hsb hcb0 (fun y s hy hs h1 h4 h5 => hcb y s hy hs h1 (by rw [hql]; exact List.not_mem_nil) h4 h5), hVb⟩)
              · have hne : cb ≠ 0 := of_decide_eq_false (bn_0.mp b62)
                obtain ⟨x, qt, rfl⟩ : ∃ x qt, qb = x :: qt := by
                  cases qb with
                  | nil => exact absurd hqb.2.2.1 hne
                  | cons a b => exact ⟨a, b, rfl⟩
                have hx : x < 42 := hqb.2.1 x List.mem_cons_self
                refine g_aload_n X dX1_spread_65 rfl 0 rfl ?_
                refine g_getf (T := TX1) (v := .ref q0) X dX1_spread_66 0 rfl rfl in_X1_spread_X1 3 (by decide) (by decide +kernel) rfl rfl ?_
                refine g_callVi (C := RX0) (As := []) (rest := []) (wr := [(fo, .inr (1, [.ref g, .ref hN, .ref wN, .ref q0])), (g, .inr (2, [.ref L, .int wc])), (L, .inr (3, [.ref la])), (la, .inl (ai, 168, .inl Lf)), (hN, .inr (3, [.ref hA])), (hA, .inl (ai, 42, .inl Hf)), (wN, .inr (3, [.ref wtA])), (wtA, .inl (ai, 42, .inl Wc))]) X dX1_spread_69 (c_X0_leave l D ai az al q0 r ra w wa fb cb Rb Wd qt x (hqb)) gX1_spread_X0_leave rfl rfl ok_X0_leave rfl rfl (by decide) ⟨by decide, by decide⟩ (Nat.le_of_ble_eq_true rfl) [8, 9, 10, 11, 12] [0, 1, 2, 3, 4, 5, 6, 7] ⟨rfl, by decide, rfl, by decide, by decide⟩ 0 rfl rfl rfl (fun r5 W24 hp => ?_)
                try dsimp only at hp
                obtain ⟨rfl, hq4⟩ := hp
                refine g_sub (k := 0) (n := 0) (ws' := [(fo, .inr (1, [.ref g, .ref hN, .ref wN, .ref q0])), (g, .inr (2, [.ref L, .int wc])), (L, .inr (3, [.ref la])), (la, .inl (ai, 168, .inl Lf)), (hN, .inr (3, [.ref hA])), (hA, .inl (ai, 42, .inl Hf)), (wN, .inr (3, [.ref wtA])), (wtA, .inl (ai, 42, .inl Wc)), (q0, .inr (0, [.ref r, .ref w, .int (nI ((fb + 1) % 42)), .int (nI (cb - 1))])), (r, .inr (3, [.ref ra])), (ra, .inl (ai, 42, .inl Rb)), (w, .inr (3, [.ref wa])), (wa, .inl (ai, 42, .inl W24))]) [0, 1, 2, 3, 4, 5, 6, 7, 8, 9, 10, 11, 12] (by decide) rfl ?_
                refine g_istore_n (lv' := [(3, .int (nI x)), (0, .ref fo), (1, .int (nI lv)), (2, .int (nI tn))]) X dX1_spread_72 rfl (by decide) rfl ?_
                refine g_iconst (v := nI 0) X dX1_spread_73 (by decide) ?_
                refine g_istore (lv' := [(4, .int (nI 0)), (3, .int (nI x)), (0, .ref fo), (1, .int (nI lv)), (2, .int (nI tn))]) X dX1_spread_74 (by decide) rfl ?_
                have L76 : ∀ (fk : Nat) (j : Nat) (We : Nat → Int32) (ce : Nat) (Re : Nat → Int32) (Wg : Nat → Int32) (Ve : Nat → Bool) (qe : List Nat), (j ≤ 4) → (POK We Ve) → (QOK ((fb + 1) % 42) ce Re Wg qe) → (∀ y ∈ qe, Ve y = true) → (∀ c, c < 42 → Ve c = true → ∃ k, rch nb (lowB h lv) k c = true) → (∀ c, c < 42 → lowB h lv c = true → nb c 0 = 42 → Ve c = true) → (∀ y s, y < 42 → s < 4 → Ve y = true → y ∉ qe → (y ≠ x ∨ s < j) → nb y s < 42 → lowB h lv (nb y s) = true → Ve (nb y s) = true) → (cB Ve 42 = tn + 1 + qe.length) → (Ve x = true) → (5 ≤ j + fk) → G Γ 5 0 0 [(fo, .inr (1, [.ref g, .ref hN, .ref wN, .ref q0])), (g, .inr (2, [.ref L, .int wc])), (L, .inr (3, [.ref la])), (la, .inl (ai, 168, .inl Lf)), (hN, .inr (3, [.ref hA])), (hA, .inl (ai, 42, .inl Hf)), (wN, .inr (3, [.ref wtA])), (wtA, .inl (ai, 42, .inl We)), (q0, .inr (0, [.ref r, .ref w, .int (nI ((fb + 1) % 42)), .int (nI ce)])), (r, .inr (3, [.ref ra])), (ra, .inl (ai, 42, .inl Re)), (w, .inr (3, [.ref wa])), (wa, .inl (ai, 42, .inl Wg))] [(0, .ref fo), (1, .int (nI lv)), (2, .int (nI tn)), (3, .int (nI x)), (4, .int (nI j))] 76 [] := by
                  intro fk
                  induction fk with
                  | zero => intro j We ce Re Wg Ve qe hj hVe hqe hse hsde hce0 hce hcne hxv hk; exact absurd hk (by omega)
                  | succ fk ih76 =>
                    intro j We ce Re Wg Ve qe hj hVe hqe hse hsde hce0 hce hcne hxv hk
                    refine g_iload X dX1_spread_76 4 rfl ?_
                    refine g_iconst (v := nI 4) X dX1_spread_78 (by decide) ?_
                    refine g_icmp_geN (tgt := 103) X dX1_spread_79 (by decide) (by omega) (by omega) (fun b79 => ?_) (fun b79 => ?_)
                    · refine g_iinc (v := nI (tn + 1)) (lv' := [(2, .int (nI (tn + 1))), (0, .ref fo), (1, .int (nI lv)), (3, .int (nI x)), (4, .int (nI j))]) X dX1_spread_103 2 rfl (nI_inc _) (by decide) rfl ?_
                      refine g_goto (tgt := 49) X dX1_spread_106 (by decide) ?_
                      refine g_lv (lv' := [(0, .ref fo), (1, .int (nI lv)), (2, .int (nI (tn + 1)))]) [1, 2, 0] rfl ?_
                      exact ih49 (tn + 1) We ((fb + 1) % 42) ce Re Wg Ve qe (by omega) (hVe) (hqe) (hse) (hsde) (hce0) (fun y s hy hs h1 h2 => hce y s hy hs h1 h2 (Or.inr (by omega))) (by omega) (by omega)
                    · have hj4 : j < 4 := by omega
                      refine g_aload_n X dX1_spread_82 rfl 0 rfl ?_
                      refine g_aload_n X dX1_spread_83 rfl 0 rfl ?_
                      refine g_getf (T := TX1) (v := .ref g) X dX1_spread_84 0 rfl rfl in_X1_spread_X1 0 (by decide) (by decide +kernel) rfl rfl ?_
                      refine g_iload_n X dX1_spread_87 rfl 3 rfl ?_
                      refine g_iload X dX1_spread_88 4 rfl ?_
                      refine g_callVi (C := RX2) (As := [.int (nI x), .int (nI j)]) (rest := [.ref fo]) (wr := [(fo, .inr (1, [.ref g, .ref hN, .ref wN, .ref q0])), (hN, .inr (3, [.ref hA])), (hA, .inl (ai, 42, .inl Hf)), (wN, .inr (3, [.ref wtA])), (wtA, .inl (ai, 42, .inl We)), (q0, .inr (0, [.ref r, .ref w, .int (nI ((fb + 1) % 42)), .int (nI ce)])), (r, .inr (3, [.ref ra])), (ra, .inl (ai, 42, .inl Re)), (w, .inr (3, [.ref wa])), (wa, .inl (ai, 42, .inl Wg))]) X dX1_spread_90 (c_X2_leadsTo l D ai az al g L la Lf wc nb x j (hx) (hj4) (hL)) gX1_spread_X2_leadsTo rfl rfl ok_X2_leadsTo rfl rfl (by decide) ⟨by decide, by decide⟩ (Nat.le_of_ble_eq_true rfl) [1, 2, 3] [0, 4, 5, 6, 7, 8, 9, 10, 11, 12] ⟨rfl, by decide, rfl, by decide, by decide⟩ 0 rfl rfl rfl (fun r6 u hp => ?_)
                      obtain rfl := hp
                      refine g_sub (k := 0) (n := 0) (ws' := [(fo, .inr (1, [.ref g, .ref hN, .ref wN, .ref q0])), (g, .inr (2, [.ref L, .int wc])), (L, .inr (3, [.ref la])), (la, .inl (ai, 168, .inl Lf)), (hN, .inr (3, [.ref hA])), (hA, .inl (ai, 42, .inl Hf)), (wN, .inr (3, [.ref wtA])), (wtA, .inl (ai, 42, .inl We)), (q0, .inr (0, [.ref r, .ref w, .int (nI ((fb + 1) % 42)), .int (nI ce)])), (r, .inr (3, [.ref ra])), (ra, .inl (ai, 42, .inl Re)), (w, .inr (3, [.ref wa])), (wa, .inl (ai, 42, .inl Wg))]) [0, 10, 11, 12, 1, 2, 3, 4, 5, 6, 7, 8, 9] (by decide) rfl ?_
                      refine g_iload_n X dX1_spread_93 rfl 1 rfl ?_
                      refine g_callVv (C := RX1) (As := [.int (cd (nb x j)), .int (nI lv)]) (rest := []) (wr := [(g, .inr (2, [.ref L, .int wc])), (L, .inr (3, [.ref la])), (la, .inl (ai, 168, .inl Lf))]) X dX1_spread_94 (c_X1_soak l D ai az al fo g hN wN q0 hA Hf wtA We r ra w wa ((fb + 1) % 42) ce Re Wg h Ve lv (nb x j) qe ((hL x j hx hj4).2) (hH) (hb) (hVe) (hqe) (hlv) (hse)) gX1_spread_X1_soak rfl rfl ok_X1_soak rfl rfl (by decide) ⟨by decide, by decide⟩ (Nat.le_of_ble_eq_true rfl) [0, 4, 5, 6, 7, 8, 9, 10, 11, 12] [1, 2, 3] ⟨rfl, by decide, rfl, by decide, by decide⟩ 0 rfl rfl rfl (fun u hp => ?_)
                      obtain ⟨W5, c5, R5, W6, V5, q5⟩ := u
                      try dsimp only at hp
                      obtain ⟨hV5, hq5, hk5⟩ := hp
                      refine g_sub (k := 0) (n := 0) (ws' := [(fo, .inr (1, [.ref g, .ref hN, .ref wN, .ref q0])), (g, .inr (2, [.ref L, .int wc])), (L, .inr (3, [.ref la])), (la, .inl (ai, 168, .inl Lf)), (hN, .inr (3, [.ref hA])), (hA, .inl (ai, 42, .inl Hf)), (wN, .inr (3, [.ref wtA])), (wtA, .inl (ai, 42, .inl W5)), (q0, .inr (0, [.ref r, .ref w, .int (nI ((fb + 1) % 42)), .int (nI c5)])), (r, .inr (3, [.ref ra])), (ra, .inl (ai, 42, .inl R5)), (w, .inr (3, [.ref wa])), (wa, .inl (ai, 42, .inl W6))]) [3, 0, 1, 2, 4, 5, 6, 7, 8, 9, 10, 11, 12] (by decide) rfl ?_
                      refine g_iinc (v := nI (j + 1)) (lv' := [(4, .int (nI (j + 1))), (0, .ref fo), (1, .int (nI lv)), (2, .int (nI tn)), (3, .int (nI x))]) X dX1_spread_97 4 rfl (nI_inc _) (by decide) rfl ?_
                      refine g_goto (tgt := 76) X dX1_spread_100 (by decide) ?_
                      refine g_lv (lv' := [(0, .ref fo), (1, .int (nI lv)), (2, .int (nI tn)), (3, .int (nI x)), (4, .int (nI (j + 1)))]) [1, 2, 3, 4, 0] rfl ?_
                      exact ih76 (j + 1) W5 c5 R5 W6 V5 q5 (by omega) (hV5) (hq5) (by rcases hk5 with ⟨k1, k2, k3⟩ | ⟨k1, k2, k3⟩; (rw [k2, k3]; intro y hy; rcases List.mem_append.mp hy with z | z; exact adB_of (hse y z); (rw [List.mem_singleton] at z; rw [z]; exact adB_at _ _)); (rw [k2, k3]; exact hse)) (by rcases hk5 with ⟨k1, k2, k3⟩ | ⟨k1, k2, k3⟩; (have hz := (hNB.cases hx hj4); refine soak_snd hsde k2 (by unfold lowB; simp; exact k1.2.2) (bes_iff.mpr ⟨opp j, opp_lt hj4, Or.inr ?_⟩); rcases hz with hz | hz | hz; (have := k1.1; omega); (have := k1.1; omega); (rw [hz.2.2.1]; exact ⟨hx, hxv⟩)); (rw [k2]; exact hsde)) (fun c hc h1 h2 => by rcases hk5 with ⟨k1, k2, k3⟩ | ⟨k1, k2, k3⟩; (rw [k2]; exact adB_of (hce0 c hc h1 h2)); (rw [k2]; exact hce0 c hc h1 h2)) (fun y s hy hs h1 h2 h3 h4 h5 => by
              have hlo : h (nb y s) < lv := of_decide_eq_true h5
              rcases hk5 with ⟨k1, k2, k3⟩ | ⟨k1, k2, k3⟩
              · rw [k2] at h1 ⊢
                rw [k3] at h2
                have n1 : y ∉ qe := fun z => h2 (List.mem_append_left _ z)
                have n2 : y ≠ nb x j := fun z => h2 (by rw [z]; simp)
                rw [adB_ne n2] at h1
                by_cases e : y = x ∧ s = j
                · rw [e.1, e.2]; exact adB_at _ _
                · exact adB_of (hce y s hy hs h1 n1 (by rcases h3 with z | z; exact Or.inl z; by_cases e2 : y = x; exact Or.inr (by have : s ≠ j := fun w => e ⟨e2, w⟩; omega); exact Or.inl e2) h4 h5)
              · rw [k2] at h1 ⊢
                rw [k3] at h2
                by_cases e : y = x ∧ s = j
                · obtain ⟨e1, e2⟩ := e
                  subst e1; subst e2
                  cases hv : Ve (nb y s)
                  · exact absurd ⟨h4, hv, hlo⟩ k1
                  · rfl
                · exact hce y s hy hs h1 h2 (by rcases h3 with z | z; exact Or.inl z; by_cases e2 : y = x; exact Or.inr (by have : s ≠ j := fun w => e ⟨e2, w⟩; omega); exact Or.inl e2) h4 h5) (by rcases hk5 with ⟨k1, k2, k3⟩ | ⟨k1, k2, k3⟩; (rw [k2, k3, cB_ad k1.2.1 k1.1, hcne]; simp; omega); (rw [k2, k3, hcne])) (by rcases hk5 with ⟨k1, k2, k3⟩ | ⟨k1, k2, k3⟩; (rw [k2]; exact adB_of hxv); (rw [k2]; exact hxv)) (by omega)
                refine g_lv (lv' := [(0, .ref fo), (1, .int (nI lv)), (2, .int (nI tn)), (3, .int (nI x)), (4, .int (nI 0))]) [2, 3, 4, 1, 0] rfl ?_
                exact L76 5 0 Wc (cb - 1) Rb W24 Vb qt (by decide) (hVb) (hq4) (fun y hy => hsq y (List.mem_cons_of_mem _ hy)) (hsb) (hcb0) (fun y s hy hs h1 h2 h3 => by rcases h3 with h3 | h3; exact hcb y s hy hs h1 (fun z => (List.mem_cons.mp z).elim h3 h2); omega) (by rw [hcnb, List.length_cons]; omega) (hsq x List.mem_cons_self) (by decide)
        refine g_lv (lv' := [(0, .ref fo), (1, .int (nI lv)), (2, .int (nI 0))]) [1, 2, 0] rfl ?_
        exact L49 43 0 Wa 0 ca Ra Wb Va qa (by decide) (hVa) (hqa) (fun x hx => (hvq x).mpr hx) (hsn) (fun c hc h1 h2 => by rcases hW.nb.cases hc (show 0 < 4 by omega) with z | z | z; (omega); (exact hc0 c (by omega) h1 h2); (omega)) (fun y s _ _ h1 h2 => absurd ((hvq y).mp h1) h2) (by omega) (by decide)
      · refine g_aload_n X dX1_spread_22 rfl 0 rfl ?_
        refine g_getf (T := TX1) (v := .ref g) X dX1_spread_23 0 rfl rfl in_X1_spread_X1 0 (by decide) (by decide +kernel) rfl rfl ?_
        refine g_iload_n X dX1_spread_26 rfl 2 rfl ?_
        refine g_iconst (v := nI 0) X dX1_spread_27 (by decide) ?_
        refine g_callVi (C := RX2) (As := [.int (nI i), .int (nI 0)]) (rest := []) (wr := [(fo, .inr (1, [.ref g, .ref hN, .ref wN, .ref q0])), (hN, .inr (3, [.ref hA])), (hA, .inl (ai, 42, .inl Hf)), (wN, .inr (3, [.ref wtA])), (wtA, .inl (ai, 42, .inl Wa)), (q0, .inr (0, [.ref r, .ref w, .int (nI 0), .int (nI ca)])), (r, .inr (3, [.ref ra])), (ra, .inl (ai, 42, .inl Ra)), (w, .inr (3, [.ref wa])), (wa, .inl (ai, 42, .inl Wb))]) X dX1_spread_28 (c_X2_leadsTo l D ai az al g L la Lf wc nb i 0 (by omega) (by decide) (hL)) gX1_spread_X2_leadsTo rfl rfl ok_X2_leadsTo rfl rfl (by decide) ⟨by decide, by decide⟩ (Nat.le_of_ble_eq_true rfl) [1, 2, 3] [0, 4, 5, 6, 7, 8, 9, 10, 11, 12] ⟨rfl, by decide, rfl, by decide, by decide⟩ 0 rfl rfl rfl (fun r7 u hp => ?_)
        obtain rfl := hp
        refine g_sub (k := 0) (n := 0) (ws' := [(fo, .inr (1, [.ref g, .ref hN, .ref wN, .ref q0])), (g, .inr (2, [.ref L, .int wc])), (L, .inr (3, [.ref la])), (la, .inl (ai, 168, .inl Lf)), (hN, .inr (3, [.ref hA])), (hA, .inl (ai, 42, .inl Hf)), (wN, .inr (3, [.ref wtA])), (wtA, .inl (ai, 42, .inl Wa)), (q0, .inr (0, [.ref r, .ref w, .int (nI 0), .int (nI ca)])), (r, .inr (3, [.ref ra])), (ra, .inl (ai, 42, .inl Ra)), (w, .inr (3, [.ref wa])), (wa, .inl (ai, 42, .inl Wb))]) [0, 10, 11, 12, 1, 2, 3, 4, 5, 6, 7, 8, 9] (by decide) rfl ?_
        refine g_iconst (v := (-1)) X dX1_spread_31 (by decide) ?_
        refine g_icmp_ne (tgt := 41) X dX1_spread_32 (by decide) (fun b32 => ?_) (fun b32 => ?_)
        · refine g_iinc (v := nI (i + 1)) (lv' := [(2, .int (nI (i + 1))), (0, .ref fo), (1, .int (nI lv))]) X dX1_spread_41 2 rfl (nI_inc _) (by decide) rfl ?_
          refine g_goto (tgt := 16) X dX1_spread_44 (by decide) ?_
          refine g_lv (lv' := [(0, .ref fo), (1, .int (nI lv)), (2, .int (nI (i + 1)))]) [1, 2, 0] rfl ?_
          exact ih16 (i + 1) Wa _ Ra Wb Va qa (by omega) (hVa) (hqa) (hvq) (hsn) (fun c hc h1 h2 => by by_cases e : c = i; (subst e; exact absurd ((cd_m1 (hL c 0 (by omega) (by decide)).2).mpr h2) b32); exact hc0 c (by omega) h1 h2) (hcn) (by omega)
        · have hsea : nb i 0 = 42 := (cd_m1 (hL i 0 (by omega) (by decide)).2).mp b32
          refine g_aload_n X dX1_spread_35 rfl 0 rfl ?_
          refine g_iload_n X dX1_spread_36 rfl 2 rfl ?_
          refine g_iload_n X dX1_spread_37 rfl 1 rfl ?_
          refine g_callVv (C := RX1) (As := [.int (nI i), .int (nI lv)]) (rest := []) (wr := [(g, .inr (2, [.ref L, .int wc])), (L, .inr (3, [.ref la])), (la, .inl (ai, 168, .inl Lf))]) X dX1_spread_38 (c_X1_soakN l D ai az al fo g hN wN q0 hA Hf wtA Wa r ra w wa 0 ca Ra Wb h Va lv i qa (by omega) (hH) (hb) (hVa) (hqa) (hlv) (fun x hx => (hvq x).mpr hx)) gX1_spread_X1_soak rfl rfl ok_X1_soak rfl rfl (by decide) ⟨by decide, by decide⟩ (Nat.le_of_ble_eq_true rfl) [0, 4, 5, 6, 7, 8, 9, 10, 11, 12] [1, 2, 3] ⟨rfl, by decide, rfl, by decide, by decide⟩ 0 rfl rfl rfl (fun u hp => ?_)
          obtain ⟨W5, c5, R5, W6, V5, q5⟩ := u
          try dsimp only at hp
          obtain ⟨hV5, hq5, hk5⟩ := hp
          refine g_sub (k := 0) (n := 0) (ws' := [(fo, .inr (1, [.ref g, .ref hN, .ref wN, .ref q0])), (g, .inr (2, [.ref L, .int wc])), (L, .inr (3, [.ref la])), (la, .inl (ai, 168, .inl Lf)), (hN, .inr (3, [.ref hA])), (hA, .inl (ai, 42, .inl Hf)), (wN, .inr (3, [.ref wtA])), (wtA, .inl (ai, 42, .inl W5)), (q0, .inr (0, [.ref r, .ref w, .int (nI 0), .int (nI c5)])), (r, .inr (3, [.ref ra])), (ra, .inl (ai, 42, .inl R5)), (w, .inr (3, [.ref wa])), (wa, .inl (ai, 42, .inl W6))]) [3, 0, 1, 2, 4, 5, 6, 7, 8, 9, 10, 11, 12] (by decide) rfl ?_
          refine g_iinc (v := nI (i + 1)) (lv' := [(2, .int (nI (i + 1))), (0, .ref fo), (1, .int (nI lv))]) X dX1_spread_41 2 rfl (nI_inc _) (by decide) rfl ?_
          refine g_goto (tgt := 16) X dX1_spread_44 (by decide) ?_
          refine g_lv (lv' := [(0, .ref fo), (1, .int (nI lv)), (2, .int (nI (i + 1)))]) [1, 2, 0] rfl ?_
          exact ih16 (i + 1) W5 c5 R5 W6 V5 q5 (by omega) (hV5) (hq5) (fun x => by rcases hk5 with ⟨k1, k2, k3⟩ | ⟨k1, k2, k3⟩; (subst k2; subst k3; by_cases e : x = i; (subst e; rw [adB_at]; simp); (rw [adB_ne e, hvq x]; simp [e])); (subst k2; subst k3; exact hvq x)) (by rcases hk5 with ⟨k1, k2, k3⟩ | ⟨k1, k2, k3⟩; exact soak_snd hsn k2 (by unfold lowB; simp; exact k1.2.2) (bes_one (s := 0) (by omega) (bs1_sea hsea)); (rw [k2]; exact hsn)) (fun c hc h1 h2 => by have hlo : h c < lv := of_decide_eq_true h1; rcases hk5 with ⟨k1, k2, k3⟩ | ⟨k1, k2, k3⟩; (rw [k2]; by_cases e : c = i; (subst e; exact adB_at _ _); exact adB_of (hc0 c (by omega) h1 h2)); (rw [k2]; by_cases e : c = i; (subst e; cases hv : Va c; exact absurd ⟨by omega, hv, hlo⟩ k1; rfl); exact hc0 c (by omega) h1 h2)) (by rcases hk5 with ⟨k1, k2, k3⟩ | ⟨k1, k2, k3⟩; (rw [k2, k3, cB_ad k1.2.1 (by omega), hcn]; simp); (rw [k2, k3, hcn])) (by omega)
  refine g_lv (lv' := [(0, .ref fo), (1, .int (nI lv)), (2, .int (nI 0))]) [1, 2, 0] rfl ?_
  exact L16 7 0 (fun _ => 0) 0 Rr (fun _ => 0) (fun _ => false) ([]) (by decide) (fun c _ => rfl) (QOK.start) (fun x => by simp) (fun c _ q => by cases q) (fun c hc => absurd hc (by omega)) (by decide) (by decide)

theorem ok_X1_isBesideWater : okName yX1_isBesideWater 1 := by decide +kernel
theorem in_X1_isBesideWater_X1 : ∀ w ∈ u_ws RX1 TX1 4, w ∈ wsX1_isBesideWater := by decide +kernel
set_option maxRecDepth 100000 in
set_option maxHeartbeats 4000000 in
theorem c_X1_isBesideWater (l : Launch) (D : va_G) (ai az al : ClassId) (fo : Nat) (g : Nat) (hN : Nat) (wN : Nat) (q0 : Nat) (L : Nat) (la : Nat) (Lf : Nat → Int32) (wc : Int32) (nb : Nat → Nat → Nat) (wtA : Nat) (Wf : Nat → Int32) (V : Nat → Bool) (c : Nat) (hc : c < 42) (hL : LeadsOK Lf nb) (hV : POK Wf V) : CI l D (tY ai az al) yX1_isBesideWater wsX1_isBesideWater { frames := 2, cells := 0, slots := 0, locals := 43 } [.ref fo, .int (nI c)] [(fo, .inr (1, [.ref g, .ref hN, .ref wN, .ref q0])), (g, .inr (2, [.ref L, .int wc])), (L, .inr (3, [.ref la])), (la, .inl (ai, 168, .inl Lf)), (wN, .inr (3, [.ref wtA])), (wtA, .inl (ai, 42, .inl Wf))] (fun (r : Int32) (u : Unit) => r = nI (bn (bes nb V c))) (fun (u : Unit) => [(fo, .inr (1, [.ref g, .ref hN, .ref wN, .ref q0])), (g, .inr (2, [.ref L, .int wc])), (L, .inr (3, [.ref la])), (la, .inl (ai, 168, .inl Lf)), (wN, .inr (3, [.ref wtA])), (wtA, .inl (ai, 42, .inl Wf))]) := by
  refine ofG_I (cc := cX1_isBesideWater) (nL := 4) (lv0 := [(0, .ref fo), (1, .int (nI c))]) (by decide) rfl (Nat.le_of_ble_eq_true rfl) rfl ?_
  intro Γ X E
  refine g_iconst (v := nI 0) X dX1_isBesideWater_0 (by decide) ?_
  refine g_istore_n (lv' := [(2, .int (nI 0)), (0, .ref fo), (1, .int (nI c))]) X dX1_isBesideWater_1 rfl (by decide) rfl ?_
  have L2 : ∀ (fl : Nat) (i : Nat), (i ≤ 4) → (∀ s, s < i → bs1 nb V c s = false) → (5 ≤ i + fl) → G Γ 4 0 0 [(fo, .inr (1, [.ref g, .ref hN, .ref wN, .ref q0])), (g, .inr (2, [.ref L, .int wc])), (L, .inr (3, [.ref la])), (la, .inl (ai, 168, .inl Lf)), (wN, .inr (3, [.ref wtA])), (wtA, .inl (ai, 42, .inl Wf))] [(0, .ref fo), (1, .int (nI c)), (2, .int (nI i))] 2 [] := by
    intro fl
    induction fl with
    | zero => intro i hi hno hm; exact absurd hm (by omega)
    | succ fl ih2 =>
      intro i hi hno hm
      refine g_iload_n X dX1_isBesideWater_2 rfl 2 rfl ?_
      refine g_iconst (v := nI 4) X dX1_isBesideWater_3 (by decide) ?_
      refine g_icmp_geN (tgt := 41) X dX1_isBesideWater_4 (by decide) (by omega) (by omega) (fun b4 => ?_) (fun b4 => ?_)
      · refine g_iconst (v := nI 0) X dX1_isBesideWater_41 (by decide) ?_
        exact g_zret X E dX1_isBesideWater_42 () rfl (by decide) (by decide) (rfl) (by rw [bes_none (fun s hs => hno s (by omega))]; rfl)
      · refine g_aload_n X dX1_isBesideWater_7 rfl 0 rfl ?_
        refine g_getf (T := TX1) (v := .ref g) X dX1_isBesideWater_8 0 rfl rfl in_X1_isBesideWater_X1 0 (by decide) (by decide +kernel) rfl rfl ?_
        refine g_iload_n X dX1_isBesideWater_11 rfl 1 rfl ?_
        refine g_iload_n X dX1_isBesideWater_12 rfl 2 rfl ?_
        refine g_callVi (C := RX2) (As := [.int (nI c), .int (nI i)]) (rest := []) (wr := [(fo, .inr (1, [.ref g, .ref hN, .ref wN, .ref q0])), (wN, .inr (3, [.ref wtA])), (wtA, .inl (ai, 42, .inl Wf))]) X dX1_isBesideWater_13 (c_X2_leadsTo l D ai az al g L la Lf wc nb c i (hc) (by omega) (hL)) gX1_isBesideWater_X2_leadsTo rfl rfl ok_X2_leadsTo rfl rfl (by decide) ⟨by decide, by decide⟩ (Nat.le_of_ble_eq_true rfl) [1, 2, 3] [0, 4, 5] ⟨rfl, by decide, rfl, by decide, by decide⟩ 0 rfl rfl rfl (fun r1 u hp => ?_)
        obtain rfl := hp
        refine g_sub (k := 0) (n := 0) (ws' := [(fo, .inr (1, [.ref g, .ref hN, .ref wN, .ref q0])), (g, .inr (2, [.ref L, .int wc])), (L, .inr (3, [.ref la])), (la, .inl (ai, 168, .inl Lf)), (wN, .inr (3, [.ref wtA])), (wtA, .inl (ai, 42, .inl Wf))]) [0, 3, 4, 5, 1, 2] (by decide) rfl ?_
        refine g_istore_n (lv' := [(3, .int (cd (nb c i))), (0, .ref fo), (1, .int (nI c)), (2, .int (nI i))]) X dX1_isBesideWater_16 rfl (by decide) rfl ?_
        refine g_iload_n X dX1_isBesideWater_17 rfl 0 rfl ?_
        refine g_iconst (v := (-1)) X dX1_isBesideWater_18 (by decide) ?_
        refine g_icmp_eq (tgt := 33) X dX1_isBesideWater_19 (by decide) (fun b19 => ?_) (fun b19 => ?_)
        · refine g_iconst (v := nI 1) X dX1_isBesideWater_33 (by decide) ?_
          exact g_zret X E dX1_isBesideWater_34 () rfl (by decide) (by decide) (rfl) (by first | (rw [bes_one (s := i) (by omega) (bs1_sea ((cd_m1 (hL c i hc (by omega)).2).mp b19))]; rfl) | (rw [bes_one (s := i) (by omega) (bs1_wet hV (hL c i hc (by omega)).2 b30)]; rfl))
        · refine g_aload_n X dX1_isBesideWater_22 rfl 1 rfl ?_
          refine g_getf (T := TX1) (v := .ref wN) X dX1_isBesideWater_23 0 rfl rfl in_X1_isBesideWater_X1 2 (by decide) (by decide +kernel) rfl rfl ?_
          refine g_iload_n X dX1_isBesideWater_26 rfl 0 rfl ?_
          refine g_callVi (C := RX3) (As := [.int (cd (nb c i))]) (rest := []) (wr := [(fo, .inr (1, [.ref g, .ref hN, .ref wN, .ref q0])), (g, .inr (2, [.ref L, .int wc])), (L, .inr (3, [.ref la])), (la, .inl (ai, 168, .inl Lf))]) X dX1_isBesideWater_27 (c_X3_at l D ai az al wN wtA 42 Wf (cd (nb c i)) (by decide)) gX1_isBesideWater_X3_at rfl rfl ok_X3_at rfl rfl (by decide) ⟨by decide, by decide⟩ (Nat.le_of_ble_eq_true rfl) [4, 5] [0, 1, 2, 3] ⟨rfl, by decide, rfl, by decide, by decide⟩ 0 rfl rfl rfl (fun r2 u hp => ?_)
          obtain rfl := hp
          refine g_sub (k := 0) (n := 0) (ws' := [(fo, .inr (1, [.ref g, .ref hN, .ref wN, .ref q0])), (g, .inr (2, [.ref L, .int wc])), (L, .inr (3, [.ref la])), (la, .inl (ai, 168, .inl Lf)), (wN, .inr (3, [.ref wtA])), (wtA, .inl (ai, 42, .inl Wf))]) [0, 1, 2, 3, 4, 5] (by decide) rfl ?_
          refine g_if_eq (tgt := 35) X dX1_isBesideWater_30 (by decide) (fun b30 => ?_) (fun b30 => ?_)
          · refine g_iinc (v := nI (i + 1)) (lv' := [(2, .int (nI (i + 1))), (3, .int (cd (nb c i))), (0, .ref fo), (1, .int (nI c))]) X dX1_isBesideWater_35 3 rfl (nI_inc _) (by decide) rfl ?_
            refine g_goto (tgt := 2) X dX1_isBesideWater_38 (by decide) ?_
            refine g_lv (lv' := [(0, .ref fo), (1, .int (nI c)), (2, .int (nI (i + 1)))]) [2, 3, 0] rfl ?_
            exact ih2 (i + 1) (by omega) (fun s hs => by by_cases e : s = i; (subst e; exact bs1_dry hV (hL c s hc (by omega)).2 (fun q => b19 ((cd_m1 (hL c s hc (by omega)).2).mpr q)) b30); exact hno s (by omega)) (by omega)
          · refine g_iconst (v := nI 1) X dX1_isBesideWater_33 (by decide) ?_
            exact g_zret X E dX1_isBesideWater_34 () rfl (by decide) (by decide) (rfl) (by first | (rw [bes_one (s := i) (by omega) (bs1_sea ((cd_m1 (hL c i hc (by omega)).2).mp b19))]; rfl) | (rw [bes_one (s := i) (by omega) (bs1_wet hV (hL c i hc (by omega)).2 b30)]; rfl))
  refine g_lv (lv' := [(0, .ref fo), (1, .int (nI c)), (2, .int (nI 0))]) [1, 2, 0] rfl ?_
  exact L2 5 0 (by decide) (fun s hs => absurd hs (by omega)) (by decide)

theorem ok_X1_riseOnce : okName yX1_riseOnce 1 := by decide +kernel
theorem in_X1_riseOnce_X1 : ∀ w ∈ u_ws RX1 TX1 4, w ∈ wsX1_riseOnce := by decide +kernel
set_option maxRecDepth 100000 in
set_option maxHeartbeats 4000000 in
theorem c_X1_riseOnce (l : Launch) (D : va_G) (ai az al : ClassId) (fo : Nat) (g : Nat) (hN : Nat) (wN : Nat) (q0 : Nat) (L : Nat) (la : Nat) (Lf : Nat → Int32) (wc : Int32) (nb : Nat → Nat → Nat) (hA : Nat) (Hf : Nat → Int32) (wtA : Nat) (Wf : Nat → Int32) (h : Nat → Nat) (lv : Nat) (V : Nat → Bool) (hL : LeadsOK Lf nb) (hH : HOK Hf h) (hb : ∀ c, c < 42 → h c < 2 ^ 31) (hlv : lv < 2 ^ 31) (hV : POK Wf V) (hsn : ∀ c, c < 42 → V c = true → ∃ k, rch nb (lowB h lv) k c = true) : CI l D (tY ai az al) yX1_riseOnce wsX1_riseOnce { frames := 3, cells := 0, slots := 0, locals := 66 } [.ref fo, .int (nI lv)] [(fo, .inr (1, [.ref g, .ref hN, .ref wN, .ref q0])), (g, .inr (2, [.ref L, .int wc])), (L, .inr (3, [.ref la])), (la, .inl (ai, 168, .inl Lf)), (hN, .inr (3, [.ref hA])), (hA, .inl (ai, 42, .inl Hf)), (wN, .inr (3, [.ref wtA])), (wtA, .inl (ai, 42, .inl Wf))] (fun (r : Int32) (u : (Nat → Int32) × (Nat → Bool) × Bool) => r = nI (bn u.2.2) ∧ POK u.1 u.2.1 ∧ (∀ c, c < 42 → u.2.1 c = true → ∃ k, rch nb (lowB h lv) k c = true) ∧ (u.2.2 = false → ∀ c, c < 42 → lowB h lv c = true → bes nb u.2.1 c = true → u.2.1 c = true) ∧ (u.2.2 = true → cB V 42 < cB u.2.1 42)) (fun (u : (Nat → Int32) × (Nat → Bool) × Bool) => [(fo, .inr (1, [.ref g, .ref hN, .ref wN, .ref q0])), (g, .inr (2, [.ref L, .int wc])), (L, .inr (3, [.ref la])), (la, .inl (ai, 168, .inl Lf)), (hN, .inr (3, [.ref hA])), (hA, .inl (ai, 42, .inl Hf)), (wN, .inr (3, [.ref wtA])), (wtA, .inl (ai, 42, .inl u.1))]) := by
  refine ofG_I (cc := cX1_riseOnce) (nL := 4) (lv0 := [(0, .ref fo), (1, .int (nI lv))]) (by decide) rfl (Nat.le_of_ble_eq_true rfl) rfl ?_
  intro Γ X E
  refine g_iconst (v := nI 0) X dX1_riseOnce_0 (by decide) ?_
  refine g_istore_n (lv' := [(2, .int (nI 0)), (0, .ref fo), (1, .int (nI lv))]) X dX1_riseOnce_1 rfl (by decide) rfl ?_
  refine g_iconst (v := nI 0) X dX1_riseOnce_2 (by decide) ?_
  refine g_istore_n (lv' := [(3, .int (nI 0)), (2, .int (nI 0)), (0, .ref fo), (1, .int (nI lv))]) X dX1_riseOnce_3 rfl (by decide) rfl ?_
  have L4 : ∀ (fl : Nat) (i : Nat) (b : Bool) (Wa : Nat → Int32) (Va : Nat → Bool), (i ≤ 42) → (POK Wa Va) → (∀ c, c < 42 → Va c = true → ∃ k, rch nb (lowB h lv) k c = true) → (∀ c, c < 42 → V c = true → Va c = true) → (b = false → (∀ c, c < 42 → Va c = V c) ∧ ∀ c, c < i → lowB h lv c = true → bes nb Va c = true → Va c = true) → (b = true → cB V 42 < cB Va 42) → (43 ≤ i + fl) → G Γ 4 0 0 [(fo, .inr (1, [.ref g, .ref hN, .ref wN, .ref q0])), (g, .inr (2, [.ref L, .int wc])), (L, .inr (3, [.ref la])), (la, .inl (ai, 168, .inl Lf)), (hN, .inr (3, [.ref hA])), (hA, .inl (ai, 42, .inl Hf)), (wN, .inr (3, [.ref wtA])), (wtA, .inl (ai, 42, .inl Wa))] [(0, .ref fo), (1, .int (nI lv)), (2, .int (nI (bn b))), (3, .int (nI i))] 4 [] := by
    intro fl
    induction fl with
    | zero => intro i b Wa Va hi hVa hsa hge hbf hbt hm; exact absurd hm (by omega)
    | succ fl ih4 =>
      intro i b Wa Va hi hVa hsa hge hbf hbt hm
      refine g_iload_n X dX1_riseOnce_4 rfl 3 rfl ?_
      refine g_bipush (v := nI 42) X dX1_riseOnce_5 (by decide) ?_
      refine g_icmp_geN (tgt := 58) X dX1_riseOnce_7 (by decide) (by omega) (by omega) (fun b7 => ?_) (fun b7 => ?_)
      · refine g_iload_n X dX1_riseOnce_58 rfl 2 rfl ?_
        exact g_zret X E dX1_riseOnce_59 (⟨Wa, Va, b⟩) rfl (by decide) (by decide) (bn_z b) (⟨rfl, hVa, hsa, fun z c hc => (hbf z).2 c (by omega), hbt⟩)
      · refine g_aload_n X dX1_riseOnce_10 rfl 0 rfl ?_
        refine g_getf (T := TX1) (v := .ref wN) X dX1_riseOnce_11 0 rfl rfl in_X1_riseOnce_X1 2 (by decide) (by decide +kernel) rfl rfl ?_
        refine g_iload_n X dX1_riseOnce_14 rfl 3 rfl ?_
        refine g_callVi (C := RX3) (As := [.int (nI i)]) (rest := []) (wr := [(fo, .inr (1, [.ref g, .ref hN, .ref wN, .ref q0])), (g, .inr (2, [.ref L, .int wc])), (L, .inr (3, [.ref la])), (la, .inl (ai, 168, .inl Lf)), (hN, .inr (3, [.ref hA])), (hA, .inl (ai, 42, .inl Hf))]) X dX1_riseOnce_15 (c_X3_atN l D ai az al wN wtA 42 Wa i (by decide) (by omega)) gX1_riseOnce_X3_at rfl rfl ok_X3_at rfl rfl (by decide) ⟨by decide, by decide⟩ (Nat.le_of_ble_eq_true rfl) [6, 7] [0, 1, 2, 3, 4, 5] ⟨rfl, by decide, rfl, by decide, by decide⟩ 0 rfl rfl rfl (fun r1 u hp => ?_)
        obtain rfl := hp
        refine g_sub (k := 0) (n := 0) (ws' := [(fo, .inr (1, [.ref g, .ref hN, .ref wN, .ref q0])), (g, .inr (2, [.ref L, .int wc])), (L, .inr (3, [.ref la])), (la, .inl (ai, 168, .inl Lf)), (hN, .inr (3, [.ref hA])), (hA, .inl (ai, 42, .inl Hf)), (wN, .inr (3, [.ref wtA])), (wtA, .inl (ai, 42, .inl Wa))]) [0, 1, 2, 3, 4, 5, 6, 7] (by decide) rfl ?_
        refine g_if_ne (tgt := 52) X dX1_riseOnce_18 (by decide) (fun b18 => ?_) (fun b18 => ?_)
        · refine g_iinc (v := nI (i + 1)) (lv' := [(3, .int (nI (i + 1))), (0, .ref fo), (1, .int (nI lv)), (2, .int (nI (bn b)))]) X dX1_riseOnce_52 3 rfl (nI_inc _) (by decide) rfl ?_
          refine g_goto (tgt := 4) X dX1_riseOnce_55 (by decide) ?_
          refine g_lv (lv' := [(0, .ref fo), (1, .int (nI lv)), (2, .int (nI (bn b))), (3, .int (nI (i + 1)))]) [1, 2, 3, 0] rfl ?_
          exact ih4 (i + 1) b Wa Va (by omega) (hVa) (hsa) (hge) (fun z => ⟨(hbf z).1, fun c hc h1 h2 => by by_cases e : c = i; (subst e; first | (cases hv : Va c; exact absurd ((hVa.z (by omega)).mpr hv) b18; rfl) | (have := of_decide_eq_true h1; omega) | (rw [bn_0.mp b38] at h2; cases h2)); exact (hbf z).2 c (by omega) h1 h2⟩) (hbt) (by omega)
        · refine g_aload_n X dX1_riseOnce_21 rfl 0 rfl ?_
          refine g_getf (T := TX1) (v := .ref hN) X dX1_riseOnce_22 0 rfl rfl in_X1_riseOnce_X1 1 (by decide) (by decide +kernel) rfl rfl ?_
          refine g_iload_n X dX1_riseOnce_25 rfl 3 rfl ?_
          refine g_callVi (C := RX3) (As := [.int (nI i)]) (rest := []) (wr := [(fo, .inr (1, [.ref g, .ref hN, .ref wN, .ref q0])), (g, .inr (2, [.ref L, .int wc])), (L, .inr (3, [.ref la])), (la, .inl (ai, 168, .inl Lf)), (wN, .inr (3, [.ref wtA])), (wtA, .inl (ai, 42, .inl Wa))]) X dX1_riseOnce_26 (c_X3_atN l D ai az al hN hA 42 Hf i (by decide) (by omega)) gX1_riseOnce_X3_at rfl rfl ok_X3_at rfl rfl (by decide) ⟨by decide, by decide⟩ (Nat.le_of_ble_eq_true rfl) [4, 5] [0, 1, 2, 3, 6, 7] ⟨rfl, by decide, rfl, by decide, by decide⟩ 0 rfl rfl rfl (fun r2 u hp => ?_)
          obtain rfl := hp
          refine g_sub (k := 0) (n := 0) (ws' := [(fo, .inr (1, [.ref g, .ref hN, .ref wN, .ref q0])), (g, .inr (2, [.ref L, .int wc])), (L, .inr (3, [.ref la])), (la, .inl (ai, 168, .inl Lf)), (hN, .inr (3, [.ref hA])), (hA, .inl (ai, 42, .inl Hf)), (wN, .inr (3, [.ref wtA])), (wtA, .inl (ai, 42, .inl Wa))]) [0, 1, 2, 3, 6, 7, 4, 5] (by decide) rfl ?_
          rw [hH i (by omega)]
          refine g_iload_n X dX1_riseOnce_29 rfl 1 rfl ?_
          refine g_icmp_geN (tgt := 52) X dX1_riseOnce_30 (by decide) (hb i (by omega)) hlv (fun b30 => ?_) (fun b30 => ?_)
          · refine g_iinc (v := nI (i + 1)) (lv' := [(3, .int (nI (i + 1))), (0, .ref fo), (1, .int (nI lv)), (2, .int (nI (bn b)))]) X dX1_riseOnce_52 3 rfl (nI_inc _) (by decide) rfl ?_
            refine g_goto (tgt := 4) X dX1_riseOnce_55 (by decide) ?_
            refine g_lv (lv' := [(0, .ref fo), (1, .int (nI lv)), (2, .int (nI (bn b))), (3, .int (nI (i + 1)))]) [1, 2, 3, 0] rfl ?_
            exact ih4 (i + 1) b Wa Va (by omega) (hVa) (hsa) (hge) (fun z => ⟨(hbf z).1, fun c hc h1 h2 => by by_cases e : c = i; (subst e; first | (cases hv : Va c; exact absurd ((hVa.z (by omega)).mpr hv) b18; rfl) | (have := of_decide_eq_true h1; omega) | (rw [bn_0.mp b38] at h2; cases h2)); exact (hbf z).2 c (by omega) h1 h2⟩) (hbt) (by omega)
          · refine g_aload_n X dX1_riseOnce_33 rfl 0 rfl ?_
            refine g_iload_n X dX1_riseOnce_34 rfl 3 rfl ?_
            refine g_callVi (C := RX1) (As := [.int (nI i)]) (rest := []) (wr := [(hN, .inr (3, [.ref hA])), (hA, .inl (ai, 42, .inl Hf))]) X dX1_riseOnce_35 (c_X1_isBesideWater l D ai az al fo g hN wN q0 L la Lf wc nb wtA Wa Va i (by omega) (hL) (hVa)) gX1_riseOnce_X1_isBesideWater rfl rfl ok_X1_isBesideWater rfl rfl (by decide) ⟨by decide, by decide⟩ (Nat.le_of_ble_eq_true rfl) [0, 1, 2, 3, 6, 7] [4, 5] ⟨rfl, by decide, rfl, by decide, by decide⟩ 0 rfl rfl rfl (fun r3 u hp => ?_)
            obtain rfl := hp
            refine g_sub (k := 0) (n := 0) (ws' := [(fo, .inr (1, [.ref g, .ref hN, .ref wN, .ref q0])), (g, .inr (2, [.ref L, .int wc])), (L, .inr (3, [.ref la])), (la, .inl (ai, 168, .inl Lf)), (hN, .inr (3, [.ref hA])), (hA, .inl (ai, 42, .inl Hf)), (wN, .inr (3, [.ref wtA])), (wtA, .inl (ai, 42, .inl Wa))]) [2, 3, 4, 5, 0, 1, 6, 7] (by decide) rfl ?_
            refine g_if_eqN (tgt := 52) X dX1_riseOnce_38 (by decide) (bn_lt _) (fun b38 => ?_) (fun b38 => ?_)
            · refine g_iinc (v := nI (i + 1)) (lv' := [(3, .int (nI (i + 1))), (0, .ref fo), (1, .int (nI lv)), (2, .int (nI (bn b)))]) X dX1_riseOnce_52 3 rfl (nI_inc _) (by decide) rfl ?_
              refine g_goto (tgt := 4) X dX1_riseOnce_55 (by decide) ?_
              refine g_lv (lv' := [(0, .ref fo), (1, .int (nI lv)), (2, .int (nI (bn b))), (3, .int (nI (i + 1)))]) [1, 2, 3, 0] rfl ?_
              exact ih4 (i + 1) b Wa Va (by omega) (hVa) (hsa) (hge) (fun z => ⟨(hbf z).1, fun c hc h1 h2 => by by_cases e : c = i; (subst e; first | (cases hv : Va c; exact absurd ((hVa.z (by omega)).mpr hv) b18; rfl) | (have := of_decide_eq_true h1; omega) | (rw [bn_0.mp b38] at h2; cases h2)); exact (hbf z).2 c (by omega) h1 h2⟩) (hbt) (by omega)
            · have hv0 : Va i = false := (hVa.z (by omega)).mp b18
              have hli : lowB h lv i = true := decide_eq_true b30
              have hbi : bes nb Va i = true := bn_n.mp b38
              refine g_aload_n X dX1_riseOnce_41 rfl 0 rfl ?_
              refine g_getf (T := TX1) (v := .ref wN) X dX1_riseOnce_42 0 rfl rfl in_X1_riseOnce_X1 2 (by decide) (by decide +kernel) rfl rfl ?_
              refine g_iload_n X dX1_riseOnce_45 rfl 3 rfl ?_
              refine g_iconst (v := nI 1) X dX1_riseOnce_46 (by decide) ?_
              refine g_callVv (C := RX3) (As := [.int (nI i), .int (nI 1)]) (rest := []) (wr := [(fo, .inr (1, [.ref g, .ref hN, .ref wN, .ref q0])), (g, .inr (2, [.ref L, .int wc])), (L, .inr (3, [.ref la])), (la, .inl (ai, 168, .inl Lf)), (hN, .inr (3, [.ref hA])), (hA, .inl (ai, 42, .inl Hf))]) X dX1_riseOnce_47 (c_X3_putN l D ai az al wN wtA 42 Wa i (nI 1) (by decide) (by omega)) gX1_riseOnce_X3_put rfl rfl ok_X3_put rfl rfl (by decide) ⟨by decide, by decide⟩ (Nat.le_of_ble_eq_true rfl) [6, 7] [0, 1, 2, 3, 4, 5] ⟨rfl, by decide, rfl, by decide, by decide⟩ 0 rfl rfl rfl (fun u hp => ?_)
              refine g_sub (k := 0) (n := 0) (ws' := [(fo, .inr (1, [.ref g, .ref hN, .ref wN, .ref q0])), (g, .inr (2, [.ref L, .int wc])), (L, .inr (3, [.ref la])), (la, .inl (ai, 168, .inl Lf)), (hN, .inr (3, [.ref hA])), (hA, .inl (ai, 42, .inl Hf)), (wN, .inr (3, [.ref wtA])), (wtA, .inl (ai, 42, .inl (upd Wa i ((nI 1)))))]) [0, 1, 2, 3, 4, 5, 6, 7] (by decide) rfl ?_
              refine g_iconst (v := nI 1) X dX1_riseOnce_50 (by decide) ?_
              refine g_istore_n (lv' := [(2, .int (nI 1)), (0, .ref fo), (1, .int (nI lv)), (3, .int (nI i))]) X dX1_riseOnce_51 rfl (by decide) rfl ?_
              refine g_iinc (v := nI (i + 1)) (lv' := [(3, .int (nI (i + 1))), (2, .int (nI 1)), (0, .ref fo), (1, .int (nI lv))]) X dX1_riseOnce_52 3 rfl (nI_inc _) (by decide) rfl ?_
              refine g_goto (tgt := 4) X dX1_riseOnce_55 (by decide) ?_
              refine g_lv (lv' := [(0, .ref fo), (1, .int (nI lv)), (2, .int (nI 1)), (3, .int (nI (i + 1)))]) [2, 3, 1, 0] rfl ?_
              exact ih4 (i + 1) true (upd Wa i ((nI 1))) (adB Va i) (by omega) (hVa.ad) (soak_snd hsa rfl hli hbi) (fun c hc q => adB_of (hge c hc q)) (fun z => by cases z) (fun _ => by have q := cB_ad (n := 42) hv0 (by omega); have q2 := cB_mono (n := 42) hge; omega) (by omega)
  refine g_lv (lv' := [(0, .ref fo), (1, .int (nI lv)), (2, .int (nI 0)), (3, .int (nI 0))]) [2, 3, 1, 0] rfl ?_
  exact L4 43 0 false Wf V (by decide) (hV) (hsn) (fun c _ q => q) (fun _ => ⟨fun c _ => rfl, fun c hc => absurd hc (by omega)⟩) (fun z => by cases z) (by decide)

theorem ok_X1_spreadByRounds : okName yX1_spreadByRounds 1 := by decide +kernel
theorem in_X1_spreadByRounds_X1 : ∀ w ∈ u_ws RX1 TX1 4, w ∈ wsX1_spreadByRounds := by decide +kernel
set_option maxRecDepth 100000 in
set_option maxHeartbeats 4000000 in
theorem c_X1_spreadByRounds (l : Launch) (D : va_G) (ai az al : ClassId) (fo : Nat) (g : Nat) (hN : Nat) (wN : Nat) (q0 : Nat) (L : Nat) (la : Nat) (Lf : Nat → Int32) (wc : Int32) (nb : Nat → Nat → Nat) (hA : Nat) (Hf : Nat → Int32) (wtA : Nat) (Wf : Nat → Int32) (h : Nat → Nat) (lv : Nat) (hL : LeadsOK Lf nb) (hH : HOK Hf h) (hb : ∀ c, c < 42 → h c < 2 ^ 31) (hlv : lv < 2 ^ 31) : CI l D (tY ai az al) yX1_spreadByRounds wsX1_spreadByRounds { frames := 4, cells := 0, slots := 0, locals := 89 } [.ref fo, .int (nI lv)] [(fo, .inr (1, [.ref g, .ref hN, .ref wN, .ref q0])), (g, .inr (2, [.ref L, .int wc])), (L, .inr (3, [.ref la])), (la, .inl (ai, 168, .inl Lf)), (hN, .inr (3, [.ref hA])), (hA, .inl (ai, 42, .inl Hf)), (wN, .inr (3, [.ref wtA])), (wtA, .inl (ai, 42, .inl Wf))] (fun (r : Int32) (u : (Nat → Int32) × (Nat → Bool)) => r = nI (cB u.2 42) ∧ FL nb (lowB h lv) u.2 ∧ POK u.1 u.2) (fun (u : (Nat → Int32) × (Nat → Bool)) => [(fo, .inr (1, [.ref g, .ref hN, .ref wN, .ref q0])), (g, .inr (2, [.ref L, .int wc])), (L, .inr (3, [.ref la])), (la, .inl (ai, 168, .inl Lf)), (hN, .inr (3, [.ref hA])), (hA, .inl (ai, 42, .inl Hf)), (wN, .inr (3, [.ref wtA])), (wtA, .inl (ai, 42, .inl u.1))]) := by
  refine ofG_I (cc := cX1_spreadByRounds) (nL := 4) (lv0 := [(0, .ref fo), (1, .int (nI lv))]) (by decide) rfl (Nat.le_of_ble_eq_true rfl) rfl ?_
  intro Γ X E
  refine g_aload_n X dX1_spreadByRounds_0 rfl 0 rfl ?_
  refine g_getf (T := TX1) (v := .ref wN) X dX1_spreadByRounds_1 0 rfl rfl in_X1_spreadByRounds_X1 2 (by decide) (by decide +kernel) rfl rfl ?_
  refine g_callVv (C := RX3) (As := []) (rest := []) (wr := [(fo, .inr (1, [.ref g, .ref hN, .ref wN, .ref q0])), (g, .inr (2, [.ref L, .int wc])), (L, .inr (3, [.ref la])), (la, .inl (ai, 168, .inl Lf)), (hN, .inr (3, [.ref hA])), (hA, .inl (ai, 42, .inl Hf))]) X dX1_spreadByRounds_4 (c_X3_clear l D ai az al wN wtA 42 Wf (by decide)) gX1_spreadByRounds_X3_clear rfl rfl ok_X3_clear rfl rfl (by decide) ⟨by decide, by decide⟩ (Nat.le_of_ble_eq_true rfl) [6, 7] [0, 1, 2, 3, 4, 5] ⟨rfl, by decide, rfl, by decide, by decide⟩ 0 rfl rfl rfl (fun u hp => ?_)
  refine g_sub (k := 0) (n := 0) (ws' := [(fo, .inr (1, [.ref g, .ref hN, .ref wN, .ref q0])), (g, .inr (2, [.ref L, .int wc])), (L, .inr (3, [.ref la])), (la, .inl (ai, 168, .inl Lf)), (hN, .inr (3, [.ref hA])), (hA, .inl (ai, 42, .inl Hf)), (wN, .inr (3, [.ref wtA])), (wtA, .inl (ai, 42, .inl (fun _ => 0)))]) [0, 1, 2, 3, 4, 5, 6, 7] (by decide) rfl ?_
  refine g_iconst (v := nI 1) X dX1_spreadByRounds_7 (by decide) ?_
  refine g_istore_n (lv' := [(2, .int (nI 1)), (0, .ref fo), (1, .int (nI lv))]) X dX1_spreadByRounds_8 rfl (by decide) rfl ?_
  refine g_iconst (v := nI 0) X dX1_spreadByRounds_9 (by decide) ?_
  refine g_istore_n (lv' := [(3, .int (nI 0)), (2, .int (nI 1)), (0, .ref fo), (1, .int (nI lv))]) X dX1_spreadByRounds_10 rfl (by decide) rfl ?_
  have L11 : ∀ (fl : Nat) (i : Nat) (b : Bool) (Wa : Nat → Int32) (Va : Nat → Bool), (i ≤ 43) → (POK Wa Va) → (∀ c, c < 42 → Va c = true → ∃ k, rch nb (lowB h lv) k c = true) → (b = false → ∀ c, c < 42 → lowB h lv c = true → bes nb Va c = true → Va c = true) → (b = true → i ≤ cB Va 42) → (44 ≤ i + fl) → G Γ 4 0 0 [(fo, .inr (1, [.ref g, .ref hN, .ref wN, .ref q0])), (g, .inr (2, [.ref L, .int wc])), (L, .inr (3, [.ref la])), (la, .inl (ai, 168, .inl Lf)), (hN, .inr (3, [.ref hA])), (hA, .inl (ai, 42, .inl Hf)), (wN, .inr (3, [.ref wtA])), (wtA, .inl (ai, 42, .inl Wa))] [(0, .ref fo), (1, .int (nI lv)), (2, .int (nI (bn b))), (3, .int (nI i))] 11 [] := by
    intro fl
    induction fl with
    | zero => intro i b Wa Va hi hVa hsa hbf hbt hm; exact absurd hm (by omega)
    | succ fl ih11 =>
      intro i b Wa Va hi hVa hsa hbf hbt hm
      have hcl := cB_le Va 42
      refine g_iload_n X dX1_spreadByRounds_11 rfl 3 rfl ?_
      refine g_bipush (v := nI 42) X dX1_spreadByRounds_12 (by decide) ?_
      refine g_icmp_gtN (tgt := 33) X dX1_spreadByRounds_14 (by decide) (by omega) (by omega) (fun b14 => ?_) (fun b14 => ?_)
      · refine g_aload_n X dX1_spreadByRounds_33 rfl 0 rfl ?_
        refine g_getf (T := TX1) (v := .ref wN) X dX1_spreadByRounds_34 0 rfl rfl in_X1_spreadByRounds_X1 2 (by decide) (by decide +kernel) rfl rfl ?_
        refine g_callVi (C := RX3) (As := []) (rest := []) (wr := [(fo, .inr (1, [.ref g, .ref hN, .ref wN, .ref q0])), (g, .inr (2, [.ref L, .int wc])), (L, .inr (3, [.ref la])), (la, .inl (ai, 168, .inl Lf)), (hN, .inr (3, [.ref hA])), (hA, .inl (ai, 42, .inl Hf))]) X dX1_spreadByRounds_37 (c_X3_total l D ai az al wN wtA 42 Wa (by decide)) gX1_spreadByRounds_X3_total rfl rfl ok_X3_total rfl rfl (by decide) ⟨by decide, by decide⟩ (Nat.le_of_ble_eq_true rfl) [6, 7] [0, 1, 2, 3, 4, 5] ⟨rfl, by decide, rfl, by decide, by decide⟩ 0 rfl rfl rfl (fun r1 u hp => ?_)
        obtain rfl := hp
        refine g_sub (k := 0) (n := 0) (ws' := [(fo, .inr (1, [.ref g, .ref hN, .ref wN, .ref q0])), (g, .inr (2, [.ref L, .int wc])), (L, .inr (3, [.ref la])), (la, .inl (ai, 168, .inl Lf)), (hN, .inr (3, [.ref hA])), (hA, .inl (ai, 42, .inl Hf)), (wN, .inr (3, [.ref wtA])), (wtA, .inl (ai, 42, .inl Wa))]) [0, 1, 2, 3, 4, 5, 6, 7] (by decide) rfl ?_
        exact g_iret X E dX1_spreadByRounds_40 (⟨Wa, Va⟩) rfl (by decide) (by decide) (⟨sumI_N hVa, ⟨hsa, hbf (by first | exact bn_0.mp b18 | (cases hz : b; rfl; have := hbt hz; omega))⟩, hVa⟩)
      · refine g_iload_n X dX1_spreadByRounds_17 rfl 2 rfl ?_
        refine g_if_eqN (tgt := 33) X dX1_spreadByRounds_18 (by decide) (bn_lt _) (fun b18 => ?_) (fun b18 => ?_)
        · refine g_aload_n X dX1_spreadByRounds_33 rfl 0 rfl ?_
          refine g_getf (T := TX1) (v := .ref wN) X dX1_spreadByRounds_34 0 rfl rfl in_X1_spreadByRounds_X1 2 (by decide) (by decide +kernel) rfl rfl ?_
          refine g_callVi (C := RX3) (As := []) (rest := []) (wr := [(fo, .inr (1, [.ref g, .ref hN, .ref wN, .ref q0])), (g, .inr (2, [.ref L, .int wc])), (L, .inr (3, [.ref la])), (la, .inl (ai, 168, .inl Lf)), (hN, .inr (3, [.ref hA])), (hA, .inl (ai, 42, .inl Hf))]) X dX1_spreadByRounds_37 (c_X3_total l D ai az al wN wtA 42 Wa (by decide)) gX1_spreadByRounds_X3_total rfl rfl ok_X3_total rfl rfl (by decide) ⟨by decide, by decide⟩ (Nat.le_of_ble_eq_true rfl) [6, 7] [0, 1, 2, 3, 4, 5] ⟨rfl, by decide, rfl, by decide, by decide⟩ 0 rfl rfl rfl (fun r2 u hp => ?_)
          obtain rfl := hp
          refine g_sub (k := 0) (n := 0) (ws' := [(fo, .inr (1, [.ref g, .ref hN, .ref wN, .ref q0])), (g, .inr (2, [.ref L, .int wc])), (L, .inr (3, [.ref la])), (la, .inl (ai, 168, .inl Lf)), (hN, .inr (3, [.ref hA])), (hA, .inl (ai, 42, .inl Hf)), (wN, .inr (3, [.ref wtA])), (wtA, .inl (ai, 42, .inl Wa))]) [0, 1, 2, 3, 4, 5, 6, 7] (by decide) rfl ?_
          exact g_iret X E dX1_spreadByRounds_40 (⟨Wa, Va⟩) rfl (by decide) (by decide) (⟨sumI_N hVa, ⟨hsa, hbf (by first | exact bn_0.mp b18 | (cases hz : b; rfl; have := hbt hz; omega))⟩, hVa⟩)
        · refine g_aload_n X dX1_spreadByRounds_21 rfl 0 rfl ?_
          refine g_iload_n X dX1_spreadByRounds_22 rfl 1 rfl ?_
          refine g_callVi (C := RX1) (As := [.int (nI lv)]) (rest := []) (wr := []) X dX1_spreadByRounds_23 (c_X1_riseOnce l D ai az al fo g hN wN q0 L la Lf wc nb hA Hf wtA Wa h lv Va (hL) (hH) (hb) (hlv) (hVa) (hsa)) gX1_spreadByRounds_X1_riseOnce rfl rfl ok_X1_riseOnce rfl rfl (by decide) ⟨by decide, by decide⟩ (Nat.le_of_ble_eq_true rfl) [0, 1, 2, 3, 4, 5, 6, 7] [] ⟨rfl, by decide, rfl, by decide, by decide⟩ 0 rfl rfl rfl (fun r3 u hp => ?_)
          obtain ⟨W5, V5, b5⟩ := u
          try dsimp only at hp
          obtain ⟨rfl, hV5, hs5, hc5, hg5⟩ := hp
          refine g_sub (k := 0) (n := 0) (ws' := [(fo, .inr (1, [.ref g, .ref hN, .ref wN, .ref q0])), (g, .inr (2, [.ref L, .int wc])), (L, .inr (3, [.ref la])), (la, .inl (ai, 168, .inl Lf)), (hN, .inr (3, [.ref hA])), (hA, .inl (ai, 42, .inl Hf)), (wN, .inr (3, [.ref wtA])), (wtA, .inl (ai, 42, .inl W5))]) [0, 1, 2, 3, 4, 5, 6, 7] (by decide) rfl ?_
          refine g_istore_n (lv' := [(2, .int (nI (bn b5))), (0, .ref fo), (1, .int (nI lv)), (3, .int (nI i))]) X dX1_spreadByRounds_26 rfl (by decide) rfl ?_
          refine g_iinc (v := nI (i + 1)) (lv' := [(3, .int (nI (i + 1))), (2, .int (nI (bn b5))), (0, .ref fo), (1, .int (nI lv))]) X dX1_spreadByRounds_27 3 rfl (nI_inc _) (by decide) rfl ?_
          refine g_goto (tgt := 11) X dX1_spreadByRounds_30 (by decide) ?_
          refine g_lv (lv' := [(0, .ref fo), (1, .int (nI lv)), (2, .int (nI (bn b5))), (3, .int (nI (i + 1)))]) [2, 3, 1, 0] rfl ?_
          exact ih11 (i + 1) b5 W5 V5 (by omega) (hV5) (hs5) (hc5) (fun z => by have q1 := hbt (bn_n.mp b18); have q2 := hg5 z; omega) (by omega)
  refine g_lv (lv' := [(0, .ref fo), (1, .int (nI lv)), (2, .int (nI 1)), (3, .int (nI 0))]) [2, 3, 1, 0] rfl ?_
  exact L11 44 0 true (fun _ => 0) (fun _ => false) (by decide) (fun c _ => rfl) (fun c _ q => by cases q) (fun z => by cases z) (fun _ => Nat.zero_le _) (by decide)

theorem ok_X1_init : okName yX1_init 2 := by decide +kernel
theorem in_X1_init_X3 : ∀ w ∈ u_ws RX3 TX3 1, w ∈ wsX1_init := by decide +kernel
theorem in_X1_init_X1 : ∀ w ∈ u_ws RX1 TX1 4, w ∈ wsX1_init := by decide +kernel
theorem in_X1_init_X0 : ∀ w ∈ u_ws RX0 TX0 4, w ∈ wsX1_init := by decide +kernel
set_option maxRecDepth 100000 in
set_option maxHeartbeats 4000000 in
theorem c_X1_init (l : Launch) (D : va_G) (ai az al : ClassId) (fo : Nat) (g : Nat) (hN : Nat) : CV l D (tY ai az al) yX1_init wsX1_init { frames := 3, cells := 7, slots := 133, locals := 61 } [.ref fo, .ref g, .ref hN] [(fo, .inr (1, [.null, .null, .null, .null]))] (fun (u : Nat × Nat × Nat × Nat × Nat × Nat × Nat) => True) (fun (u : Nat × Nat × Nat × Nat × Nat × Nat × Nat) => [(fo, .inr (1, [.ref g, .ref hN, .ref u.1, .ref u.2.1])), (u.1, .inr (3, [.ref u.2.2.1])), (u.2.2.1, .inl (ai, 42, .inl (fun _ => 0))), (u.2.1, .inr (0, [.ref u.2.2.2.1, .ref u.2.2.2.2.1, .int (nI 0), .int (nI 0)])), (u.2.2.2.1, .inr (3, [.ref u.2.2.2.2.2.1])), (u.2.2.2.2.2.1, .inl (ai, 42, .inl (fun _ => 0))), (u.2.2.2.2.1, .inr (3, [.ref u.2.2.2.2.2.2])), (u.2.2.2.2.2.2, .inl (ai, 42, .inl (fun _ => 0)))]) := by
  refine ofG_V (cc := cX1_init) (nL := 3) (lv0 := [(0, .ref fo), (1, .ref g), (2, .ref hN)]) (by decide) rfl (Nat.le_of_ble_eq_true rfl) rfl ?_
  intro Γ X E hinit
  have hinit := hinit rfl
  refine g_aload_n X dX1_init_0 rfl 0 rfl ?_
  refine g_objInit X dX1_init_1 (by decide +kernel) (by decide +kernel) (by decide +kernel) (by decide) (by decide) ?_
  refine g_aload_n X dX1_init_4 rfl 0 rfl ?_
  refine g_new (T := TX3) (ci := 3) (fs := [.null]) X dX1_init_5 rfl in_X1_init_X3 tyX3 tyX3_ok (by decide +kernel) (by decide +kernel) (by decide +kernel) (by intro j hj; exact fs_X3 j hj) (by decide) (by decide) (fun q1 => ?_)
  refine g_sub (k := 1) (n := 1) (ws' := [(fo, .inr (1, [.null, .null, .null, .null])), (q1, .inr (3, [.null]))]) [0, 1] (by decide) rfl ?_
  refine g_dup X dX1_init_8 rfl ?_
  refine g_bipush (v := nI 42) X dX1_init_9 (by decide) ?_
  refine g_callI (As := [.int (nI 42)]) (rest := [.ref q1, .ref fo]) (wr := [(fo, .inr (1, [.null, .null, .null, .null]))]) X dX1_init_11 (c_X3_init42 l D ai az al q1 ) gX1_init_X3_init rfl (by decide +kernel) (by decide +kernel) (by decide +kernel) rfl ok_X3_init rfl rfl (by decide) ⟨by decide, by decide⟩ (Nat.le_of_ble_eq_true rfl) [1] [0] ⟨rfl, by decide, rfl, by decide, by decide⟩ (fun a2 hp => ?_)
  refine g_sub (k := 2) (n := 43) (ws' := [(fo, .inr (1, [.null, .null, .null, .null])), (q1, .inr (3, [.ref a2])), (a2, .inl (ai, 42, .inl (fun _ => 0)))]) [0, 1, 2] (by decide) rfl ?_
  refine g_putfF (T := TX1) (v := .ref q1) (ty := tyX1 2) (ws' := [(fo, .inr (1, [.null, .null, .ref q1, .null])), (q1, .inr (3, [.ref a2])), (a2, .inl (ai, 42, .inl (fun _ => 0)))]) X dX1_init_14 0 rfl rfl in_X1_init_X1 tyX1 tyX1_ok nmX1 2 (by decide) (by decide +kernel) rfl rfl hinit rfl (by decide +kernel) rfl rfl (Nat.le_of_ble_eq_true rfl) rfl ?_
  refine g_aload_n X dX1_init_17 rfl 0 rfl ?_
  refine g_new (T := TX0) (ci := 0) (fs := [.null, .null, .int (nI 0), .int (nI 0)]) X dX1_init_18 rfl in_X1_init_X0 tyX0 tyX0_ok (by decide +kernel) (by decide +kernel) (by decide +kernel) (by intro j hj; exact fs_X0 j hj) (by decide) (by decide) (fun q3 => ?_)
  refine g_sub (k := 3) (n := 47) (ws' := [(fo, .inr (1, [.null, .null, .ref q1, .null])), (q1, .inr (3, [.ref a2])), (a2, .inl (ai, 42, .inl (fun _ => 0))), (q3, .inr (0, [.null, .null, .int (nI 0), .int (nI 0)]))]) [0, 1, 2, 3] (by decide) rfl ?_
  refine g_dup X dX1_init_21 rfl ?_
  refine g_callIN (As := []) (rest := [.ref q3, .ref fo]) (wr := [(fo, .inr (1, [.null, .null, .ref q1, .null])), (q1, .inr (3, [.ref a2])), (a2, .inl (ai, 42, .inl (fun _ => 0)))]) X dX1_init_22 (c_X0_init l D ai az al q3 ) gX1_init_X0_init_n22 rfl 19 rfl (by decide +kernel) (by decide +kernel) rfl ok_X0_init rfl rfl (by decide) ⟨by decide, by decide⟩ (Nat.le_of_ble_eq_true rfl) [3] [0, 1, 2] ⟨rfl, by decide, rfl, by decide, by decide⟩ (fun u hp => ?_)
  obtain ⟨r4, w5, ra6, wa7⟩ := u
  refine g_sub (k := 7) (n := 133) (ws' := [(fo, .inr (1, [.null, .null, .ref q1, .null])), (q1, .inr (3, [.ref a2])), (a2, .inl (ai, 42, .inl (fun _ => 0))), (q3, .inr (0, [.ref r4, .ref w5, .int (nI 0), .int (nI 0)])), (r4, .inr (3, [.ref ra6])), (ra6, .inl (ai, 42, .inl (fun _ => 0))), (w5, .inr (3, [.ref wa7])), (wa7, .inl (ai, 42, .inl (fun _ => 0)))]) [0, 1, 2, 3, 4, 5, 6, 7] (by decide) rfl ?_
  refine g_putfF (T := TX1) (v := .ref q3) (ty := tyX1 3) (ws' := [(fo, .inr (1, [.null, .null, .ref q1, .ref q3])), (q1, .inr (3, [.ref a2])), (a2, .inl (ai, 42, .inl (fun _ => 0))), (q3, .inr (0, [.ref r4, .ref w5, .int (nI 0), .int (nI 0)])), (r4, .inr (3, [.ref ra6])), (ra6, .inl (ai, 42, .inl (fun _ => 0))), (w5, .inr (3, [.ref wa7])), (wa7, .inl (ai, 42, .inl (fun _ => 0)))]) X dX1_init_25 0 rfl rfl in_X1_init_X1 tyX1 tyX1_ok nmX1 3 (by decide) (by decide +kernel) rfl rfl hinit rfl (by decide +kernel) rfl rfl (Nat.le_of_ble_eq_true rfl) rfl ?_
  refine g_aload_n X dX1_init_28 rfl 0 rfl ?_
  refine g_aload_n X dX1_init_29 rfl 1 rfl ?_
  refine g_putfF (T := TX1) (v := .ref g) (ty := tyX1 0) (ws' := [(fo, .inr (1, [.ref g, .null, .ref q1, .ref q3])), (q1, .inr (3, [.ref a2])), (a2, .inl (ai, 42, .inl (fun _ => 0))), (q3, .inr (0, [.ref r4, .ref w5, .int (nI 0), .int (nI 0)])), (r4, .inr (3, [.ref ra6])), (ra6, .inl (ai, 42, .inl (fun _ => 0))), (w5, .inr (3, [.ref wa7])), (wa7, .inl (ai, 42, .inl (fun _ => 0)))]) X dX1_init_30 0 rfl rfl in_X1_init_X1 tyX1 tyX1_ok nmX1 0 (by decide) (by decide +kernel) rfl rfl hinit rfl (by decide +kernel) rfl rfl (Nat.le_of_ble_eq_true rfl) rfl ?_
  refine g_aload_n X dX1_init_33 rfl 0 rfl ?_
  refine g_aload_n X dX1_init_34 rfl 2 rfl ?_
  refine g_putfF (T := TX1) (v := .ref hN) (ty := tyX1 1) (ws' := [(fo, .inr (1, [.ref g, .ref hN, .ref q1, .ref q3])), (q1, .inr (3, [.ref a2])), (a2, .inl (ai, 42, .inl (fun _ => 0))), (q3, .inr (0, [.ref r4, .ref w5, .int (nI 0), .int (nI 0)])), (r4, .inr (3, [.ref ra6])), (ra6, .inl (ai, 42, .inl (fun _ => 0))), (w5, .inr (3, [.ref wa7])), (wa7, .inl (ai, 42, .inl (fun _ => 0)))]) X dX1_init_35 0 rfl rfl in_X1_init_X1 tyX1 tyX1_ok nmX1 1 (by decide) (by decide +kernel) rfl rfl hinit rfl (by decide +kernel) rfl rfl (Nat.le_of_ble_eq_true rfl) rfl ?_
  exact g_vret X E dX1_init_38 (⟨q1, q3, a2, r4, w5, ra6, wa7⟩) rfl (by decide) (by decide) (trivial)
