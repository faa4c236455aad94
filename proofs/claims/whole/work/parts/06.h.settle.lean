/-! one topple of the model, side by side -/
def tpR (nb : Nat → Nat → Nat) (h : Nat → Nat) (c : Nat) : Nat → Nat → Nat
  | 0 => h
  | i + 1 => if nb c i = 43 then tpR nb h c i else addN (setN (tpR nb h c i) c (tpR nb h c i c - 1)) (nb c i) 1
theorem tpR_s {nb : Nat → Nat → Nat} {h : Nat → Nat} {c i : Nat} (e : ¬ nb c i = 43) : tpR nb h c (i + 1) = addN (setN (tpR nb h c i) c (tpR nb h c i c - 1)) (nb c i) 1 := if_neg e
theorem tpR_0 {nb : Nat → Nat → Nat} {h : Nat → Nat} {c i : Nat} (e : nb c i = 43) : tpR nb h c (i + 1) = tpR nb h c i := if_pos e
theorem tpR_c {nb : Nat → Nat → Nat} {h : Nat → Nat} {c : Nat} : ∀ i, h c ≤ tpR nb h c i c + i
  | 0 => Nat.le_refl _
  | i + 1 => by
    have q := tpR_c (nb := nb) (h := h) (c := c) i
    by_cases e : nb c i = 43
    · rw [tpR_0 e]; omega
    · rw [tpR_s e]
      unfold addN setN
      split <;> (rw [if_pos rfl]; omega)
def ldn (nb : Nat → Nat → Nat) (c : Nat) : Nat → Nat → Int
  | 0, _ => 0
  | i + 1, d => ldn nb c i d + ld nb c i d
theorem setN_i {h : Nat → Nat} {c x d : Nat} : ((setN h c x d : Nat) : Int) = (h d : Int) + (if d = c then (x : Int) - (h c : Int) else 0) := by
  unfold setN
  by_cases e : d = c
  · subst e; rw [if_pos rfl, if_pos rfl]; omega
  · rw [if_neg e, if_neg e]; omega
theorem tpR_i {nb : Nat → Nat → Nat} {h : Nat → Nat} {c : Nat} (h4 : 4 ≤ h c) {d : Nat} (hd : d < 42) : ∀ i, i ≤ 4 → ((tpR nb h c i d : Nat) : Int) = (h d : Int) - (if d = c then ((odn nb c i : Nat) : Int) else 0) + ldn nb c i d
  | 0, _ => by
    show ((h d : Nat) : Int) = (h d : Int) - (if d = c then ((0 : Nat) : Int) else 0) + 0
    split <;> simp
  | i + 1, hi => by
    have q := tpR_i h4 hd (nb := nb) i (by omega)
    have qc := tpR_c (nb := nb) (h := h) (c := c) i
    show _ = (h d : Int) - (if d = c then ((odn nb c (i + 1) : Nat) : Int) else 0) + (ldn nb c i d + ld nb c i d)
    by_cases e : nb c i = 43
    · rw [tpR_0 e, odn_shut e, q]
      unfold ld
      rw [if_neg (show ¬ nb c i = d by omega)]; omega
    · rw [tpR_s e, odn_open e, addN_i, setN_i, q]
      unfold ld
      by_cases z : d = c
      · subst z
        rw [if_pos rfl, if_pos rfl, if_pos rfl]
        by_cases w : nb d i = d
        · rw [if_pos w]; omega
        · rw [if_neg w]; omega
      · rw [if_neg z, if_neg z, if_neg z]
        by_cases w : nb c i = d
        · rw [if_pos w]; omega
        · rw [if_neg w]; omega
theorem SI.congr {nb : Nat → Nat → Nat} {pl : Nat → Bool} {h0 h g u : Nat → Nat} (s : SI nb pl h0 h u) (e : ∀ c, c < 42 → g c = h c) : SI nb pl h0 g u := ⟨fun c hc => by rw [e c hc]; exact s.1 c hc, s.2⟩
theorem tpR_tp {nb : Nat → Nat → Nat} {h : Nat → Nat} {c : Nat} (h4 : 4 ≤ h c) : ∀ d, d < 42 → tpR nb h c 4 d = tp nb h c 1 d := by
  intro d hd
  have q1 := tpR_i h4 hd (nb := nb) 4 (Nat.le_refl 4)
  have ho := odn_le nb c 4
  have q2 := tp_i (nb := nb) (h := h) (c := c) (k := 1) (by omega) d
  rw [odn4] at q1
  have q3 : ldn nb c 4 d = lds nb c d := by
    show 0 + ld nb c 0 d + ld nb c 1 d + ld nb c 2 d + ld nb c 3 d = _
    unfold lds; omega
  rw [q3] at q1
  have e1 : ((1 : Nat) : Int) * dg nb c = dg nb c := by rw [Int.natCast_one, Int.one_mul]
  have e2 : ((1 : Nat) : Int) * lds nb c d = lds nb c d := by rw [Int.natCast_one, Int.one_mul]
  rw [e1, e2] at q2
  omega
theorem SI.step1 {nb : Nat → Nat → Nat} (hN : NB nb) {pl : Nat → Bool} {h0 h u : Nat → Nat} (hs : SI nb pl h0 h u) {c : Nat} (hc : c < 42) (hk : lim pl c ≤ h c) : SI nb pl h0 (tpR nb h c 4) (addN u c 1) := (hs.step hN hc (Nat.le_refl 1) (by omega)).congr (tpR_tp (by have := (lim_ge pl c).1; omega))
theorem NB.back {nb : Nat → Nat → Nat} (hN : NB nb) {d t : Nat} (hd : d < 42) (ht : t < 4) {c : Nat} (hc : c < 42) (e : nb d t = c) : nb c (opp t) = d ∧ d ≠ c := by
  rcases hN.cases hd ht with q | q | q
  · omega
  · omega
  · rw [e] at q; exact ⟨q.2.2.1, fun z => q.2.1 z.symm⟩
def flD (nb : Nat → Nat → Nat) (c i d t : Nat) : Int32 := (if d = c ∧ t < i ∧ nb c t ≠ 43 then 1 else 0) - (if nb d t = c ∧ opp t < i then 1 else 0)
theorem flD_0 {nb : Nat → Nat → Nat} {c d t : Nat} : flD nb c 0 d t = 0 := by
  unfold flD
  rw [if_neg (by omega), if_neg (by omega)]; rfl
theorem flD_shut {nb : Nat → Nat → Nat} (hN : NB nb) {c i d t : Nat} (hc : c < 42) (hd : d < 42) (ht : t < 4) (e : nb c i = 43) : flD nb c (i + 1) d t = flD nb c i d t := by
  unfold flD
  congr 1
  · by_cases z : d = c ∧ t < i ∧ nb c t ≠ 43
    · rw [if_pos z, if_pos ⟨z.1, by omega, z.2.2⟩]
    · rw [if_neg z, if_neg (fun q => z ⟨q.1, by have : t ≠ i := fun w => q.2.2 (by rw [w]; exact e); omega, q.2.2⟩)]
  · by_cases z : nb d t = c ∧ opp t < i
    · rw [if_pos z, if_pos ⟨z.1, by omega⟩]
    · rw [if_neg z, if_neg (fun q => z ⟨q.1, by have : opp t ≠ i := (fun w => by have b := (hN.back hd ht hc q.1).1; rw [w] at b; omega); omega⟩)]
theorem flD_c {nb : Nat → Nat → Nat} (hN : NB nb) {c i : Nat} (hc : c < 42) (hi : i < 4) (e : ¬ nb c i = 43) : flD nb c (i + 1) c i = flD nb c i c i + 1 := by
  unfold flD
  have n2 : ¬ nb c i = c := fun q => (hN.back hc hi hc q).2 rfl
  rw [if_pos ⟨rfl, by omega, e⟩, if_neg (fun q => n2 q.1), if_neg (fun q => by omega), if_neg (fun q => n2 q.1)]; rfl
theorem flD_b {nb : Nat → Nat → Nat} (hN : NB nb) {c i : Nat} (hc : c < 42) (hi : i < 4) (e : nb c i < 42) : flD nb c (i + 1) (nb c i) (opp i) = flD nb c i (nb c i) (opp i) - 1 := by
  unfold flD
  obtain ⟨q1, q2⟩ := hN.back hc hi e rfl
  rw [if_neg (show ¬ (nb c i = c ∧ opp i < i + 1 ∧ nb c (opp i) ≠ 43) from fun q => q2 q.1.symm), if_neg (show ¬ (nb c i = c ∧ opp i < i ∧ nb c (opp i) ≠ 43) from fun q => q2 q.1.symm), if_pos (show nb (nb c i) (opp i) = c ∧ opp (opp i) < i + 1 from ⟨q1, by rw [opp_opp hi]; omega⟩), if_neg (show ¬ (nb (nb c i) (opp i) = c ∧ opp (opp i) < i) from fun q => by rw [opp_opp hi] at q; omega)]; rfl
theorem flD_o {nb : Nat → Nat → Nat} (hN : NB nb) {c i d t : Nat} (hc : c < 42) (hd : d < 42) (ht : t < 4) (hi : i < 4) (n1 : ¬ (d = c ∧ t = i)) (n2 : ¬ (d = nb c i ∧ t = opp i)) : flD nb c (i + 1) d t = flD nb c i d t := by
  unfold flD
  congr 1
  · by_cases z : d = c ∧ t < i ∧ nb c t ≠ 43
    · rw [if_pos z, if_pos ⟨z.1, by omega, z.2.2⟩]
    · rw [if_neg z, if_neg (fun q => z ⟨q.1, by have : t ≠ i := fun w => n1 ⟨q.1, w⟩; omega, q.2.2⟩)]
  · by_cases z : nb d t = c ∧ opp t < i
    · rw [if_pos z, if_pos ⟨z.1, by omega⟩]
    · rw [if_neg z, if_neg (fun q => z ⟨q.1, by have : opp t ≠ i := (fun w => n2 (by have b := (hN.back hd ht hc q.1).1; rw [w] at b; exact ⟨b.symm, by rw [← w, opp_opp ht]⟩)); omega⟩)]
theorem fl_next {nb : Nat → Nat → Nat} (hN : NB nb) {u : Nat → Nat} {c d t : Nat} (hc : c < 42) (hd : d < 42) (ht : t < 4) : flI nb (addN u c 1) d t = flI nb u d t + flD nb c 4 d t := by
  have ho := opp_lt ht
  unfold flI
  by_cases e : nb d t = 43
  · have z : flD nb c 4 d t = 0 := by
      unfold flD
      rw [if_neg (show ¬ (d = c ∧ t < 4 ∧ nb c t ≠ 43) from fun q => q.2.2 (by rw [← q.1]; exact e)), if_neg (show ¬ (nb d t = c ∧ opp t < 4) from fun q => by omega)]; rfl
    rw [if_pos e, if_pos e, z]; rfl
  · rw [if_neg e, if_neg e]
    by_cases z : d = c
    · subst z
      have n2 : ¬ nb d t = d := fun q => (hN.back hd ht hd q).2 rfl
      have k : flD nb d 4 d t = nI 1 := by
        unfold flD
        rw [if_pos (show d = d ∧ t < 4 ∧ nb d t ≠ 43 from ⟨rfl, ht, e⟩), if_neg (show ¬ (nb d t = d ∧ opp t < 4) from fun q => n2 q.1)]; rfl
      have e1 : addN u d 1 d = u d + 1 := if_pos rfl
      have e2 : addN u d 1 (nb d t) = u (nb d t) := if_neg n2
      rw [e1, e2, k, ← nI_add, Int32.sub_eq_add_neg, Int32.sub_eq_add_neg]
      ac_rfl
    · have e1 : addN u c 1 d = u d := if_neg z
      rw [e1]
      by_cases w : nb d t = c
      · have k : flD nb c 4 d t = -(nI 1) := by
          unfold flD
          rw [if_neg (show ¬ (d = c ∧ t < 4 ∧ nb c t ≠ 43) from fun q => z q.1), if_pos (show nb d t = c ∧ opp t < 4 from ⟨w, ho⟩)]; rfl
        have e2 : addN u c 1 c = u c + 1 := if_pos rfl
        have key : ∀ a b x : Int32, a - (b + x) = a - b + -x := by
          intro a b x
          first
          | (rw [Int32.sub_eq_add_neg, Int32.neg_add, Int32.sub_eq_add_neg a b, Int32.add_assoc]; done)
          | (rw [Int32.sub_eq_add_neg, Int32.neg_add, Int32.sub_eq_add_neg a b, Int32.sub_eq_add_neg (-b) x, Int32.add_assoc]; done)
        rw [k, w, if_pos hc, if_pos hc, e2, ← nI_add]
        exact key _ _ _
      · have k : flD nb c 4 d t = 0 := by
          unfold flD
          rw [if_neg (show ¬ (d = c ∧ t < 4 ∧ nb c t ≠ 43) from fun q => z q.1), if_neg (show ¬ (nb d t = c ∧ opp t < 4) from fun q => w q.1)]; rfl
        have e2 : addN u c 1 (nb d t) = u (nb d t) := if_neg w
        rw [e2, k]; exact (Int32.add_zero _).symm
theorem lost_next {nb : Nat → Nat → Nat} {u : Nat → Nat} {c : Nat} : ∀ n, lostN nb (addN u c 1) n = lostN nb u n + bn (decide (nb c 0 = 42 ∧ c < n))
  | 0 => by rw [decide_eq_false (by omega)]; rfl
  | n + 1 => by
    show lostN nb (addN u c 1) n + _ = (lostN nb u n + _) + _
    rw [lost_next n]
    by_cases z : n = c
    · subst z
      have e1 : addN u n 1 n = u n + 1 := if_pos rfl
      rw [e1, decide_eq_false (show ¬ (nb n 0 = 42 ∧ n < n) by omega)]
      by_cases w : nb n 0 = 42
      · rw [if_pos w, if_pos w, decide_eq_true ⟨w, by omega⟩]; rfl
      · rw [if_neg w, if_neg w, decide_eq_false (fun q => w q.1)]; rfl
    · have e1 : addN u c 1 n = u n := if_neg z
      rw [e1]
      by_cases w : nb c 0 = 42 ∧ c < n
      · rw [decide_eq_true w, decide_eq_true (show nb c 0 = 42 ∧ c < n + 1 from ⟨w.1, by omega⟩)]; omega
      · rw [decide_eq_false w, decide_eq_false (show ¬ (nb c 0 = 42 ∧ c < n + 1) from fun q => w ⟨q.1, by omega⟩)]; omega
theorem lost_sea {nb : Nat → Nat → Nat} (hN : NB nb) {u : Nat → Nat} {c : Nat} (hc : c < 42) {s0 se : Int32} (h : se = s0 + nI (lostN nb u 6) + nI (bn (decide (nb c 0 = 42 ∧ 0 < 4)))) : se = s0 + nI (lostN nb (addN u c 1) 6) := by
  have e : bn (decide (nb c 0 = 42 ∧ 0 < 4)) = bn (decide (nb c 0 = 42 ∧ c < 6)) := by
    by_cases z : nb c 0 = 42
    · rw [decide_eq_true (show nb c 0 = 42 ∧ 0 < 4 from ⟨z, by decide⟩), decide_eq_true (show nb c 0 = 42 ∧ c < 6 from ⟨z, by rcases hN.cases hc (show 0 < 4 by decide) with q | q | q <;> omega⟩)]
    · rw [decide_eq_false (show ¬ (nb c 0 = 42 ∧ 0 < 4) from fun q => z q.1), decide_eq_false (show ¬ (nb c 0 = 42 ∧ c < 6) from fun q => z q.1)]
  rw [h, lost_next, Int32.add_assoc, nI_add, e]
theorem nI_inj {a b : Nat} (ha : a < 2 ^ 31) (hb : b < 2 ^ 31) (h : nI a = nI b) : a = b := by
  have q := congrArg Int32.toInt h
  rw [nI_toInt ha, nI_toInt hb] at q
  omega
theorem lost_zero {nb : Nat → Nat → Nat} : lostN nb (fun _ => 0) 6 = 0 := by
  have key : ∀ n, lostN nb (fun _ => 0) n = 0 := by
    intro n
    induction n with
    | zero => rfl
    | succ n ih =>
      show lostN nb (fun _ => 0) n + _ = 0
      rw [ih]; split <;> rfl
  exact key 6
theorem sN_zero : sN (fun _ => 0) 42 = 0 := by decide
theorem FlowTo.start {nb : Nat → Nat → Nat} {F : Nat → Int32} : FlowTo nb (fun _ => 0) F F := fun c s hc hs => by
  have e : flI nb (fun _ => 0) c s = 0 := by
    unfold flI
    split
    · rfl
    · split <;> first | (show nI 0 - nI 0 = 0; decide) | (show nI 0 - 0 = 0; decide)
  rw [e]; exact (Int32.add_zero _).symm
theorem ok_X9_topples : okName yX9_topples 1 := by decide +kernel
theorem in_X9_topples_X9 : ∀ w ∈ u_ws RX9 TX9 21, w ∈ wsX9_topples := by decide +kernel
set_option maxRecDepth 100000 in
set_option maxHeartbeats 4000000 in
theorem c_X9_topples (l : Launch) (D : va_G) (ai az al : ClassId) (m : Nat) (mh : Nat) (mg : Nat) (mt : Nat) (mf : Nat) (ms : Nat) (msT : Nat) (msF : Nat) (mgv : Nat) (mP : Nat) (mW : Nat) (mV : Nat) (mco : Nat) (men : Nat) (mnt : Nat) (tw : Int32) (mbr : Int32) (mwk : Int32) (mns : Int32) (mss : Int32) (Hm : Nat → Int32) (Fm : Nat → Int32) (Tm : Nat → Int32) (Wm : Nat → Int32) (nb : Nat → Nat → Nat) (h : Nat → Nat) (uv : Nat → Nat) (F0 : Nat → Int32) (s0 : Int32) (c : Nat) (hc : c < 42) (hW : NW nb) (hWm : WOK Wm nb) (hH : HOK Hm h) (h4 : 4 ≤ h c) (hF : FlowTo nb uv F0 Fm) : CV l D (tY ai az al) yX9_topples wsX9_topples { frames := 2, cells := 0, slots := 0, locals := 45 } [.ref m, .int (nI c)] [(m, .inr (9, [.ref mh, .ref mg, .ref mt, .ref mf, .ref ms, .ref msT, .ref msF, .ref mgv, .ref mP, .ref mW, .ref mV, .ref mco, .ref men, .ref mnt, .int tw, .int (s0 + nI (lostN nb (uv) 6)), .int mbr, .int mwk, .int mns, .int (nI (sN uv 42)), .int mss])), (mh, .inl (ai, 42, .inl Hm)), (mf, .inl (ai, 168, .inl Fm)), (mt, .inl (ai, 42, .inl Tm)), (mW, .inl (az, 168, .inl Wm))] (fun (u : (Nat → Int32) × (Nat → Int32)) => HOK u.1 (tpR nb h c 4) ∧ FlowTo nb (addN uv c 1) F0 u.2) (fun (u : (Nat → Int32) × (Nat → Int32)) => [(m, .inr (9, [.ref mh, .ref mg, .ref mt, .ref mf, .ref ms, .ref msT, .ref msF, .ref mgv, .ref mP, .ref mW, .ref mV, .ref mco, .ref men, .ref mnt, .int tw, .int (s0 + nI (lostN nb (addN uv c 1) 6)), .int mbr, .int mwk, .int mns, .int (nI (sN uv 42 + 1)), .int mss])), (mh, .inl (ai, 42, .inl u.1)), (mf, .inl (ai, 168, .inl u.2)), (mt, .inl (ai, 42, .inl (upd Tm c (Tm c + nI 1)))), (mW, .inl (az, 168, .inl Wm))]) := by
  refine ofG_V (cc := cX9_topples) (nL := 4) (lv0 := [(0, .ref m), (1, .int (nI c))]) (by decide) rfl (Nat.le_of_ble_eq_true rfl) rfl ?_
  intro Γ X E hinit
  have hNB := hW.nb
  refine g_iconst (v := nI 0) X dX9_topples_0 (by decide) ?_
  refine g_istore_n (lv' := [(2, .int (nI 0)), (0, .ref m), (1, .int (nI c))]) X dX9_topples_1 rfl (by decide) rfl ?_
  have L2 : ∀ (fl : Nat) (i : Nat) (Ha : Nat → Int32) (Fa : Nat → Int32) (sx : Int32), (i ≤ 4) → (HOK Ha (tpR nb h c i)) → (∀ d t, d < 42 → t < 4 → Fa (d * 4 + t) = Fm (d * 4 + t) + flD nb c i d t) → (sx = s0 + nI (lostN nb uv 6) + nI (bn (decide (nb c 0 = 42 ∧ 0 < i)))) → (5 ≤ i + fl) → G Γ 4 0 0 [(m, .inr (9, [.ref mh, .ref mg, .ref mt, .ref mf, .ref ms, .ref msT, .ref msF, .ref mgv, .ref mP, .ref mW, .ref mV, .ref mco, .ref men, .ref mnt, .int tw, .int sx, .int mbr, .int mwk, .int mns, .int (nI (sN uv 42)), .int mss])), (mh, .inl (ai, 42, .inl Ha)), (mf, .inl (ai, 168, .inl Fa)), (mt, .inl (ai, 42, .inl Tm)), (mW, .inl (az, 168, .inl Wm))] [(0, .ref m), (1, .int (nI c)), (2, .int (nI i))] 2 [] := by
    intro fl
    induction fl with
    | zero => intro i Ha Fa sx hi hHa hFa hsx hm; exact absurd hm (by omega)
    | succ fl ih2 =>
      intro i Ha Fa sx hi hHa hFa hsx hm
      refine g_iload_n X dX9_topples_2 rfl 2 rfl ?_
      refine g_iconst (v := nI 4) X dX9_topples_3 (by decide) ?_
      refine g_icmp_geN (tgt := 100) X dX9_topples_4 (by decide) (by omega) (by omega) (fun b4 => ?_) (fun b4 => ?_)
      · obtain rfl : i = 4 := by omega
        obtain rfl := lost_sea hNB hc hsx
        refine g_aload_n X dX9_topples_100 rfl 0 rfl ?_
        refine g_getf (T := TX9) (v := .ref mt) X dX9_topples_101 0 rfl rfl in_X9_topples_X9 2 (by decide) (by decide +kernel) rfl rfl ?_
        refine g_iload_n X dX9_topples_104 rfl 1 rfl ?_
        refine g_dup2 X dX9_topples_105 rfl rfl ?_
        refine g_ialdN (v := (Tm c)) X dX9_topples_106 3 0 rfl rfl (by omega) (by omega) (rfl) ?_
        refine g_iconst (v := nI 1) X dX9_topples_107 (by decide) ?_
        refine g_iadd (v := ((Tm c) + nI 1)) X dX9_topples_108 (rfl) ?_
        refine g_iastN (g' := upd Tm c ((Tm c) + nI 1)) (ws' := [(m, .inr (9, [.ref mh, .ref mg, .ref mt, .ref mf, .ref ms, .ref msT, .ref msF, .ref mgv, .ref mP, .ref mW, .ref mV, .ref mco, .ref men, .ref mnt, .int tw, .int (s0 + nI (lostN nb (addN uv c 1) 6)), .int mbr, .int mwk, .int mns, .int (nI (sN uv 42)), .int mss])), (mh, .inl (ai, 42, .inl Ha)), (mf, .inl (ai, 168, .inl Fa)), (mt, .inl (ai, 42, .inl (upd Tm c ((Tm c) + nI 1)))), (mW, .inl (az, 168, .inl Wm))]) X dX9_topples_109 3 0 rfl rfl (by omega) (by omega) (rfl) rfl ?_
        refine g_aload_n X dX9_topples_110 rfl 0 rfl ?_
        refine g_dup X dX9_topples_111 rfl ?_
        refine g_getf (T := TX9) (v := .int (nI (sN uv 42))) X dX9_topples_112 0 rfl rfl in_X9_topples_X9 19 (by decide) (by decide +kernel) rfl rfl ?_
        refine g_iconst (v := nI 1) X dX9_topples_115 (by decide) ?_
        refine g_iadd (v := nI ((sN uv 42) + 1)) X dX9_topples_116 (nI_add _ _) ?_
        refine g_putf (T := TX9) (v := .int (nI ((sN uv 42) + 1))) (ty := tyX9 19) (ws' := [(m, .inr (9, [.ref mh, .ref mg, .ref mt, .ref mf, .ref ms, .ref msT, .ref msF, .ref mgv, .ref mP, .ref mW, .ref mV, .ref mco, .ref men, .ref mnt, .int tw, .int (s0 + nI (lostN nb (addN uv c 1) 6)), .int mbr, .int mwk, .int mns, .int (nI ((sN uv 42) + 1)), .int mss])), (mh, .inl (ai, 42, .inl Ha)), (mf, .inl (ai, 168, .inl Fa)), (mt, .inl (ai, 42, .inl (upd Tm c ((Tm c) + nI 1)))), (mW, .inl (az, 168, .inl Wm))]) X dX9_topples_117 0 rfl rfl in_X9_topples_X9 tyX9 tyX9_ok nmX9 19 (by decide) (by decide +kernel) rfl rfl (by decide +kernel) rfl rfl (Nat.le_of_ble_eq_true rfl) rfl ?_
        exact g_vret X E dX9_topples_120 (⟨Ha, Fa⟩) rfl (by decide) (by decide) (⟨hHa, fun d t hd ht => by show Fa (d * 4 + t) = _; rw [hFa d t hd ht, hF d t hd ht, fl_next hNB hc hd ht, Int32.add_assoc]⟩)
      · have hi4 : i < 4 := by omega
        refine g_aload_n X dX9_topples_7 rfl 0 rfl ?_
        refine g_iload_n X dX9_topples_8 rfl 1 rfl ?_
        refine g_iload_n X dX9_topples_9 rfl 2 rfl ?_
        refine g_callVi (C := RX9) (As := [.int (nI c), .int (nI i)]) (rest := []) (wr := [(mh, .inl (ai, 42, .inl Ha)), (mf, .inl (ai, 168, .inl Fa)), (mt, .inl (ai, 42, .inl Tm))]) X dX9_topples_10 (c_X9_isOpen l D ai az al m mh mg mt mf ms msT msF mgv mP mW mV mco men mnt tw sx mbr mwk mns (nI (sN uv 42)) mss Wm nb c i (hc) (hi4) (hW) (hWm)) gX9_topples_X9_isOpen rfl rfl ok_X9_isOpen rfl rfl (by decide) ⟨by decide, by decide⟩ (Nat.le_of_ble_eq_true rfl) [0, 4] [1, 2, 3] ⟨rfl, by decide, rfl, by decide, by decide⟩ 0 rfl rfl rfl (fun r1 u hp => ?_)
        obtain rfl := hp
        refine g_sub (k := 0) (n := 0) (ws' := [(m, .inr (9, [.ref mh, .ref mg, .ref mt, .ref mf, .ref ms, .ref msT, .ref msF, .ref mgv, .ref mP, .ref mW, .ref mV, .ref mco, .ref men, .ref mnt, .int tw, .int sx, .int mbr, .int mwk, .int mns, .int (nI (sN uv 42)), .int mss])), (mh, .inl (ai, 42, .inl Ha)), (mf, .inl (ai, 168, .inl Fa)), (mt, .inl (ai, 42, .inl Tm)), (mW, .inl (az, 168, .inl Wm))]) [3, 0, 1, 2, 4] (by decide) rfl ?_
        refine g_if_neN (tgt := 19) X dX9_topples_13 (by decide) (bn_lt _) (fun b13 => ?_) (fun b13 => ?_)
        · have hop : ¬ nb c i = 43 := of_decide_eq_true (bn_n.mp b13)
          have hob := hW.op hc hi4 hop
          have htc := tpR_c (nb := nb) (h := h) (c := c) i
          have ho4 := opp_lt hi4
          have hcs := hNB.cases hc hi4
          refine g_iload_n X dX9_topples_19 rfl 1 rfl ?_
          refine g_iload_n X dX9_topples_20 rfl 2 rfl ?_
          refine g_callSi (As := [.int (nI c), .int (nI i)]) (rest := []) (wr := [(m, .inr (9, [.ref mh, .ref mg, .ref mt, .ref mf, .ref ms, .ref msT, .ref msF, .ref mgv, .ref mP, .ref mW, .ref mV, .ref mco, .ref men, .ref mnt, .int tw, .int sx, .int mbr, .int mwk, .int mns, .int (nI (sN uv 42)), .int mss])), (mh, .inl (ai, 42, .inl Ha)), (mf, .inl (ai, 168, .inl Fa)), (mt, .inl (ai, 42, .inl Tm)), (mW, .inl (az, 168, .inl Wm))]) X dX9_topples_21 (c_X9_behind l D ai az al c i (hc) (hi4)) gX9_topples_X9_behind rfl rfl ok_X9_behind rfl rfl (by decide) ⟨by decide, by decide⟩ (Nat.le_of_ble_eq_true rfl) [] [0, 1, 2, 3, 4] ⟨rfl, by decide, rfl, by decide, by decide⟩ (fun r2 u hp => ?_)
          obtain rfl := hp
          refine g_sub (k := 0) (n := 0) (ws' := [(m, .inr (9, [.ref mh, .ref mg, .ref mt, .ref mf, .ref ms, .ref msT, .ref msF, .ref mgv, .ref mP, .ref mW, .ref mV, .ref mco, .ref men, .ref mnt, .int tw, .int sx, .int mbr, .int mwk, .int mns, .int (nI (sN uv 42)), .int mss])), (mh, .inl (ai, 42, .inl Ha)), (mf, .inl (ai, 168, .inl Fa)), (mt, .inl (ai, 42, .inl Tm)), (mW, .inl (az, 168, .inl Wm))]) [0, 1, 2, 3, 4] (by decide) rfl ?_
          refine g_istore_n (lv' := [(3, .int (cd (bN c i))), (0, .ref m), (1, .int (nI c)), (2, .int (nI i))]) X dX9_topples_24 rfl (by decide) rfl ?_
          refine g_aload_n X dX9_topples_25 rfl 1 rfl ?_
          refine g_getf (T := TX9) (v := .ref mh) X dX9_topples_26 0 rfl rfl in_X9_topples_X9 0 (by decide) (by decide +kernel) rfl rfl ?_
          refine g_iload_n X dX9_topples_29 rfl 2 rfl ?_
          refine g_dup2 X dX9_topples_30 rfl rfl ?_
          refine g_ialdN (v := (Ha c)) X dX9_topples_31 1 0 rfl rfl (by omega) (by omega) (rfl) ?_
          refine g_iconst (v := nI 1) X dX9_topples_32 (by decide) ?_
          refine g_isub (v := ((Ha c) - nI 1)) X dX9_topples_33 (rfl) ?_
          refine g_iastN (g' := upd Ha c ((Ha c) - nI 1)) (ws' := [(m, .inr (9, [.ref mh, .ref mg, .ref mt, .ref mf, .ref ms, .ref msT, .ref msF, .ref mgv, .ref mP, .ref mW, .ref mV, .ref mco, .ref men, .ref mnt, .int tw, .int sx, .int mbr, .int mwk, .int mns, .int (nI (sN uv 42)), .int mss])), (mh, .inl (ai, 42, .inl (upd Ha c ((Ha c) - nI 1)))), (mf, .inl (ai, 168, .inl Fa)), (mt, .inl (ai, 42, .inl Tm)), (mW, .inl (az, 168, .inl Wm))]) X dX9_topples_34 1 0 rfl rfl (by omega) (by omega) (rfl) rfl ?_
          refine g_aload_n X dX9_topples_35 rfl 1 rfl ?_
          refine g_getf (T := TX9) (v := .ref mf) X dX9_topples_36 0 rfl rfl in_X9_topples_X9 3 (by decide) (by decide +kernel) rfl rfl ?_
          refine g_iconst (v := nI 4) X dX9_topples_39 (by decide) ?_
          refine g_iload_n X dX9_topples_40 rfl 2 rfl ?_
          refine g_imul (v := nI (c * 4)) X dX9_topples_41 (m4 _) ?_
          refine g_iload_n X dX9_topples_42 rfl 3 rfl ?_
          refine g_iadd (v := nI ((c * 4) + i)) X dX9_topples_43 (nI_add _ _) ?_
          refine g_dup2 X dX9_topples_44 rfl rfl ?_
          refine g_ialdN (v := (Fa ((c * 4) + i))) X dX9_topples_45 2 0 rfl rfl (by omega) (by omega) (rfl) ?_
          refine g_iconst (v := nI 1) X dX9_topples_46 (by decide) ?_
          refine g_iadd (v := ((Fa ((c * 4) + i)) + nI 1)) X dX9_topples_47 (rfl) ?_
          refine g_iastN (g' := upd Fa ((c * 4) + i) ((Fa ((c * 4) + i)) + nI 1)) (ws' := [(m, .inr (9, [.ref mh, .ref mg, .ref mt, .ref mf, .ref ms, .ref msT, .ref msF, .ref mgv, .ref mP, .ref mW, .ref mV, .ref mco, .ref men, .ref mnt, .int tw, .int sx, .int mbr, .int mwk, .int mns, .int (nI (sN uv 42)), .int mss])), (mh, .inl (ai, 42, .inl (upd Ha c ((Ha c) - nI 1)))), (mf, .inl (ai, 168, .inl (upd Fa ((c * 4) + i) ((Fa ((c * 4) + i)) + nI 1)))), (mt, .inl (ai, 42, .inl Tm)), (mW, .inl (az, 168, .inl Wm))]) X dX9_topples_48 2 0 rfl rfl (by omega) (by omega) (rfl) rfl ?_
          refine g_iload_n X dX9_topples_49 rfl 0 rfl ?_
          refine g_iconst (v := (-1)) X dX9_topples_50 (by decide) ?_
          refine g_icmp_ne (tgt := 67) X dX9_topples_51 (by decide) (fun b51 => ?_) (fun b51 => ?_)
          · have hq : nb c i < 42 := by have w : ¬ nb c i = 42 := (fun z => b51 ((cd_m1 (bN_le hc)).mpr (by rw [← hob]; exact z))); rcases hcs with q | q | q <;> omega
            refine g_lv (lv' := [(3, .int (nI (nb c i))), (0, .ref m), (1, .int (nI c)), (2, .int (nI i))]) [0, 1, 2, 3] (by rw [cd_lt (by omega), hob]; rfl) ?_
            refine g_aload_n X dX9_topples_67 rfl 1 rfl ?_
            refine g_getf (T := TX9) (v := .ref mh) X dX9_topples_68 0 rfl rfl in_X9_topples_X9 0 (by decide) (by decide +kernel) rfl rfl ?_
            refine g_iload_n X dX9_topples_71 rfl 0 rfl ?_
            refine g_dup2 X dX9_topples_72 rfl rfl ?_
            refine g_ialdN (v := ((upd Ha c ((Ha c) - nI 1)) (nb c i))) X dX9_topples_73 1 0 rfl rfl (by omega) (by omega) (rfl) ?_
            refine g_iconst (v := nI 1) X dX9_topples_74 (by decide) ?_
            refine g_iadd (v := (((upd Ha c ((Ha c) - nI 1)) (nb c i)) + nI 1)) X dX9_topples_75 (rfl) ?_
            refine g_iastN (g' := upd (upd Ha c ((Ha c) - nI 1)) (nb c i) (((upd Ha c ((Ha c) - nI 1)) (nb c i)) + nI 1)) (ws' := [(m, .inr (9, [.ref mh, .ref mg, .ref mt, .ref mf, .ref ms, .ref msT, .ref msF, .ref mgv, .ref mP, .ref mW, .ref mV, .ref mco, .ref men, .ref mnt, .int tw, .int sx, .int mbr, .int mwk, .int mns, .int (nI (sN uv 42)), .int mss])), (mh, .inl (ai, 42, .inl (upd (upd Ha c ((Ha c) - nI 1)) (nb c i) (((upd Ha c ((Ha c) - nI 1)) (nb c i)) + nI 1)))), (mf, .inl (ai, 168, .inl (upd Fa ((c * 4) + i) ((Fa ((c * 4) + i)) + nI 1)))), (mt, .inl (ai, 42, .inl Tm)), (mW, .inl (az, 168, .inl Wm))]) X dX9_topples_76 1 0 rfl rfl (by omega) (by omega) (rfl) rfl ?_
            refine g_aload_n X dX9_topples_77 rfl 1 rfl ?_
            refine g_getf (T := TX9) (v := .ref mf) X dX9_topples_78 0 rfl rfl in_X9_topples_X9 3 (by decide) (by decide +kernel) rfl rfl ?_
            refine g_iconst (v := nI 4) X dX9_topples_81 (by decide) ?_
            refine g_iload_n X dX9_topples_82 rfl 0 rfl ?_
            refine g_imul (v := nI (nb c i * 4)) X dX9_topples_83 (m4 _) ?_
            refine g_iload_n X dX9_topples_84 rfl 3 rfl ?_
            refine g_callSi (As := [.int (nI i)]) (rest := [.int (nI (nb c i * 4)), .ref mf]) (wr := [(m, .inr (9, [.ref mh, .ref mg, .ref mt, .ref mf, .ref ms, .ref msT, .ref msF, .ref mgv, .ref mP, .ref mW, .ref mV, .ref mco, .ref men, .ref mnt, .int tw, .int sx, .int mbr, .int mwk, .int mns, .int (nI (sN uv 42)), .int mss])), (mh, .inl (ai, 42, .inl (upd (upd Ha c ((Ha c) - nI 1)) (nb c i) (((upd Ha c ((Ha c) - nI 1)) (nb c i)) + nI 1)))), (mf, .inl (ai, 168, .inl (upd Fa ((c * 4) + i) ((Fa ((c * 4) + i)) + nI 1)))), (mt, .inl (ai, 42, .inl Tm)), (mW, .inl (az, 168, .inl Wm))]) X dX9_topples_85 (c_X9_opposite l D ai az al i (hi4)) gX9_topples_X9_opposite rfl rfl ok_X9_opposite rfl rfl (by decide) ⟨by decide, by decide⟩ (Nat.le_of_ble_eq_true rfl) [] [0, 1, 2, 3, 4] ⟨rfl, by decide, rfl, by decide, by decide⟩ (fun r3 u hp => ?_)
            obtain rfl := hp
            refine g_sub (k := 0) (n := 0) (ws' := [(m, .inr (9, [.ref mh, .ref mg, .ref mt, .ref mf, .ref ms, .ref msT, .ref msF, .ref mgv, .ref mP, .ref mW, .ref mV, .ref mco, .ref men, .ref mnt, .int tw, .int sx, .int mbr, .int mwk, .int mns, .int (nI (sN uv 42)), .int mss])), (mh, .inl (ai, 42, .inl (upd (upd Ha c ((Ha c) - nI 1)) (nb c i) (((upd Ha c ((Ha c) - nI 1)) (nb c i)) + nI 1)))), (mf, .inl (ai, 168, .inl (upd Fa ((c * 4) + i) ((Fa ((c * 4) + i)) + nI 1)))), (mt, .inl (ai, 42, .inl Tm)), (mW, .inl (az, 168, .inl Wm))]) [0, 1, 2, 3, 4] (by decide) rfl ?_
            refine g_iadd (v := nI ((nb c i * 4) + (opp i))) X dX9_topples_88 (nI_add _ _) ?_
            refine g_dup2 X dX9_topples_89 rfl rfl ?_
            refine g_ialdN (v := ((upd Fa ((c * 4) + i) ((Fa ((c * 4) + i)) + nI 1)) ((nb c i * 4) + (opp i)))) X dX9_topples_90 2 0 rfl rfl (by omega) (by omega) (rfl) ?_
            refine g_iconst (v := nI 1) X dX9_topples_91 (by decide) ?_
            refine g_isub (v := (((upd Fa ((c * 4) + i) ((Fa ((c * 4) + i)) + nI 1)) ((nb c i * 4) + (opp i))) - nI 1)) X dX9_topples_92 (rfl) ?_
            refine g_iastN (g' := upd (upd Fa ((c * 4) + i) ((Fa ((c * 4) + i)) + nI 1)) ((nb c i * 4) + (opp i)) (((upd Fa ((c * 4) + i) ((Fa ((c * 4) + i)) + nI 1)) ((nb c i * 4) + (opp i))) - nI 1)) (ws' := [(m, .inr (9, [.ref mh, .ref mg, .ref mt, .ref mf, .ref ms, .ref msT, .ref msF, .ref mgv, .ref mP, .ref mW, .ref mV, .ref mco, .ref men, .ref mnt, .int tw, .int sx, .int mbr, .int mwk, .int mns, .int (nI (sN uv 42)), .int mss])), (mh, .inl (ai, 42, .inl (upd (upd Ha c ((Ha c) - nI 1)) (nb c i) (((upd Ha c ((Ha c) - nI 1)) (nb c i)) + nI 1)))), (mf, .inl (ai, 168, .inl (upd (upd Fa ((c * 4) + i) ((Fa ((c * 4) + i)) + nI 1)) ((nb c i * 4) + (opp i)) (((upd Fa ((c * 4) + i) ((Fa ((c * 4) + i)) + nI 1)) ((nb c i * 4) + (opp i))) - nI 1)))), (mt, .inl (ai, 42, .inl Tm)), (mW, .inl (az, 168, .inl Wm))]) X dX9_topples_93 2 0 rfl rfl (by omega) (by omega) (rfl) rfl ?_
            refine g_iinc (v := nI (i + 1)) (lv' := [(2, .int (nI (i + 1))), (3, .int (nI (nb c i))), (0, .ref m), (1, .int (nI c))]) X dX9_topples_94 3 rfl (nI_inc _) (by decide) rfl ?_
            refine g_goto (tgt := 2) X dX9_topples_97 (by decide) ?_
            refine g_lv (lv' := [(0, .ref m), (1, .int (nI c)), (2, .int (nI (i + 1)))]) [2, 3, 0] rfl ?_
            exact ih2 (i + 1) (upd (upd Ha c ((Ha c) - nI 1)) (nb c i) (((upd Ha c ((Ha c) - nI 1)) (nb c i)) + nI 1)) (upd (upd Fa ((c * 4) + i) ((Fa ((c * 4) + i)) + nI 1)) ((nb c i * 4) + (opp i)) (((upd Fa ((c * 4) + i) ((Fa ((c * 4) + i)) + nI 1)) ((nb c i * 4) + (opp i))) - nI 1)) sx (by omega) (by rw [tpR_s hop]; exact (hHa.set (x := tpR nb h c i c - 1) (by rw [hHa c hc]; exact pk_sub (by omega))).add1 (k := 1) hq) (fun d t hd ht => by by_cases z : d = c ∧ t = i; (rw [z.1, z.2, upd_ne (by omega), upd_at, hFa c i hc hi4, flD_c hNB hc hi4 hop, Int32.add_assoc]; rfl); by_cases w : d = nb c i ∧ t = opp i; (rw [w.1, w.2, upd_at, upd_ne (by omega), hFa _ _ hq ho4, flD_b hNB hc hi4 hq, Int32.sub_eq_add_neg, Int32.sub_eq_add_neg, Int32.add_assoc]; rfl); (rw [upd_ne (by omega), upd_ne (by omega), flD_o hNB hc hd ht hi4 z w]; exact hFa d t hd ht)) (by rw [hsx]; congr 4; exact propext ⟨fun q => ⟨q.1, by omega⟩, fun q => ⟨q.1, by have : i ≠ 0 := (fun w => by rw [w] at hq; have := q.1; omega); omega⟩⟩) (by omega)
          · have w9 : bN c i = 42 := (cd_m1 (bN_le hc)).mp b51
            have hq : nb c i = 42 ∧ i = 0 := ⟨by rw [hob]; exact w9, by rcases hcs with q | q | q <;> omega⟩
            have hi0 := hq.2
            refine g_aload_n X dX9_topples_54 rfl 1 rfl ?_
            refine g_dup X dX9_topples_55 rfl ?_
            refine g_getf (T := TX9) (v := .int sx) X dX9_topples_56 0 rfl rfl in_X9_topples_X9 15 (by decide) (by decide +kernel) rfl rfl ?_
            refine g_iconst (v := nI 1) X dX9_topples_59 (by decide) ?_
            refine g_iadd (v := (sx + nI 1)) X dX9_topples_60 (rfl) ?_
            refine g_putf (T := TX9) (v := .int (sx + nI 1)) (ty := tyX9 15) (ws' := [(m, .inr (9, [.ref mh, .ref mg, .ref mt, .ref mf, .ref ms, .ref msT, .ref msF, .ref mgv, .ref mP, .ref mW, .ref mV, .ref mco, .ref men, .ref mnt, .int tw, .int (sx + nI 1), .int mbr, .int mwk, .int mns, .int (nI (sN uv 42)), .int mss])), (mh, .inl (ai, 42, .inl (upd Ha c ((Ha c) - nI 1)))), (mf, .inl (ai, 168, .inl (upd Fa ((c * 4) + i) ((Fa ((c * 4) + i)) + nI 1)))), (mt, .inl (ai, 42, .inl Tm)), (mW, .inl (az, 168, .inl Wm))]) X dX9_topples_61 0 rfl rfl in_X9_topples_X9 tyX9 tyX9_ok nmX9 15 (by decide) (by decide +kernel) rfl rfl (by decide +kernel) rfl rfl (Nat.le_of_ble_eq_true rfl) rfl ?_
            refine g_goto (tgt := 94) X dX9_topples_64 (by decide) ?_
            refine g_iinc (v := nI (i + 1)) (lv' := [(2, .int (nI (i + 1))), (3, .int (cd (bN c i))), (0, .ref m), (1, .int (nI c))]) X dX9_topples_94 3 rfl (nI_inc _) (by decide) rfl ?_
            refine g_goto (tgt := 2) X dX9_topples_97 (by decide) ?_
            refine g_lv (lv' := [(0, .ref m), (1, .int (nI c)), (2, .int (nI (i + 1)))]) [2, 3, 0] rfl ?_
            exact ih2 (i + 1) (upd Ha c ((Ha c) - nI 1)) (upd Fa ((c * 4) + i) ((Fa ((c * 4) + i)) + nI 1)) (sx + nI 1) (by omega) (by rw [tpR_s hop]; exact (hHa.set (x := tpR nb h c i c - 1) (by rw [hHa c hc]; exact pk_sub (by omega))).congr (fun d hd => by unfold addN; rw [if_neg (by omega)])) (fun d t hd ht => by by_cases z : d = c ∧ t = i; (rw [z.1, z.2, upd_at, hFa c i hc hi4, flD_c hNB hc hi4 hop, Int32.add_assoc]; rfl); (rw [upd_ne (by omega), flD_o hNB hc hd ht hi4 z (fun q => by omega)]; exact hFa d t hd ht)) (by rw [hsx, decide_eq_false (by omega), decide_eq_true ⟨by rw [← hi0]; exact hq.1, by omega⟩]; show _ + nI 0 + nI 1 = _ + nI 1; rw [show nI 0 = (0 : Int32) from rfl, Int32.add_zero]) (by omega)
        · have hop : nb c i = 43 := Classical.byContradiction (of_decide_eq_false (bn_0.mp b13))
          refine g_goto (tgt := 94) X dX9_topples_16 (by decide) ?_
          refine g_iinc (v := nI (i + 1)) (lv' := [(2, .int (nI (i + 1))), (0, .ref m), (1, .int (nI c))]) X dX9_topples_94 2 rfl (nI_inc _) (by decide) rfl ?_
          refine g_goto (tgt := 2) X dX9_topples_97 (by decide) ?_
          refine g_lv (lv' := [(0, .ref m), (1, .int (nI c)), (2, .int (nI (i + 1)))]) [1, 2, 0] rfl ?_
          exact ih2 (i + 1) Ha Fa sx (by omega) (by rw [tpR_0 hop]; exact hHa) (fun d t hd ht => by rw [flD_shut hNB hc hd ht hop]; exact hFa d t hd ht) (by rw [hsx]; congr 4; exact propext ⟨fun q => ⟨q.1, by omega⟩, fun q => ⟨q.1, by have : i ≠ 0 := (fun w => by rw [w] at hop; have := q.1; omega); omega⟩⟩) (by omega)
  refine g_lv (lv' := [(0, .ref m), (1, .int (nI c)), (2, .int (nI 0))]) [1, 2, 0] rfl ?_
  exact L2 5 0 Hm Fm (s0 + nI (lostN nb (uv) 6)) (by decide) (hH) (fun d t _ _ => by rw [flD_0]; exact (Int32.add_zero _).symm) (by rw [decide_eq_false (by omega)]; exact (Int32.add_zero _).symm) (by decide)

theorem ok_X9_settles : okName yX9_settles 0 := by decide +kernel
theorem in_X9_settles_X9 : ∀ w ∈ u_ws RX9 TX9 21, w ∈ wsX9_settles := by decide +kernel
set_option maxRecDepth 100000 in
set_option maxHeartbeats 4000000 in
theorem c_X9_settles (l : Launch) (D : va_G) (ai az al : ClassId) (m : Nat) (mh : Nat) (mg : Nat) (mt : Nat) (mf : Nat) (ms : Nat) (msT : Nat) (msF : Nat) (mgv : Nat) (mP : Nat) (mW : Nat) (mV : Nat) (mco : Nat) (men : Nat) (mnt : Nat) (tw : Int32) (mse : Int32) (mbr : Int32) (mwk : Int32) (mns : Int32) (mtp : Int32) (mss : Int32) (Hm : Nat → Int32) (Fm : Nat → Int32) (Tm : Nat → Int32) (Pm : Nat → Int32) (Wm : Nat → Int32) (nb : Nat → Nat → Nat) (pl : Nat → Bool) (h : Nat → Nat) (hW : NW nb) (hWm : WOK Wm nb) (hC : Cn nb) (hP : POK Pm pl) (hH : HOK Hm h) (hn : sN h 42 ≤ 500) : CI l D (tY ai az al) yX9_settles wsX9_settles { frames := 3, cells := 0, slots := 0, locals := 68 } [.ref m] [(m, .inr (9, [.ref mh, .ref mg, .ref mt, .ref mf, .ref ms, .ref msT, .ref msF, .ref mgv, .ref mP, .ref mW, .ref mV, .ref mco, .ref men, .ref mnt, .int tw, .int mse, .int mbr, .int mwk, .int mns, .int mtp, .int mss])), (mh, .inl (ai, 42, .inl Hm)), (mf, .inl (ai, 168, .inl Fm)), (mt, .inl (ai, 42, .inl Tm)), (mP, .inl (az, 42, .inl Pm)), (mW, .inl (az, 168, .inl Wm))] (fun (r : Int32) (u : (Nat → Int32) × (Nat → Int32) × (Nat → Int32) × (Nat → Nat) × (Nat → Nat)) => r = nI (sN u.2.2.2.2 42) ∧ Stl nb pl (h) u.2.2.2.1 u.2.2.2.2 ∧ HOK u.1 u.2.2.2.1 ∧ FlowTo nb u.2.2.2.2 Fm u.2.1 ∧ (∀ c, c < 42 → u.2.2.1 c = Tm c + nI (u.2.2.2.2 c))) (fun (u : (Nat → Int32) × (Nat → Int32) × (Nat → Int32) × (Nat → Nat) × (Nat → Nat)) => [(m, .inr (9, [.ref mh, .ref mg, .ref mt, .ref mf, .ref ms, .ref msT, .ref msF, .ref mgv, .ref mP, .ref mW, .ref mV, .ref mco, .ref men, .ref mnt, .int tw, .int (mse + nI (lostN nb u.2.2.2.2 6)), .int mbr, .int mwk, .int mns, .int (nI (sN u.2.2.2.2 42)), .int mss])), (mh, .inl (ai, 42, .inl u.1)), (mf, .inl (ai, 168, .inl u.2.1)), (mt, .inl (ai, 42, .inl u.2.2.1)), (mP, .inl (az, 42, .inl Pm)), (mW, .inl (az, 168, .inl Wm))]) := by
  refine ofG_I (cc := cX9_settles) (nL := 3) (lv0 := [(0, .ref m)]) (by decide) rfl (Nat.le_of_ble_eq_true rfl) rfl ?_
  intro Γ X E
  have hNB := hW.nb
  refine g_aload_n X dX9_settles_0 rfl 0 rfl ?_
  refine g_iconst (v := nI 0) X dX9_settles_1 (by decide) ?_
  refine g_putf (T := TX9) (v := .int (nI 0)) (ty := tyX9 19) (ws' := [(m, .inr (9, [.ref mh, .ref mg, .ref mt, .ref mf, .ref ms, .ref msT, .ref msF, .ref mgv, .ref mP, .ref mW, .ref mV, .ref mco, .ref men, .ref mnt, .int tw, .int mse, .int mbr, .int mwk, .int mns, .int (nI 0), .int mss])), (mh, .inl (ai, 42, .inl Hm)), (mf, .inl (ai, 168, .inl Fm)), (mt, .inl (ai, 42, .inl Tm)), (mP, .inl (az, 42, .inl Pm)), (mW, .inl (az, 168, .inl Wm))]) X dX9_settles_2 0 rfl rfl in_X9_settles_X9 tyX9 tyX9_ok nmX9 19 (by decide) (by decide +kernel) rfl rfl (by decide +kernel) rfl rfl (Nat.le_of_ble_eq_true rfl) rfl ?_
  refine g_sub (k := 0) (n := 0) (ws' := [(m, .inr (9, [.ref mh, .ref mg, .ref mt, .ref mf, .ref ms, .ref msT, .ref msF, .ref mgv, .ref mP, .ref mW, .ref mV, .ref mco, .ref men, .ref mnt, .int tw, .int (mse + nI (lostN nb (fun _ => 0) 6)), .int mbr, .int mwk, .int mns, .int (nI (sN (fun _ => 0) 42)), .int mss])), (mh, .inl (ai, 42, .inl Hm)), (mf, .inl (ai, 168, .inl Fm)), (mt, .inl (ai, 42, .inl Tm)), (mP, .inl (az, 42, .inl Pm)), (mW, .inl (az, 168, .inl Wm))]) [0, 1, 2, 3, 4, 5] (by decide) (by rw [lost_zero, sN_zero, show nI 0 = (0 : Int32) from rfl, Int32.add_zero]; rfl) ?_
  refine g_bipush (v := (-2)) X dX9_settles_5 (by decide) ?_
  refine g_istore_n (lv' := [(1, .int (-2)), (0, .ref m)]) X dX9_settles_7 rfl (by decide) rfl ?_
  have L8 : ∀ (fl : Nat) (bf : Int32) (Ha_p : Nat → Int32) (Fa_p : Nat → Int32) (Ta_p : Nat → Int32) (hh_p : Nat → Nat) (uu_p : Nat → Nat), (SI nb pl h hh_p uu_p) → (HOK Ha_p hh_p) → (FlowTo nb uu_p Fm Fa_p) → (∀ c, c < 42 → Ta_p c = Tm c + nI (uu_p c)) → (bf = nI (sN uu_p 42) → ∀ c, c < 42 → hh_p c < lim pl c) → (882002 ≤ sN uu_p 42 + fl ∨ (bf = nI (sN uu_p 42) ∧ 1 ≤ fl)) → G Γ 3 0 0 [(m, .inr (9, [.ref mh, .ref mg, .ref mt, .ref mf, .ref ms, .ref msT, .ref msF, .ref mgv, .ref mP, .ref mW, .ref mV, .ref mco, .ref men, .ref mnt, .int tw, .int (mse + nI (lostN nb uu_p 6)), .int mbr, .int mwk, .int mns, .int (nI (sN uu_p 42)), .int mss])), (mh, .inl (ai, 42, .inl Ha_p)), (mf, .inl (ai, 168, .inl Fa_p)), (mt, .inl (ai, 42, .inl Ta_p)), (mP, .inl (az, 42, .inl Pm)), (mW, .inl (az, 168, .inl Wm))] [(0, .ref m), (1, .int bf)] 8 [] := by
    intro fl
    induction fl with
    | zero => intro bf Ha_p Fa_p Ta_p hh_p uu_p hSI_p hHa_p hFa_p hTa_p hst hm; rcases hm with hm | hm; (have := SI.usum hNB hC hSI_p; omega); exact absurd hm.2 (by decide)
    | succ fl ih8 =>
      intro bf Ha_p Fa_p Ta_p hh_p uu_p hSI_p hHa_p hFa_p hTa_p hst hm
      have hus := SI.usum hNB hC hSI_p
      refine g_iload_n X dX9_settles_8 rfl 1 rfl ?_
      refine g_aload_n X dX9_settles_9 rfl 0 rfl ?_
      refine g_getf (T := TX9) (v := .int (nI (sN uu_p 42))) X dX9_settles_10 0 rfl rfl in_X9_settles_X9 19 (by decide) (by decide +kernel) rfl rfl ?_
      refine g_icmp_eq (tgt := 57) X dX9_settles_13 (by decide) (fun b13 => ?_) (fun b13 => ?_)
      · refine g_aload_n X dX9_settles_57 rfl 0 rfl ?_
        refine g_getf (T := TX9) (v := .int (nI (sN uu_p 42))) X dX9_settles_58 0 rfl rfl in_X9_settles_X9 19 (by decide) (by decide +kernel) rfl rfl ?_
        exact g_iret X E dX9_settles_61 (⟨Ha_p, Fa_p, Ta_p, hh_p, uu_p⟩) rfl (by decide) (by decide) (⟨rfl, ⟨hSI_p, hst b13⟩, hHa_p, hFa_p, hTa_p⟩)
      · refine g_aload_n X dX9_settles_16 rfl 0 rfl ?_
        refine g_getf (T := TX9) (v := .int (nI (sN uu_p 42))) X dX9_settles_17 0 rfl rfl in_X9_settles_X9 19 (by decide) (by decide +kernel) rfl rfl ?_
        refine g_istore_n (lv' := [(1, .int (nI (sN uu_p 42))), (0, .ref m)]) X dX9_settles_20 rfl (by decide) rfl ?_
        refine g_iconst (v := nI 0) X dX9_settles_21 (by decide) ?_
        refine g_istore_n (lv' := [(2, .int (nI 0)), (1, .int (nI (sN uu_p 42))), (0, .ref m)]) X dX9_settles_22 rfl (by decide) rfl ?_
        have L23 : ∀ (fm : Nat) (i : Nat) (Ha_q : Nat → Int32) (Fa_q : Nat → Int32) (Ta_q : Nat → Int32) (hh_q : Nat → Nat) (uu_q : Nat → Nat), (i ≤ 42) → (SI nb pl h hh_q uu_q) → (HOK Ha_q hh_q) → (FlowTo nb uu_q Fm Fa_q) → (∀ c, c < 42 → Ta_q c = Tm c + nI (uu_q c)) → (sN uu_p 42 ≤ sN uu_q 42) → (sN uu_q 42 = sN uu_p 42 → ∀ c, c < i → hh_q c < lim pl c) → (43 ≤ i + fm) → G Γ 3 0 0 [(m, .inr (9, [.ref mh, .ref mg, .ref mt, .ref mf, .ref ms, .ref msT, .ref msF, .ref mgv, .ref mP, .ref mW, .ref mV, .ref mco, .ref men, .ref mnt, .int tw, .int (mse + nI (lostN nb uu_q 6)), .int mbr, .int mwk, .int mns, .int (nI (sN uu_q 42)), .int mss])), (mh, .inl (ai, 42, .inl Ha_q)), (mf, .inl (ai, 168, .inl Fa_q)), (mt, .inl (ai, 42, .inl Ta_q)), (mP, .inl (az, 42, .inl Pm)), (mW, .inl (az, 168, .inl Wm))] [(0, .ref m), (1, .int (nI (sN uu_p 42))), (2, .int (nI i))] 23 [] := by
          intro fm
          induction fm with
          | zero => intro i Ha_q Fa_q Ta_q hh_q uu_q hi hSI_q hHa_q hFa_q hTa_q hge hst_q hk; exact absurd hk (by omega)
          | succ fm ih23 =>
            intro i Ha_q Fa_q Ta_q hh_q uu_q hi hSI_q hHa_q hFa_q hTa_q hge hst_q hk
            have hus3 := SI.usum hNB hC hSI_q
            refine g_iload_n X dX9_settles_23 rfl 2 rfl ?_
            refine g_bipush (v := nI 42) X dX9_settles_24 (by decide) ?_
            refine g_icmp_geN (tgt := 54) X dX9_settles_26 (by decide) (by omega) (by omega) (fun b26 => ?_) (fun b26 => ?_)
            · refine g_goto (tgt := 8) X dX9_settles_54 (by decide) ?_
              refine g_lv (lv' := [(0, .ref m), (1, .int (nI (sN uu_p 42)))]) [0, 1] rfl ?_
              exact ih8 (nI (sN uu_p 42)) Ha_q Fa_q Ta_q hh_q uu_q (hSI_q) (hHa_q) (hFa_q) (hTa_q) (fun z c hc => hst_q (nI_inj (by omega) (by omega) z.symm) c (by omega)) (by have hus2 := SI.usum hNB hC hSI_q; by_cases z : sN uu_q 42 = sN uu_p 42; (refine Or.inr ⟨by rw [z], ?_⟩; rcases hm with q | q; omega; exact absurd q.1 b13); (refine Or.inl ?_; rcases hm with q | q; omega; exact absurd q.1 b13))
            · have hi42 : i < 42 := by omega
              have hbq := SI.hb hNB hC hSI_q hi42
              refine g_aload_n X dX9_settles_29 rfl 0 rfl ?_
              refine g_getf (T := TX9) (v := .ref mh) X dX9_settles_30 0 rfl rfl in_X9_settles_X9 0 (by decide) (by decide +kernel) rfl rfl ?_
              refine g_iload_n X dX9_settles_33 rfl 2 rfl ?_
              refine g_ialdN (v := nI (hh_q i)) X dX9_settles_34 1 0 rfl rfl (by omega) (by omega) (hHa_q i hi42) ?_
              refine g_aload_n X dX9_settles_35 rfl 0 rfl ?_
              refine g_iload_n X dX9_settles_36 rfl 2 rfl ?_
              refine g_callVi (C := RX9) (As := [.int (nI i)]) (rest := [.int (nI (hh_q i))]) (wr := [(mh, .inl (ai, 42, .inl Ha_q)), (mf, .inl (ai, 168, .inl Fa_q)), (mt, .inl (ai, 42, .inl Ta_q)), (mW, .inl (az, 168, .inl Wm))]) X dX9_settles_37 (c_X9_bound l D ai az al m mh mg mt mf ms msT msF mgv mP mW mV mco men mnt tw (mse + nI (lostN nb uu_q 6)) mbr mwk mns (nI (sN uu_q 42)) mss Pm pl i (hi42) (hP)) gX9_settles_X9_bound rfl rfl ok_X9_bound rfl rfl (by decide) ⟨by decide, by decide⟩ (Nat.le_of_ble_eq_true rfl) [0, 4] [1, 2, 3, 5] ⟨rfl, by decide, rfl, by decide, by decide⟩ 0 rfl rfl rfl (fun r1 u hp => ?_)
              obtain rfl := hp
              refine g_sub (k := 0) (n := 0) (ws' := [(m, .inr (9, [.ref mh, .ref mg, .ref mt, .ref mf, .ref ms, .ref msT, .ref msF, .ref mgv, .ref mP, .ref mW, .ref mV, .ref mco, .ref men, .ref mnt, .int tw, .int (mse + nI (lostN nb uu_q 6)), .int mbr, .int mwk, .int mns, .int (nI (sN uu_q 42)), .int mss])), (mh, .inl (ai, 42, .inl Ha_q)), (mf, .inl (ai, 168, .inl Fa_q)), (mt, .inl (ai, 42, .inl Ta_q)), (mP, .inl (az, 42, .inl Pm)), (mW, .inl (az, 168, .inl Wm))]) [4, 0, 1, 2, 5, 3] (by decide) rfl ?_
              refine g_icmp_ltN (tgt := 48) X dX9_settles_40 (by decide) (by omega) (lim_31 pl i) (fun b40 => ?_) (fun b40 => ?_)
              · refine g_iinc (v := nI (i + 1)) (lv' := [(2, .int (nI (i + 1))), (0, .ref m), (1, .int (nI (sN uu_p 42)))]) X dX9_settles_48 2 rfl (nI_inc _) (by decide) rfl ?_
                refine g_goto (tgt := 23) X dX9_settles_51 (by decide) ?_
                refine g_lv (lv' := [(0, .ref m), (1, .int (nI (sN uu_p 42))), (2, .int (nI (i + 1)))]) [1, 2, 0] rfl ?_
                exact ih23 (i + 1) Ha_q Fa_q Ta_q hh_q uu_q (by omega) (hSI_q) (hHa_q) (hFa_q) (hTa_q) (hge) (fun z c hc => by by_cases w : c = i; (rw [w]; exact b40); exact hst_q z c (by omega)) (by omega)
              · refine g_aload_n X dX9_settles_43 rfl 0 rfl ?_
                refine g_iload_n X dX9_settles_44 rfl 2 rfl ?_
                refine g_callVv (C := RX9) (As := [.int (nI i)]) (rest := []) (wr := [(mP, .inl (az, 42, .inl Pm))]) X dX9_settles_45 (c_X9_topples l D ai az al m mh mg mt mf ms msT msF mgv mP mW mV mco men mnt tw mbr mwk mns mss Ha_q Fa_q Ta_q Wm nb hh_q uu_q Fm mse i (hi42) (hW) (hWm) (hHa_q) (by have := (lim_ge pl i).1; omega) (hFa_q)) gX9_settles_X9_topples rfl rfl ok_X9_topples rfl rfl (by decide) ⟨by decide, by decide⟩ (Nat.le_of_ble_eq_true rfl) [0, 1, 2, 3, 5] [4] ⟨rfl, by decide, rfl, by decide, by decide⟩ 0 rfl rfl rfl (fun u hp => ?_)
                obtain ⟨H5, F5⟩ := u
                try dsimp only at hp
                obtain ⟨hH5, hF5⟩ := hp
                refine g_sub (k := 0) (n := 0) (ws' := [(m, .inr (9, [.ref mh, .ref mg, .ref mt, .ref mf, .ref ms, .ref msT, .ref msF, .ref mgv, .ref mP, .ref mW, .ref mV, .ref mco, .ref men, .ref mnt, .int tw, .int (mse + nI (lostN nb (addN uu_q i 1) 6)), .int mbr, .int mwk, .int mns, .int (nI (sN uu_q 42 + 1)), .int mss])), (mh, .inl (ai, 42, .inl H5)), (mf, .inl (ai, 168, .inl F5)), (mt, .inl (ai, 42, .inl (upd Ta_q i (Ta_q i + nI 1)))), (mP, .inl (az, 42, .inl Pm)), (mW, .inl (az, 168, .inl Wm))]) [1, 2, 3, 4, 0, 5] (by decide) rfl ?_
                rw [← sN_add (f := uu_q) (c := i) (k := 1) (n := 42) (by omega)]
                refine g_iinc (v := nI (i + 1)) (lv' := [(2, .int (nI (i + 1))), (0, .ref m), (1, .int (nI (sN uu_p 42)))]) X dX9_settles_48 2 rfl (nI_inc _) (by decide) rfl ?_
                refine g_goto (tgt := 23) X dX9_settles_51 (by decide) ?_
                refine g_lv (lv' := [(0, .ref m), (1, .int (nI (sN uu_p 42))), (2, .int (nI (i + 1)))]) [1, 2, 0] rfl ?_
                exact ih23 (i + 1) H5 F5 (upd Ta_q i (Ta_q i + nI 1)) (tpR nb hh_q i 4) (addN uu_q i 1) (by omega) (hSI_q.step1 hNB (by omega) b40) (hH5) (hF5) (fun c hc => by by_cases z : c = i; (subst z; rw [upd_at, hTa_q c hc]; show _ = _ + nI (if c = c then uu_q c + 1 else uu_q c); rw [if_pos rfl, ← nI_add, Int32.add_assoc]); (rw [upd_ne z, hTa_q c hc]; show _ = _ + nI (if c = i then uu_q c + 1 else uu_q c); rw [if_neg z])) (by rw [sN_add (by omega)]; omega) (fun z => by rw [sN_add (by omega)] at z; omega) (by omega)
        refine g_lv (lv' := [(0, .ref m), (1, .int (nI (sN uu_p 42))), (2, .int (nI 0))]) [2, 1, 0] rfl ?_
        exact L23 43 0 Ha_p Fa_p Ta_p hh_p uu_p (by decide) (hSI_p) (hHa_p) (hFa_p) (hTa_p) (Nat.le_refl _) (fun _ c hc => absurd hc (by omega)) (by decide)
  refine g_lv (lv' := [(0, .ref m), (1, .int (-2))]) [1, 0] rfl ?_
  exact L8 882002 (-2) Hm Fm Tm h (fun _ => 0) (SI.start) (hH) (FlowTo.start) (fun c _ => (Int32.add_zero _).symm) (fun z => absurd z (by decide)) (Or.inl (by omega))

theorem ok_X9_pours : okName yX9_pours 2 := by decide +kernel
theorem in_X9_pours_X9 : ∀ w ∈ u_ws RX9 TX9 21, w ∈ wsX9_pours := by decide +kernel
set_option maxRecDepth 100000 in
set_option maxHeartbeats 4000000 in
theorem c_X9_pours (l : Launch) (D : va_G) (ai az al : ClassId) (m : Nat) (mh : Nat) (mg : Nat) (mt : Nat) (mf : Nat) (ms : Nat) (msT : Nat) (msF : Nat) (mgv : Nat) (mP : Nat) (mW : Nat) (mV : Nat) (mco : Nat) (men : Nat) (mnt : Nat) (tw : Int32) (mse : Int32) (mbr : Int32) (mwk : Int32) (mns : Int32) (mtp : Int32) (mss : Int32) (Hm : Nat → Int32) (Fm : Nat → Int32) (Tm : Nat → Int32) (Pm : Nat → Int32) (Wm : Nat → Int32) (nb : Nat → Nat → Nat) (pl : Nat → Bool) (h : Nat → Nat) (c : Nat) (n : Nat) (hW : NW nb) (hWm : WOK Wm nb) (hC : Cn nb) (hP : POK Pm pl) (hH : HOK Hm h) (hc : c < 42) (hn : sN h 42 + n ≤ 500) : CI l D (tY ai az al) yX9_pours wsX9_pours { frames := 4, cells := 0, slots := 0, locals := 90 } [.ref m, .int (nI c), .int (nI n)] [(m, .inr (9, [.ref mh, .ref mg, .ref mt, .ref mf, .ref ms, .ref msT, .ref msF, .ref mgv, .ref mP, .ref mW, .ref mV, .ref mco, .ref men, .ref mnt, .int tw, .int mse, .int mbr, .int mwk, .int mns, .int mtp, .int mss])), (mh, .inl (ai, 42, .inl Hm)), (mf, .inl (ai, 168, .inl Fm)), (mt, .inl (ai, 42, .inl Tm)), (mP, .inl (az, 42, .inl Pm)), (mW, .inl (az, 168, .inl Wm))] (fun (r : Int32) (u : (Nat → Int32) × (Nat → Int32) × (Nat → Int32) × (Nat → Nat) × (Nat → Nat)) => r = nI (sN u.2.2.2.2 42) ∧ Stl nb pl (addN h c n) u.2.2.2.1 u.2.2.2.2 ∧ HOK u.1 u.2.2.2.1 ∧ FlowTo nb u.2.2.2.2 Fm u.2.1 ∧ (∀ c, c < 42 → u.2.2.1 c = Tm c + nI (u.2.2.2.2 c))) (fun (u : (Nat → Int32) × (Nat → Int32) × (Nat → Int32) × (Nat → Nat) × (Nat → Nat)) => [(m, .inr (9, [.ref mh, .ref mg, .ref mt, .ref mf, .ref ms, .ref msT, .ref msF, .ref mgv, .ref mP, .ref mW, .ref mV, .ref mco, .ref men, .ref mnt, .int tw, .int (mse + nI (lostN nb u.2.2.2.2 6)), .int mbr, .int mwk, .int mns, .int (nI (sN u.2.2.2.2 42)), .int mss])), (mh, .inl (ai, 42, .inl u.1)), (mf, .inl (ai, 168, .inl u.2.1)), (mt, .inl (ai, 42, .inl u.2.2.1)), (mP, .inl (az, 42, .inl Pm)), (mW, .inl (az, 168, .inl Wm))]) := by
  refine ofG_I (cc := cX9_pours) (nL := 3) (lv0 := [(0, .ref m), (1, .int (nI c)), (2, .int (nI n))]) (by decide) rfl (Nat.le_of_ble_eq_true rfl) rfl ?_
  intro Γ X E
  refine g_aload_n X dX9_pours_0 rfl 0 rfl ?_
  refine g_getf (T := TX9) (v := .ref mh) X dX9_pours_1 0 rfl rfl in_X9_pours_X9 0 (by decide) (by decide +kernel) rfl rfl ?_
  refine g_iload_n X dX9_pours_4 rfl 1 rfl ?_
  refine g_dup2 X dX9_pours_5 rfl rfl ?_
  refine g_ialdN (v := (Hm c)) X dX9_pours_6 1 0 rfl rfl (by omega) (by omega) (rfl) ?_
  refine g_iload_n X dX9_pours_7 rfl 2 rfl ?_
  refine g_iadd (v := ((Hm c) + nI n)) X dX9_pours_8 (rfl) ?_
  refine g_iastN (g' := upd Hm c ((Hm c) + nI n)) (ws' := [(m, .inr (9, [.ref mh, .ref mg, .ref mt, .ref mf, .ref ms, .ref msT, .ref msF, .ref mgv, .ref mP, .ref mW, .ref mV, .ref mco, .ref men, .ref mnt, .int tw, .int mse, .int mbr, .int mwk, .int mns, .int mtp, .int mss])), (mh, .inl (ai, 42, .inl (upd Hm c ((Hm c) + nI n)))), (mf, .inl (ai, 168, .inl Fm)), (mt, .inl (ai, 42, .inl Tm)), (mP, .inl (az, 42, .inl Pm)), (mW, .inl (az, 168, .inl Wm))]) X dX9_pours_9 1 0 rfl rfl (by omega) (by omega) (rfl) rfl ?_
  refine g_aload_n X dX9_pours_10 rfl 0 rfl ?_
  refine g_callVi (C := RX9) (As := []) (rest := []) (wr := []) X dX9_pours_11 (c_X9_settles l D ai az al m mh mg mt mf ms msT msF mgv mP mW mV mco men mnt tw mse mbr mwk mns mtp mss (upd Hm c ((Hm c) + nI n)) Fm Tm Pm Wm nb pl (addN h c n) (hW) (hWm) (hC) (hP) (hH.add1 hc) (by rw [sN_add hc]; exact hn)) gX9_pours_X9_settles rfl rfl ok_X9_settles rfl rfl (by decide) ⟨by decide, by decide⟩ (Nat.le_of_ble_eq_true rfl) [0, 1, 2, 3, 4, 5] [] ⟨rfl, by decide, rfl, by decide, by decide⟩ 0 rfl rfl rfl (fun r1 u hp => ?_)
  obtain ⟨H5, F5, T5, h5, u5⟩ := u
  try dsimp only at hp
  obtain ⟨rfl, hS5, hH5, hF5, hT5⟩ := hp
  refine g_sub (k := 0) (n := 0) (ws' := [(m, .inr (9, [.ref mh, .ref mg, .ref mt, .ref mf, .ref ms, .ref msT, .ref msF, .ref mgv, .ref mP, .ref mW, .ref mV, .ref mco, .ref men, .ref mnt, .int tw, .int (mse + nI (lostN nb u5 6)), .int mbr, .int mwk, .int mns, .int (nI (sN u5 42)), .int mss])), (mh, .inl (ai, 42, .inl H5)), (mf, .inl (ai, 168, .inl F5)), (mt, .inl (ai, 42, .inl T5)), (mP, .inl (az, 42, .inl Pm)), (mW, .inl (az, 168, .inl Wm))]) [0, 1, 2, 3, 4, 5] (by decide) rfl ?_
  exact g_iret X E dX9_pours_14 (⟨H5, F5, T5, h5, u5⟩) rfl (by decide) (by decide) (⟨rfl, hS5, hH5, hF5, hT5⟩)

theorem ok_X9_saves : okName yX9_saves 0 := by decide +kernel
theorem in_X9_saves_X9 : ∀ w ∈ u_ws RX9 TX9 21, w ∈ wsX9_saves := by decide +kernel
set_option maxRecDepth 100000 in
set_option maxHeartbeats 4000000 in
theorem c_X9_saves (l : Launch) (D : va_G) (ai az al : ClassId) (m : Nat) (mh : Nat) (mg : Nat) (mt : Nat) (mf : Nat) (ms : Nat) (msT : Nat) (msF : Nat) (mgv : Nat) (mP : Nat) (mW : Nat) (mV : Nat) (mco : Nat) (men : Nat) (mnt : Nat) (tw : Int32) (mse : Int32) (mbr : Int32) (mwk : Int32) (mns : Int32) (mtp : Int32) (mss : Int32) (Hm : Nat → Int32) (Tm : Nat → Int32) (Fm : Nat → Int32) (Sm : Nat → Int32) (STm : Nat → Int32) (SFm : Nat → Int32) : CV l D (tY ai az al) yX9_saves wsX9_saves { frames := 0, cells := 0, slots := 0, locals := 0 } [.ref m] [(m, .inr (9, [.ref mh, .ref mg, .ref mt, .ref mf, .ref ms, .ref msT, .ref msF, .ref mgv, .ref mP, .ref mW, .ref mV, .ref mco, .ref men, .ref mnt, .int tw, .int mse, .int mbr, .int mwk, .int mns, .int mtp, .int mss])), (mh, .inl (ai, 42, .inl Hm)), (mt, .inl (ai, 42, .inl Tm)), (mf, .inl (ai, 168, .inl Fm)), (ms, .inl (ai, 42, .inl Sm)), (msT, .inl (ai, 42, .inl STm)), (msF, .inl (ai, 168, .inl SFm))] (fun (u : Unit) => True) (fun (u : Unit) => [(m, .inr (9, [.ref mh, .ref mg, .ref mt, .ref mf, .ref ms, .ref msT, .ref msF, .ref mgv, .ref mP, .ref mW, .ref mV, .ref mco, .ref men, .ref mnt, .int tw, .int mse, .int mbr, .int mwk, .int mns, .int mtp, .int mse])), (mh, .inl (ai, 42, .inl Hm)), (mt, .inl (ai, 42, .inl Tm)), (mf, .inl (ai, 168, .inl Fm)), (ms, .inl (ai, 42, .inl Hm)), (msT, .inl (ai, 42, .inl Tm)), (msF, .inl (ai, 168, .inl Fm))]) := by
  refine ofG_V (cc := cX9_saves) (nL := 2) (lv0 := [(0, .ref m)]) (by decide) rfl (Nat.le_of_ble_eq_true rfl) rfl ?_
  intro Γ X E hinit
  refine g_iconst (v := nI 0) X dX9_saves_0 (by decide) ?_
  refine g_istore_n (lv' := [(1, .int (nI 0)), (0, .ref m)]) X dX9_saves_1 rfl (by decide) rfl ?_
  have L2 : ∀ (fl : Nat) (i : Nat) (Xa : Nat → Int32) (Xb : Nat → Int32), (i ≤ 42) → (∀ j, j < i → Xa j = Hm j) → (∀ j, j < i → Xb j = Tm j) → (43 ≤ i + fl) → G Γ 2 0 0 [(m, .inr (9, [.ref mh, .ref mg, .ref mt, .ref mf, .ref ms, .ref msT, .ref msF, .ref mgv, .ref mP, .ref mW, .ref mV, .ref mco, .ref men, .ref mnt, .int tw, .int mse, .int mbr, .int mwk, .int mns, .int mtp, .int mss])), (mh, .inl (ai, 42, .inl Hm)), (mt, .inl (ai, 42, .inl Tm)), (mf, .inl (ai, 168, .inl Fm)), (ms, .inl (ai, 42, .inl Xa)), (msT, .inl (ai, 42, .inl Xb)), (msF, .inl (ai, 168, .inl SFm))] [(0, .ref m), (1, .int (nI i))] 2 [] := by
    intro fl
    induction fl with
    | zero => intro i Xa Xb hi h1 h2 hm; exact absurd hm (by omega)
    | succ fl ih2 =>
      intro i Xa Xb hi h1 h2 hm
      refine g_iload_n X dX9_saves_2 rfl 1 rfl ?_
      refine g_bipush (v := nI 42) X dX9_saves_3 (by decide) ?_
      refine g_icmp_geN (tgt := 38) X dX9_saves_5 (by decide) (by omega) (by omega) (fun b5 => ?_) (fun b5 => ?_)
      · refine g_arr (g := Hm) (ws' := [(m, .inr (9, [.ref mh, .ref mg, .ref mt, .ref mf, .ref ms, .ref msT, .ref msF, .ref mgv, .ref mP, .ref mW, .ref mV, .ref mco, .ref men, .ref mnt, .int tw, .int mse, .int mbr, .int mwk, .int mns, .int mtp, .int mss])), (mh, .inl (ai, 42, .inl Hm)), (mt, .inl (ai, 42, .inl Tm)), (mf, .inl (ai, 168, .inl Fm)), (ms, .inl (ai, 42, .inl Hm)), (msT, .inl (ai, 42, .inl Xb)), (msF, .inl (ai, 168, .inl SFm))]) 4 rfl (fun j hj => h1 j (by omega)) rfl ?_
        refine g_arr (g := Tm) (ws' := [(m, .inr (9, [.ref mh, .ref mg, .ref mt, .ref mf, .ref ms, .ref msT, .ref msF, .ref mgv, .ref mP, .ref mW, .ref mV, .ref mco, .ref men, .ref mnt, .int tw, .int mse, .int mbr, .int mwk, .int mns, .int mtp, .int mss])), (mh, .inl (ai, 42, .inl Hm)), (mt, .inl (ai, 42, .inl Tm)), (mf, .inl (ai, 168, .inl Fm)), (ms, .inl (ai, 42, .inl Hm)), (msT, .inl (ai, 42, .inl Tm)), (msF, .inl (ai, 168, .inl SFm))]) 5 rfl (fun j hj => h2 j (by omega)) rfl ?_
        refine g_iconst (v := nI 0) X dX9_saves_38 (by decide) ?_
        refine g_istore_n (lv' := [(1, .int (nI 0)), (0, .ref m)]) X dX9_saves_39 rfl (by decide) rfl ?_
        have L40 : ∀ (fm : Nat) (j : Nat) (Xc : Nat → Int32), (j ≤ 168) → (∀ k, k < j → Xc k = Fm k) → (169 ≤ j + fm) → G Γ 2 0 0 [(m, .inr (9, [.ref mh, .ref mg, .ref mt, .ref mf, .ref ms, .ref msT, .ref msF, .ref mgv, .ref mP, .ref mW, .ref mV, .ref mco, .ref men, .ref mnt, .int tw, .int mse, .int mbr, .int mwk, .int mns, .int mtp, .int mss])), (mh, .inl (ai, 42, .inl Hm)), (mt, .inl (ai, 42, .inl Tm)), (mf, .inl (ai, 168, .inl Fm)), (ms, .inl (ai, 42, .inl Hm)), (msT, .inl (ai, 42, .inl Tm)), (msF, .inl (ai, 168, .inl Xc))] [(0, .ref m), (1, .int (nI j))] 40 [] := by
          intro fm
          induction fm with
          | zero => intro j Xc hj h3 hk; exact absurd hk (by omega)
          | succ fm ih40 =>
            intro j Xc hj h3 hk
            refine g_iload_n X dX9_saves_40 rfl 1 rfl ?_
            refine g_sipush (v := nI 168) X dX9_saves_41 (by decide) ?_
            refine g_icmp_geN (tgt := 65) X dX9_saves_44 (by decide) (by omega) (by omega) (fun b44 => ?_) (fun b44 => ?_)
            · refine g_arr (g := Fm) (ws' := [(m, .inr (9, [.ref mh, .ref mg, .ref mt, .ref mf, .ref ms, .ref msT, .ref msF, .ref mgv, .ref mP, .ref mW, .ref mV, .ref mco, .ref men, .ref mnt, .int tw, .int mse, .int mbr, .int mwk, .int mns, .int mtp, .int mss])), (mh, .inl (ai, 42, .inl Hm)), (mt, .inl (ai, 42, .inl Tm)), (mf, .inl (ai, 168, .inl Fm)), (ms, .inl (ai, 42, .inl Hm)), (msT, .inl (ai, 42, .inl Tm)), (msF, .inl (ai, 168, .inl Fm))]) 6 rfl (fun k hk => h3 k (by omega)) rfl ?_
              refine g_aload_n X dX9_saves_65 rfl 0 rfl ?_
              refine g_aload_n X dX9_saves_66 rfl 0 rfl ?_
              refine g_getf (T := TX9) (v := .int mse) X dX9_saves_67 0 rfl rfl in_X9_saves_X9 15 (by decide) (by decide +kernel) rfl rfl ?_
              refine g_putf (T := TX9) (v := .int mse) (ty := tyX9 20) (ws' := [(m, .inr (9, [.ref mh, .ref mg, .ref mt, .ref mf, .ref ms, .ref msT, .ref msF, .ref mgv, .ref mP, .ref mW, .ref mV, .ref mco, .ref men, .ref mnt, .int tw, .int mse, .int mbr, .int mwk, .int mns, .int mtp, .int mse])), (mh, .inl (ai, 42, .inl Hm)), (mt, .inl (ai, 42, .inl Tm)), (mf, .inl (ai, 168, .inl Fm)), (ms, .inl (ai, 42, .inl Hm)), (msT, .inl (ai, 42, .inl Tm)), (msF, .inl (ai, 168, .inl Fm))]) X dX9_saves_70 0 rfl rfl in_X9_saves_X9 tyX9 tyX9_ok nmX9 20 (by decide) (by decide +kernel) rfl rfl (by decide +kernel) rfl rfl (Nat.le_of_ble_eq_true rfl) rfl ?_
              exact g_vret X E dX9_saves_73 () rfl (by decide) (by decide) (trivial)
            · refine g_aload_n X dX9_saves_47 rfl 0 rfl ?_
              refine g_getf (T := TX9) (v := .ref msF) X dX9_saves_48 0 rfl rfl in_X9_saves_X9 6 (by decide) (by decide +kernel) rfl rfl ?_
              refine g_iload_n X dX9_saves_51 rfl 1 rfl ?_
              refine g_aload_n X dX9_saves_52 rfl 0 rfl ?_
              refine g_getf (T := TX9) (v := .ref mf) X dX9_saves_53 0 rfl rfl in_X9_saves_X9 3 (by decide) (by decide +kernel) rfl rfl ?_
              refine g_iload_n X dX9_saves_56 rfl 1 rfl ?_
              refine g_ialdN (v := (Fm j)) X dX9_saves_57 3 0 rfl rfl (by omega) (by omega) (rfl) ?_
              refine g_iastN (g' := upd Xc j (Fm j)) (ws' := [(m, .inr (9, [.ref mh, .ref mg, .ref mt, .ref mf, .ref ms, .ref msT, .ref msF, .ref mgv, .ref mP, .ref mW, .ref mV, .ref mco, .ref men, .ref mnt, .int tw, .int mse, .int mbr, .int mwk, .int mns, .int mtp, .int mss])), (mh, .inl (ai, 42, .inl Hm)), (mt, .inl (ai, 42, .inl Tm)), (mf, .inl (ai, 168, .inl Fm)), (ms, .inl (ai, 42, .inl Hm)), (msT, .inl (ai, 42, .inl Tm)), (msF, .inl (ai, 168, .inl (upd Xc j (Fm j))))]) X dX9_saves_58 6 0 rfl rfl (by omega) (by omega) (rfl) rfl ?_
              refine g_iinc (v := nI (j + 1)) (lv' := [(1, .int (nI (j + 1))), (0, .ref m)]) X dX9_saves_59 1 rfl (nI_inc _) (by decide) rfl ?_
              refine g_goto (tgt := 40) X dX9_saves_62 (by decide) ?_
              refine g_lv (lv' := [(0, .ref m), (1, .int (nI (j + 1)))]) [1, 0] rfl ?_
              exact ih40 (j + 1) (upd Xc j (Fm j)) (by omega) (agree_upd h3 rfl) (by omega)
        refine g_lv (lv' := [(0, .ref m), (1, .int (nI 0))]) [1, 0] rfl ?_
        exact L40 169 0 SFm (by decide) (fun j hj => absurd hj (by omega)) (by decide)
      · refine g_aload_n X dX9_saves_8 rfl 0 rfl ?_
        refine g_getf (T := TX9) (v := .ref ms) X dX9_saves_9 0 rfl rfl in_X9_saves_X9 4 (by decide) (by decide +kernel) rfl rfl ?_
        refine g_iload_n X dX9_saves_12 rfl 1 rfl ?_
        refine g_aload_n X dX9_saves_13 rfl 0 rfl ?_
        refine g_getf (T := TX9) (v := .ref mh) X dX9_saves_14 0 rfl rfl in_X9_saves_X9 0 (by decide) (by decide +kernel) rfl rfl ?_
        refine g_iload_n X dX9_saves_17 rfl 1 rfl ?_
        refine g_ialdN (v := (Hm i)) X dX9_saves_18 1 0 rfl rfl (by omega) (by omega) (rfl) ?_
        refine g_iastN (g' := upd Xa i (Hm i)) (ws' := [(m, .inr (9, [.ref mh, .ref mg, .ref mt, .ref mf, .ref ms, .ref msT, .ref msF, .ref mgv, .ref mP, .ref mW, .ref mV, .ref mco, .ref men, .ref mnt, .int tw, .int mse, .int mbr, .int mwk, .int mns, .int mtp, .int mss])), (mh, .inl (ai, 42, .inl Hm)), (mt, .inl (ai, 42, .inl Tm)), (mf, .inl (ai, 168, .inl Fm)), (ms, .inl (ai, 42, .inl (upd Xa i (Hm i)))), (msT, .inl (ai, 42, .inl Xb)), (msF, .inl (ai, 168, .inl SFm))]) X dX9_saves_19 4 0 rfl rfl (by omega) (by omega) (rfl) rfl ?_
        refine g_aload_n X dX9_saves_20 rfl 0 rfl ?_
        refine g_getf (T := TX9) (v := .ref msT) X dX9_saves_21 0 rfl rfl in_X9_saves_X9 5 (by decide) (by decide +kernel) rfl rfl ?_
        refine g_iload_n X dX9_saves_24 rfl 1 rfl ?_
        refine g_aload_n X dX9_saves_25 rfl 0 rfl ?_
        refine g_getf (T := TX9) (v := .ref mt) X dX9_saves_26 0 rfl rfl in_X9_saves_X9 2 (by decide) (by decide +kernel) rfl rfl ?_
        refine g_iload_n X dX9_saves_29 rfl 1 rfl ?_
        refine g_ialdN (v := (Tm i)) X dX9_saves_30 2 0 rfl rfl (by omega) (by omega) (rfl) ?_
        refine g_iastN (g' := upd Xb i (Tm i)) (ws' := [(m, .inr (9, [.ref mh, .ref mg, .ref mt, .ref mf, .ref ms, .ref msT, .ref msF, .ref mgv, .ref mP, .ref mW, .ref mV, .ref mco, .ref men, .ref mnt, .int tw, .int mse, .int mbr, .int mwk, .int mns, .int mtp, .int mss])), (mh, .inl (ai, 42, .inl Hm)), (mt, .inl (ai, 42, .inl Tm)), (mf, .inl (ai, 168, .inl Fm)), (ms, .inl (ai, 42, .inl (upd Xa i (Hm i)))), (msT, .inl (ai, 42, .inl (upd Xb i (Tm i)))), (msF, .inl (ai, 168, .inl SFm))]) X dX9_saves_31 5 0 rfl rfl (by omega) (by omega) (rfl) rfl ?_
        refine g_iinc (v := nI (i + 1)) (lv' := [(1, .int (nI (i + 1))), (0, .ref m)]) X dX9_saves_32 1 rfl (nI_inc _) (by decide) rfl ?_
        refine g_goto (tgt := 2) X dX9_saves_35 (by decide) ?_
        refine g_lv (lv' := [(0, .ref m), (1, .int (nI (i + 1)))]) [1, 0] rfl ?_
        exact ih2 (i + 1) (upd Xa i (Hm i)) (upd Xb i (Tm i)) (by omega) (agree_upd h1 rfl) (agree_upd h2 rfl) (by omega)
  refine g_lv (lv' := [(0, .ref m), (1, .int (nI 0))]) [1, 0] rfl ?_
  exact L2 43 0 Sm STm (by decide) (fun j hj => absurd hj (by omega)) (fun j hj => absurd hj (by omega)) (by decide)

theorem ok_X9_restores : okName yX9_restores 0 := by decide +kernel
theorem in_X9_restores_X9 : ∀ w ∈ u_ws RX9 TX9 21, w ∈ wsX9_restores := by decide +kernel
set_option maxRecDepth 100000 in
set_option maxHeartbeats 4000000 in
theorem c_X9_restores (l : Launch) (D : va_G) (ai az al : ClassId) (m : Nat) (mh : Nat) (mg : Nat) (mt : Nat) (mf : Nat) (ms : Nat) (msT : Nat) (msF : Nat) (mgv : Nat) (mP : Nat) (mW : Nat) (mV : Nat) (mco : Nat) (men : Nat) (mnt : Nat) (tw : Int32) (mse : Int32) (mbr : Int32) (mwk : Int32) (mns : Int32) (mtp : Int32) (mss : Int32) (Hm : Nat → Int32) (Tm : Nat → Int32) (Fm : Nat → Int32) (Sm : Nat → Int32) (STm : Nat → Int32) (SFm : Nat → Int32) : CV l D (tY ai az al) yX9_restores wsX9_restores { frames := 0, cells := 0, slots := 0, locals := 0 } [.ref m] [(m, .inr (9, [.ref mh, .ref mg, .ref mt, .ref mf, .ref ms, .ref msT, .ref msF, .ref mgv, .ref mP, .ref mW, .ref mV, .ref mco, .ref men, .ref mnt, .int tw, .int mse, .int mbr, .int mwk, .int mns, .int mtp, .int mss])), (mh, .inl (ai, 42, .inl Hm)), (mt, .inl (ai, 42, .inl Tm)), (mf, .inl (ai, 168, .inl Fm)), (ms, .inl (ai, 42, .inl Sm)), (msT, .inl (ai, 42, .inl STm)), (msF, .inl (ai, 168, .inl SFm))] (fun (u : Unit) => True) (fun (u : Unit) => [(m, .inr (9, [.ref mh, .ref mg, .ref mt, .ref mf, .ref ms, .ref msT, .ref msF, .ref mgv, .ref mP, .ref mW, .ref mV, .ref mco, .ref men, .ref mnt, .int tw, .int mss, .int mbr, .int mwk, .int mns, .int mtp, .int mss])), (mh, .inl (ai, 42, .inl Sm)), (mt, .inl (ai, 42, .inl STm)), (mf, .inl (ai, 168, .inl SFm)), (ms, .inl (ai, 42, .inl Sm)), (msT, .inl (ai, 42, .inl STm)), (msF, .inl (ai, 168, .inl SFm))]) := by
  refine ofG_V (cc := cX9_restores) (nL := 2) (lv0 := [(0, .ref m)]) (by decide) rfl (Nat.le_of_ble_eq_true rfl) rfl ?_
  intro Γ X E hinit
  refine g_iconst (v := nI 0) X dX9_restores_0 (by decide) ?_
  refine g_istore_n (lv' := [(1, .int (nI 0)), (0, .ref m)]) X dX9_restores_1 rfl (by decide) rfl ?_
  have L2 : ∀ (fl : Nat) (i : Nat) (Xa : Nat → Int32) (Xb : Nat → Int32), (i ≤ 42) → (∀ j, j < i → Xa j = Sm j) → (∀ j, j < i → Xb j = STm j) → (43 ≤ i + fl) → G Γ 2 0 0 [(m, .inr (9, [.ref mh, .ref mg, .ref mt, .ref mf, .ref ms, .ref msT, .ref msF, .ref mgv, .ref mP, .ref mW, .ref mV, .ref mco, .ref men, .ref mnt, .int tw, .int mse, .int mbr, .int mwk, .int mns, .int mtp, .int mss])), (mh, .inl (ai, 42, .inl Xa)), (mt, .inl (ai, 42, .inl Xb)), (mf, .inl (ai, 168, .inl Fm)), (ms, .inl (ai, 42, .inl Sm)), (msT, .inl (ai, 42, .inl STm)), (msF, .inl (ai, 168, .inl SFm))] [(0, .ref m), (1, .int (nI i))] 2 [] := by
    intro fl
    induction fl with
    | zero => intro i Xa Xb hi h1 h2 hm; exact absurd hm (by omega)
    | succ fl ih2 =>
      intro i Xa Xb hi h1 h2 hm
      refine g_iload_n X dX9_restores_2 rfl 1 rfl ?_
      refine g_bipush (v := nI 42) X dX9_restores_3 (by decide) ?_
      refine g_icmp_geN (tgt := 38) X dX9_restores_5 (by decide) (by omega) (by omega) (fun b5 => ?_) (fun b5 => ?_)
      · refine g_arr (g := Sm) (ws' := [(m, .inr (9, [.ref mh, .ref mg, .ref mt, .ref mf, .ref ms, .ref msT, .ref msF, .ref mgv, .ref mP, .ref mW, .ref mV, .ref mco, .ref men, .ref mnt, .int tw, .int mse, .int mbr, .int mwk, .int mns, .int mtp, .int mss])), (mh, .inl (ai, 42, .inl Sm)), (mt, .inl (ai, 42, .inl Xb)), (mf, .inl (ai, 168, .inl Fm)), (ms, .inl (ai, 42, .inl Sm)), (msT, .inl (ai, 42, .inl STm)), (msF, .inl (ai, 168, .inl SFm))]) 1 rfl (fun j hj => h1 j (by omega)) rfl ?_
        refine g_arr (g := STm) (ws' := [(m, .inr (9, [.ref mh, .ref mg, .ref mt, .ref mf, .ref ms, .ref msT, .ref msF, .ref mgv, .ref mP, .ref mW, .ref mV, .ref mco, .ref men, .ref mnt, .int tw, .int mse, .int mbr, .int mwk, .int mns, .int mtp, .int mss])), (mh, .inl (ai, 42, .inl Sm)), (mt, .inl (ai, 42, .inl STm)), (mf, .inl (ai, 168, .inl Fm)), (ms, .inl (ai, 42, .inl Sm)), (msT, .inl (ai, 42, .inl STm)), (msF, .inl (ai, 168, .inl SFm))]) 2 rfl (fun j hj => h2 j (by omega)) rfl ?_
        refine g_iconst (v := nI 0) X dX9_restores_38 (by decide) ?_
        refine g_istore_n (lv' := [(1, .int (nI 0)), (0, .ref m)]) X dX9_restores_39 rfl (by decide) rfl ?_
        have L40 : ∀ (fm : Nat) (j : Nat) (Xc : Nat → Int32), (j ≤ 168) → (∀ k, k < j → Xc k = SFm k) → (169 ≤ j + fm) → G Γ 2 0 0 [(m, .inr (9, [.ref mh, .ref mg, .ref mt, .ref mf, .ref ms, .ref msT, .ref msF, .ref mgv, .ref mP, .ref mW, .ref mV, .ref mco, .ref men, .ref mnt, .int tw, .int mse, .int mbr, .int mwk, .int mns, .int mtp, .int mss])), (mh, .inl (ai, 42, .inl Sm)), (mt, .inl (ai, 42, .inl STm)), (mf, .inl (ai, 168, .inl Xc)), (ms, .inl (ai, 42, .inl Sm)), (msT, .inl (ai, 42, .inl STm)), (msF, .inl (ai, 168, .inl SFm))] [(0, .ref m), (1, .int (nI j))] 40 [] := by
          intro fm
          induction fm with
          | zero => intro j Xc hj h3 hk; exact absurd hk (by omega)
          | succ fm ih40 =>
            intro j Xc hj h3 hk
            refine g_iload_n X dX9_restores_40 rfl 1 rfl ?_
            refine g_sipush (v := nI 168) X dX9_restores_41 (by decide) ?_
            refine g_icmp_geN (tgt := 65) X dX9_restores_44 (by decide) (by omega) (by omega) (fun b44 => ?_) (fun b44 => ?_)
            · refine g_arr (g := SFm) (ws' := [(m, .inr (9, [.ref mh, .ref mg, .ref mt, .ref mf, .ref ms, .ref msT, .ref msF, .ref mgv, .ref mP, .ref mW, .ref mV, .ref mco, .ref men, .ref mnt, .int tw, .int mse, .int mbr, .int mwk, .int mns, .int mtp, .int mss])), (mh, .inl (ai, 42, .inl Sm)), (mt, .inl (ai, 42, .inl STm)), (mf, .inl (ai, 168, .inl SFm)), (ms, .inl (ai, 42, .inl Sm)), (msT, .inl (ai, 42, .inl STm)), (msF, .inl (ai, 168, .inl SFm))]) 3 rfl (fun k hk => h3 k (by omega)) rfl ?_
              refine g_aload_n X dX9_restores_65 rfl 0 rfl ?_
              refine g_aload_n X dX9_restores_66 rfl 0 rfl ?_
              refine g_getf (T := TX9) (v := .int mss) X dX9_restores_67 0 rfl rfl in_X9_restores_X9 20 (by decide) (by decide +kernel) rfl rfl ?_
              refine g_putf (T := TX9) (v := .int mss) (ty := tyX9 15) (ws' := [(m, .inr (9, [.ref mh, .ref mg, .ref mt, .ref mf, .ref ms, .ref msT, .ref msF, .ref mgv, .ref mP, .ref mW, .ref mV, .ref mco, .ref men, .ref mnt, .int tw, .int mss, .int mbr, .int mwk, .int mns, .int mtp, .int mss])), (mh, .inl (ai, 42, .inl Sm)), (mt, .inl (ai, 42, .inl STm)), (mf, .inl (ai, 168, .inl SFm)), (ms, .inl (ai, 42, .inl Sm)), (msT, .inl (ai, 42, .inl STm)), (msF, .inl (ai, 168, .inl SFm))]) X dX9_restores_70 0 rfl rfl in_X9_restores_X9 tyX9 tyX9_ok nmX9 15 (by decide) (by decide +kernel) rfl rfl (by decide +kernel) rfl rfl (Nat.le_of_ble_eq_true rfl) rfl ?_
              exact g_vret X E dX9_restores_73 () rfl (by decide) (by decide) (trivial)
            · refine g_aload_n X dX9_restores_47 rfl 0 rfl ?_
              refine g_getf (T := TX9) (v := .ref mf) X dX9_restores_48 0 rfl rfl in_X9_restores_X9 3 (by decide) (by decide +kernel) rfl rfl ?_
              refine g_iload_n X dX9_restores_51 rfl 1 rfl ?_
              refine g_aload_n X dX9_restores_52 rfl 0 rfl ?_
              refine g_getf (T := TX9) (v := .ref msF) X dX9_restores_53 0 rfl rfl in_X9_restores_X9 6 (by decide) (by decide +kernel) rfl rfl ?_
              refine g_iload_n X dX9_restores_56 rfl 1 rfl ?_
              refine g_ialdN (v := (SFm j)) X dX9_restores_57 6 0 rfl rfl (by omega) (by omega) (rfl) ?_
              refine g_iastN (g' := upd Xc j (SFm j)) (ws' := [(m, .inr (9, [.ref mh, .ref mg, .ref mt, .ref mf, .ref ms, .ref msT, .ref msF, .ref mgv, .ref mP, .ref mW, .ref mV, .ref mco, .ref men, .ref mnt, .int tw, .int mse, .int mbr, .int mwk, .int mns, .int mtp, .int mss])), (mh, .inl (ai, 42, .inl Sm)), (mt, .inl (ai, 42, .inl STm)), (mf, .inl (ai, 168, .inl (upd Xc j (SFm j)))), (ms, .inl (ai, 42, .inl Sm)), (msT, .inl (ai, 42, .inl STm)), (msF, .inl (ai, 168, .inl SFm))]) X dX9_restores_58 3 0 rfl rfl (by omega) (by omega) (rfl) rfl ?_
              refine g_iinc (v := nI (j + 1)) (lv' := [(1, .int (nI (j + 1))), (0, .ref m)]) X dX9_restores_59 1 rfl (nI_inc _) (by decide) rfl ?_
              refine g_goto (tgt := 40) X dX9_restores_62 (by decide) ?_
              refine g_lv (lv' := [(0, .ref m), (1, .int (nI (j + 1)))]) [1, 0] rfl ?_
              exact ih40 (j + 1) (upd Xc j (SFm j)) (by omega) (agree_upd h3 rfl) (by omega)
        refine g_lv (lv' := [(0, .ref m), (1, .int (nI 0))]) [1, 0] rfl ?_
        exact L40 169 0 Fm (by decide) (fun j hj => absurd hj (by omega)) (by decide)
      · refine g_aload_n X dX9_restores_8 rfl 0 rfl ?_
        refine g_getf (T := TX9) (v := .ref mh) X dX9_restores_9 0 rfl rfl in_X9_restores_X9 0 (by decide) (by decide +kernel) rfl rfl ?_
        refine g_iload_n X dX9_restores_12 rfl 1 rfl ?_
        refine g_aload_n X dX9_restores_13 rfl 0 rfl ?_
        refine g_getf (T := TX9) (v := .ref ms) X dX9_restores_14 0 rfl rfl in_X9_restores_X9 4 (by decide) (by decide +kernel) rfl rfl ?_
        refine g_iload_n X dX9_restores_17 rfl 1 rfl ?_
        refine g_ialdN (v := (Sm i)) X dX9_restores_18 4 0 rfl rfl (by omega) (by omega) (rfl) ?_
        refine g_iastN (g' := upd Xa i (Sm i)) (ws' := [(m, .inr (9, [.ref mh, .ref mg, .ref mt, .ref mf, .ref ms, .ref msT, .ref msF, .ref mgv, .ref mP, .ref mW, .ref mV, .ref mco, .ref men, .ref mnt, .int tw, .int mse, .int mbr, .int mwk, .int mns, .int mtp, .int mss])), (mh, .inl (ai, 42, .inl (upd Xa i (Sm i)))), (mt, .inl (ai, 42, .inl Xb)), (mf, .inl (ai, 168, .inl Fm)), (ms, .inl (ai, 42, .inl Sm)), (msT, .inl (ai, 42, .inl STm)), (msF, .inl (ai, 168, .inl SFm))]) X dX9_restores_19 1 0 rfl rfl (by omega) (by omega) (rfl) rfl ?_
        refine g_aload_n X dX9_restores_20 rfl 0 rfl ?_
        refine g_getf (T := TX9) (v := .ref mt) X dX9_restores_21 0 rfl rfl in_X9_restores_X9 2 (by decide) (by decide +kernel) rfl rfl ?_
        refine g_iload_n X dX9_restores_24 rfl 1 rfl ?_
        refine g_aload_n X dX9_restores_25 rfl 0 rfl ?_
        refine g_getf (T := TX9) (v := .ref msT) X dX9_restores_26 0 rfl rfl in_X9_restores_X9 5 (by decide) (by decide +kernel) rfl rfl ?_
        refine g_iload_n X dX9_restores_29 rfl 1 rfl ?_
        refine g_ialdN (v := (STm i)) X dX9_restores_30 5 0 rfl rfl (by omega) (by omega) (rfl) ?_
        refine g_iastN (g' := upd Xb i (STm i)) (ws' := [(m, .inr (9, [.ref mh, .ref mg, .ref mt, .ref mf, .ref ms, .ref msT, .ref msF, .ref mgv, .ref mP, .ref mW, .ref mV, .ref mco, .ref men, .ref mnt, .int tw, .int mse, .int mbr, .int mwk, .int mns, .int mtp, .int mss])), (mh, .inl (ai, 42, .inl (upd Xa i (Sm i)))), (mt, .inl (ai, 42, .inl (upd Xb i (STm i)))), (mf, .inl (ai, 168, .inl Fm)), (ms, .inl (ai, 42, .inl Sm)), (msT, .inl (ai, 42, .inl STm)), (msF, .inl (ai, 168, .inl SFm))]) X dX9_restores_31 2 0 rfl rfl (by omega) (by omega) (rfl) rfl ?_
        refine g_iinc (v := nI (i + 1)) (lv' := [(1, .int (nI (i + 1))), (0, .ref m)]) X dX9_restores_32 1 rfl (nI_inc _) (by decide) rfl ?_
        refine g_goto (tgt := 2) X dX9_restores_35 (by decide) ?_
        refine g_lv (lv' := [(0, .ref m), (1, .int (nI (i + 1)))]) [1, 0] rfl ?_
        exact ih2 (i + 1) (upd Xa i (Sm i)) (upd Xb i (STm i)) (by omega) (agree_upd h1 rfl) (agree_upd h2 rfl) (by omega)
  refine g_lv (lv' := [(0, .ref m), (1, .int (nI 0))]) [1, 0] rfl ?_
  exact L2 43 0 Hm Tm (by decide) (fun j hj => absurd hj (by omega)) (fun j hj => absurd hj (by omega)) (by decide)
