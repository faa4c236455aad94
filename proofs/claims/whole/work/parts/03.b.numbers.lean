/-! words for what the small methods answer -/
def atF (f : Nat → Int32) (n : Nat) (p : Int32) : Int32 := if p < 0 ∨ nI n ≤ p then 0 else f p.toNatClampNeg
def putF (f : Nat → Int32) (n : Nat) (p v : Int32) : Nat → Int32 := if p < 0 ∨ nI n ≤ p then f else upd f p.toNatClampNeg v
def addF (f : Nat → Int32) (n : Nat) (p v : Int32) : Nat → Int32 := if p < 0 ∨ nI n ≤ p then f else upd f p.toNatClampNeg (f p.toNatClampNeg + v)
def sumI (f : Nat → Int32) : Nat → Int32
  | 0 => 0
  | n + 1 => sumI f n + f n
theorem nI_inNot {c n : Nat} (h : c < n) (hn : n < 2 ^ 31) : ¬ (nI c < 0 ∨ nI n ≤ nI c) := fun q => q.elim (nI_pos (by omega)) (fun q => absurd ((nI_leI hn (by omega)).mp q) (by omega))
theorem atF_in {f : Nat → Int32} {n c : Nat} (h : c < n) (hn : n < 2 ^ 31) : atF f n (nI c) = f c := by
  unfold atF
  rw [if_neg (nI_inNot h hn), nI_clamp (by omega)]
theorem putF_in {f : Nat → Int32} {n c : Nat} {v : Int32} (h : c < n) (hn : n < 2 ^ 31) : putF f n (nI c) v = upd f c v := by
  unfold putF
  rw [if_neg (nI_inNot h hn), nI_clamp (by omega)]
theorem addF_in {f : Nat → Int32} {n c : Nat} {v : Int32} (h : c < n) (hn : n < 2 ^ 31) : addF f n (nI c) v = upd f c (f c + v) := by
  unfold addF
  rw [if_neg (nI_inNot h hn), nI_clamp (by omega)]
theorem in_of {p : Int32} {n : Nat} (hn : n < 2 ^ 31) (h1 : ¬ p < 0) (h2 : ¬ nI n ≤ p) : vp_in p n := by
  obtain ⟨j, hj, rfl⟩ := nI_of h1
  refine vp_in_nI ?_ hn
  exact Nat.lt_of_not_le (fun q => h2 ((nI_leI hn hj).mpr q))
theorem sumI_congr {f g : Nat → Int32} : ∀ {n : Nat}, (∀ i, i < n → f i = g i) → sumI f n = sumI g n
  | 0, _ => rfl
  | n + 1, h => by
    show sumI f n + f n = sumI g n + g n
    rw [sumI_congr (n := n) (fun i hi => h i (by omega)), h n (by omega)]
theorem upd_at {f : Nat → Int32} {k : Nat} {x : Int32} : upd f k x k = x := pk_us
theorem upd_ne {f : Nat → Int32} {k j : Nat} {x : Int32} (h : j ≠ k) : upd f k x j = f j := pk_un h
/-- one more place agrees -/
theorem agree_upd {f g : Nat → Int32} {i : Nat} {x : Int32} (h : ∀ j, j < i → f j = g j) (hx : x = g i) : ∀ j, j < i + 1 → upd f i x j = g j := fun j hj => by
  by_cases e : j = i
  · subst e; rw [upd_at, hx]
  · rw [upd_ne e]; exact h j (by omega)
theorem opp_xor {x : Nat} (h : x < 4) : nI x ^^^ nI 1 = nI (opp x) := by
  rcases (show x = 0 ∨ x = 1 ∨ x = 2 ∨ x = 3 by omega) with rfl | rfl | rfl | rfl <;> decide
theorem ok_X3_at : okName yX3_at 1 := by decide +kernel
theorem in_X3_at_X3 : ∀ w ∈ u_ws RX3 TX3 1, w ∈ wsX3_at := by decide +kernel
set_option maxRecDepth 100000 in
set_option maxHeartbeats 4000000 in
theorem c_X3_at (l : Launch) (D : va_G) (ai az al : ClassId) (q : Nat) (a : Nat) (n : Nat) (f : Nat → Int32) (p : Int32) (hn : n < 2 ^ 31) : CI l D (tY ai az al) yX3_at wsX3_at { frames := 0, cells := 0, slots := 0, locals := 0 } [.ref q, .int p] [(q, .inr (3, [.ref a])), (a, .inl (ai, n, .inl f))] (fun (r : Int32) (u : Unit) => r = atF f n p) (fun (u : Unit) => [(q, .inr (3, [.ref a])), (a, .inl (ai, n, .inl f))]) := by
  refine ofG_I (cc := cX3_at) (nL := 2) (lv0 := [(0, .ref q), (1, .int p)]) (by decide) rfl (Nat.le_of_ble_eq_true rfl) rfl ?_
  intro Γ X E
  refine g_iload_n X dX3_at_0 rfl 1 rfl ?_
  refine g_if_lt (tgt := 22) X dX3_at_1 (by decide) (fun b1 => ?_) (fun b1 => ?_)
  · refine g_iconst (v := nI 0) X dX3_at_22 (by decide) ?_
    exact g_iret X E dX3_at_23 () rfl (by decide) (by decide) (by unfold atF; simp only [*, true_or, or_true, or_self, if_true, if_false]; try rfl)
  · refine g_iload_n X dX3_at_4 rfl 1 rfl ?_
    refine g_aload_n X dX3_at_5 rfl 0 rfl ?_
    refine g_getf (T := TX3) (v := .ref a) X dX3_at_6 0 rfl rfl in_X3_at_X3 0 (by decide) (by decide +kernel) rfl rfl ?_
    refine g_alen (v := nI n) X dX3_at_9 1 0 rfl rfl rfl ?_
    refine g_icmp_ge (tgt := 22) X dX3_at_10 (by decide) (fun b10 => ?_) (fun b10 => ?_)
    · refine g_iconst (v := nI 0) X dX3_at_22 (by decide) ?_
      exact g_iret X E dX3_at_23 () rfl (by decide) (by decide) (by unfold atF; simp only [*, true_or, or_true, or_self, if_true, if_false]; try rfl)
    · refine g_aload_n X dX3_at_13 rfl 0 rfl ?_
      refine g_getf (T := TX3) (v := .ref a) X dX3_at_14 0 rfl rfl in_X3_at_X3 0 (by decide) (by decide +kernel) rfl rfl ?_
      refine g_iload_n X dX3_at_17 rfl 1 rfl ?_
      refine g_iald (v := (f (Int32.toNatClampNeg p))) X dX3_at_18 1 0 rfl rfl (in_of hn b1 b10) (rfl) ?_
      refine g_goto (tgt := 23) X dX3_at_19 (by decide) ?_
      exact g_iret X E dX3_at_23 () rfl (by decide) (by decide) (by unfold atF; simp only [*, true_or, or_true, or_self, if_true, if_false]; try rfl)

theorem c_X3_atN (l : Launch) (D : va_G) (ai az al : ClassId) (q a n : Nat) (f : Nat → Int32) (c : Nat) (hn : n < 2 ^ 31) (hc : c < n) : CI l D (tY ai az al) yX3_at wsX3_at { frames := 0, cells := 0, slots := 0, locals := 0 } [.ref q, .int (nI c)] [(q, .inr (3, [.ref a])), (a, .inl (ai, n, .inl f))] (fun (r : Int32) (u : Unit) => r = f c) (fun (u : Unit) => [(q, .inr (3, [.ref a])), (a, .inl (ai, n, .inl f))]) := (c_X3_at l D ai az al q a n f (nI c) hn).imp (fun r u h => ⟨(), by rw [h]; exact atF_in hc hn, rfl⟩)
theorem ok_X3_put : okName yX3_put 2 := by decide +kernel
theorem in_X3_put_X3 : ∀ w ∈ u_ws RX3 TX3 1, w ∈ wsX3_put := by decide +kernel
set_option maxRecDepth 100000 in
set_option maxHeartbeats 4000000 in
theorem c_X3_put (l : Launch) (D : va_G) (ai az al : ClassId) (q : Nat) (a : Nat) (n : Nat) (f : Nat → Int32) (p : Int32) (v : Int32) (hn : n < 2 ^ 31) : CV l D (tY ai az al) yX3_put wsX3_put { frames := 0, cells := 0, slots := 0, locals := 0 } [.ref q, .int p, .int v] [(q, .inr (3, [.ref a])), (a, .inl (ai, n, .inl f))] (fun (u : (Nat → Int32)) => u = putF f n p v) (fun (u : (Nat → Int32)) => [(q, .inr (3, [.ref a])), (a, .inl (ai, n, .inl u))]) := by
  refine ofG_V (cc := cX3_put) (nL := 3) (lv0 := [(0, .ref q), (1, .int p), (2, .int v)]) (by decide) rfl (Nat.le_of_ble_eq_true rfl) rfl ?_
  intro Γ X E hinit
  refine g_iload_n X dX3_put_0 rfl 1 rfl ?_
  refine g_if_lt (tgt := 20) X dX3_put_1 (by decide) (fun b1 => ?_) (fun b1 => ?_)
  · exact g_vret X E dX3_put_20 f rfl (by decide) (by decide) (by unfold putF; simp only [*, true_or, or_true, or_self, if_true, if_false]; try rfl)
  · refine g_iload_n X dX3_put_4 rfl 1 rfl ?_
    refine g_aload_n X dX3_put_5 rfl 0 rfl ?_
    refine g_getf (T := TX3) (v := .ref a) X dX3_put_6 0 rfl rfl in_X3_put_X3 0 (by decide) (by decide +kernel) rfl rfl ?_
    refine g_alen (v := nI n) X dX3_put_9 1 0 rfl rfl rfl ?_
    refine g_icmp_ge (tgt := 20) X dX3_put_10 (by decide) (fun b10 => ?_) (fun b10 => ?_)
    · exact g_vret X E dX3_put_20 f rfl (by decide) (by decide) (by unfold putF; simp only [*, true_or, or_true, or_self, if_true, if_false]; try rfl)
    · refine g_aload_n X dX3_put_13 rfl 0 rfl ?_
      refine g_getf (T := TX3) (v := .ref a) X dX3_put_14 0 rfl rfl in_X3_put_X3 0 (by decide) (by decide +kernel) rfl rfl ?_
      refine g_iload_n X dX3_put_17 rfl 1 rfl ?_
      refine g_iload_n X dX3_put_18 rfl 2 rfl ?_
      refine g_iast (g' := upd f (Int32.toNatClampNeg p) v) (ws' := [(q, .inr (3, [.ref a])), (a, .inl (ai, n, .inl (upd f (Int32.toNatClampNeg p) v)))]) X dX3_put_19 1 0 rfl rfl (in_of hn b1 b10) (rfl) rfl ?_
      exact g_vret X E dX3_put_20 (upd f (Int32.toNatClampNeg p) v) rfl (by decide) (by decide) (by unfold putF; simp only [*, true_or, or_true, or_self, if_true, if_false]; try rfl)

theorem c_X3_putN (l : Launch) (D : va_G) (ai az al : ClassId) (q a n : Nat) (f : Nat → Int32) (c : Nat) (v : Int32) (hn : n < 2 ^ 31) (hc : c < n) : CV l D (tY ai az al) yX3_put wsX3_put { frames := 0, cells := 0, slots := 0, locals := 0 } [.ref q, .int (nI c), .int v] [(q, .inr (3, [.ref a])), (a, .inl (ai, n, .inl f))] (fun (u : Unit) => True) (fun (u : Unit) => [(q, .inr (3, [.ref a])), (a, .inl (ai, n, .inl (upd f c (v))))]) := (c_X3_put l D ai az al q a n f (nI c) v hn).imp (fun u h => ⟨(), trivial, by rw [h, putF_in hc hn]⟩)
theorem ok_X3_add : okName yX3_add 2 := by decide +kernel
theorem in_X3_add_X3 : ∀ w ∈ u_ws RX3 TX3 1, w ∈ wsX3_add := by decide +kernel
set_option maxRecDepth 100000 in
set_option maxHeartbeats 4000000 in
theorem c_X3_add (l : Launch) (D : va_G) (ai az al : ClassId) (q : Nat) (a : Nat) (n : Nat) (f : Nat → Int32) (p : Int32) (v : Int32) (hn : n < 2 ^ 31) : CV l D (tY ai az al) yX3_add wsX3_add { frames := 0, cells := 0, slots := 0, locals := 0 } [.ref q, .int p, .int v] [(q, .inr (3, [.ref a])), (a, .inl (ai, n, .inl f))] (fun (u : (Nat → Int32)) => u = addF f n p v) (fun (u : (Nat → Int32)) => [(q, .inr (3, [.ref a])), (a, .inl (ai, n, .inl u))]) := by
  refine ofG_V (cc := cX3_add) (nL := 3) (lv0 := [(0, .ref q), (1, .int p), (2, .int v)]) (by decide) rfl (Nat.le_of_ble_eq_true rfl) rfl ?_
  intro Γ X E hinit
  refine g_iload_n X dX3_add_0 rfl 1 rfl ?_
  refine g_if_lt (tgt := 23) X dX3_add_1 (by decide) (fun b1 => ?_) (fun b1 => ?_)
  · exact g_vret X E dX3_add_23 f rfl (by decide) (by decide) (by unfold addF; simp only [*, true_or, or_true, or_self, if_true, if_false]; try rfl)
  · refine g_iload_n X dX3_add_4 rfl 1 rfl ?_
    refine g_aload_n X dX3_add_5 rfl 0 rfl ?_
    refine g_getf (T := TX3) (v := .ref a) X dX3_add_6 0 rfl rfl in_X3_add_X3 0 (by decide) (by decide +kernel) rfl rfl ?_
    refine g_alen (v := nI n) X dX3_add_9 1 0 rfl rfl rfl ?_
    refine g_icmp_ge (tgt := 23) X dX3_add_10 (by decide) (fun b10 => ?_) (fun b10 => ?_)
    · exact g_vret X E dX3_add_23 f rfl (by decide) (by decide) (by unfold addF; simp only [*, true_or, or_true, or_self, if_true, if_false]; try rfl)
    · refine g_aload_n X dX3_add_13 rfl 0 rfl ?_
      refine g_getf (T := TX3) (v := .ref a) X dX3_add_14 0 rfl rfl in_X3_add_X3 0 (by decide) (by decide +kernel) rfl rfl ?_
      refine g_iload_n X dX3_add_17 rfl 1 rfl ?_
      refine g_dup2 X dX3_add_18 rfl rfl ?_
      refine g_iald (v := (f (Int32.toNatClampNeg p))) X dX3_add_19 1 0 rfl rfl (in_of hn b1 b10) (rfl) ?_
      refine g_iload_n X dX3_add_20 rfl 2 rfl ?_
      refine g_iadd (v := ((f (Int32.toNatClampNeg p)) + v)) X dX3_add_21 (rfl) ?_
      refine g_iast (g' := upd f (Int32.toNatClampNeg p) ((f (Int32.toNatClampNeg p)) + v)) (ws' := [(q, .inr (3, [.ref a])), (a, .inl (ai, n, .inl (upd f (Int32.toNatClampNeg p) ((f (Int32.toNatClampNeg p)) + v))))]) X dX3_add_22 1 0 rfl rfl (in_of hn b1 b10) (rfl) rfl ?_
      exact g_vret X E dX3_add_23 (upd f (Int32.toNatClampNeg p) ((f (Int32.toNatClampNeg p)) + v)) rfl (by decide) (by decide) (by unfold addF; simp only [*, true_or, or_true, or_self, if_true, if_false]; try rfl)

theorem c_X3_addN (l : Launch) (D : va_G) (ai az al : ClassId) (q a n : Nat) (f : Nat → Int32) (c : Nat) (v : Int32) (hn : n < 2 ^ 31) (hc : c < n) : CV l D (tY ai az al) yX3_add wsX3_add { frames := 0, cells := 0, slots := 0, locals := 0 } [.ref q, .int (nI c), .int v] [(q, .inr (3, [.ref a])), (a, .inl (ai, n, .inl f))] (fun (u : Unit) => True) (fun (u : Unit) => [(q, .inr (3, [.ref a])), (a, .inl (ai, n, .inl (upd f c (f c + v))))]) := (c_X3_add l D ai az al q a n f (nI c) v hn).imp (fun u h => ⟨(), trivial, by rw [h, addF_in hc hn]⟩)
theorem ok_X3_clear : okName yX3_clear 0 := by decide +kernel
theorem in_X3_clear_X3 : ∀ w ∈ u_ws RX3 TX3 1, w ∈ wsX3_clear := by decide +kernel
set_option maxRecDepth 100000 in
set_option maxHeartbeats 4000000 in
theorem c_X3_clear (l : Launch) (D : va_G) (ai az al : ClassId) (q : Nat) (a : Nat) (n : Nat) (f : Nat → Int32) (hn : n < 2 ^ 31) : CV l D (tY ai az al) yX3_clear wsX3_clear { frames := 0, cells := 0, slots := 0, locals := 0 } [.ref q] [(q, .inr (3, [.ref a])), (a, .inl (ai, n, .inl f))] (fun (u : Unit) => True) (fun (u : Unit) => [(q, .inr (3, [.ref a])), (a, .inl (ai, n, .inl (fun _ => 0)))]) := by
  refine ofG_V (cc := cX3_clear) (nL := 2) (lv0 := [(0, .ref q)]) (by decide) rfl (Nat.le_of_ble_eq_true rfl) rfl ?_
  intro Γ X E hinit
  refine g_iconst (v := nI 0) X dX3_clear_0 (by decide) ?_
  refine g_istore_n (lv' := [(1, .int (nI 0)), (0, .ref q)]) X dX3_clear_1 rfl (by decide) rfl ?_
  have L2 : ∀ (fl : Nat) (i : Nat) (g : Nat → Int32), (i ≤ n) → (∀ j, j < i → g j = (fun _ => (0 : Int32)) j) → (n + 1 ≤ i + fl) → G Γ 2 0 0 [(q, .inr (3, [.ref a])), (a, .inl (ai, n, .inl g))] [(0, .ref q), (1, .int (nI i))] 2 [] := by
    intro fl
    induction fl with
    | zero => intro i g hi hg hm; exact absurd hm (by omega)
    | succ fl ih2 =>
      intro i g hi hg hm
      refine g_iload_n X dX3_clear_2 rfl 1 rfl ?_
      refine g_aload_n X dX3_clear_3 rfl 0 rfl ?_
      refine g_getf (T := TX3) (v := .ref a) X dX3_clear_4 0 rfl rfl in_X3_clear_X3 0 (by decide) (by decide +kernel) rfl rfl ?_
      refine g_alen (v := nI n) X dX3_clear_7 1 0 rfl rfl rfl ?_
      refine g_icmp_geN (tgt := 24) X dX3_clear_8 (by decide) (by omega) (by omega) (fun b8 => ?_) (fun b8 => ?_)
      · refine g_arr (g := fun _ => 0) (ws' := [(q, .inr (3, [.ref a])), (a, .inl (ai, n, .inl (fun _ => 0)))]) 1 rfl (fun j hj => hg j (by omega)) rfl ?_
        exact g_vret X E dX3_clear_24 () rfl (by decide) (by decide) (trivial)
      · refine g_aload_n X dX3_clear_11 rfl 0 rfl ?_
        refine g_getf (T := TX3) (v := .ref a) X dX3_clear_12 0 rfl rfl in_X3_clear_X3 0 (by decide) (by decide +kernel) rfl rfl ?_
        refine g_iload_n X dX3_clear_15 rfl 1 rfl ?_
        refine g_iconst (v := nI 0) X dX3_clear_16 (by decide) ?_
        refine g_iastN (g' := upd g i (nI 0)) (ws' := [(q, .inr (3, [.ref a])), (a, .inl (ai, n, .inl (upd g i (nI 0))))]) X dX3_clear_17 1 0 rfl rfl (by omega) (by omega) (rfl) rfl ?_
        refine g_iinc (v := nI (i + 1)) (lv' := [(1, .int (nI (i + 1))), (0, .ref q)]) X dX3_clear_18 1 rfl (nI_inc _) (by decide) rfl ?_
        refine g_goto (tgt := 2) X dX3_clear_21 (by decide) ?_
        refine g_lv (lv' := [(0, .ref q), (1, .int (nI (i + 1)))]) [1, 0] rfl ?_
        exact ih2 (i + 1) (upd g i (nI 0)) (by omega) (agree_upd hg rfl) (by omega)
  refine g_lv (lv' := [(0, .ref q), (1, .int (nI 0))]) [1, 0] rfl ?_
  exact L2 (n + 1) 0 f (Nat.zero_le _) (fun j hj => absurd hj (by omega)) (by omega)

theorem ok_X3_copyFrom : okName yX3_copyFrom 1 := by decide +kernel
theorem in_X3_copyFrom_X3 : ∀ w ∈ u_ws RX3 TX3 1, w ∈ wsX3_copyFrom := by decide +kernel
set_option maxRecDepth 100000 in
set_option maxHeartbeats 4000000 in
theorem c_X3_copyFrom (l : Launch) (D : va_G) (ai az al : ClassId) (q : Nat) (a : Nat) (n : Nat) (f : Nat → Int32) (o : Nat) (b : Nat) (h : Nat → Int32) (hn : n < 2 ^ 31) : CV l D (tY ai az al) yX3_copyFrom wsX3_copyFrom { frames := 1, cells := 0, slots := 0, locals := 21 } [.ref q, .ref o] [(q, .inr (3, [.ref a])), (a, .inl (ai, n, .inl f)), (o, .inr (3, [.ref b])), (b, .inl (ai, n, .inl h))] (fun (u : Unit) => True) (fun (u : Unit) => [(q, .inr (3, [.ref a])), (a, .inl (ai, n, .inl h)), (o, .inr (3, [.ref b])), (b, .inl (ai, n, .inl h))]) := by
  refine ofG_V (cc := cX3_copyFrom) (nL := 3) (lv0 := [(0, .ref q), (1, .ref o)]) (by decide) rfl (Nat.le_of_ble_eq_true rfl) rfl ?_
  intro Γ X E hinit
  refine g_iconst (v := nI 0) X dX3_copyFrom_0 (by decide) ?_
  refine g_istore_n (lv' := [(2, .int (nI 0)), (0, .ref q), (1, .ref o)]) X dX3_copyFrom_1 rfl (by decide) rfl ?_
  have L2 : ∀ (fl : Nat) (i : Nat) (g : Nat → Int32), (i ≤ n) → (∀ j, j < i → g j = h j) → (n + 1 ≤ i + fl) → G Γ 3 0 0 [(q, .inr (3, [.ref a])), (a, .inl (ai, n, .inl g)), (o, .inr (3, [.ref b])), (b, .inl (ai, n, .inl h))] [(0, .ref q), (1, .ref o), (2, .int (nI i))] 2 [] := by
    intro fl
    induction fl with
    | zero => intro i g hi hg hm; exact absurd hm (by omega)
    | succ fl ih2 =>
      intro i g hi hg hm
      refine g_iload_n X dX3_copyFrom_2 rfl 2 rfl ?_
      refine g_aload_n X dX3_copyFrom_3 rfl 0 rfl ?_
      refine g_getf (T := TX3) (v := .ref a) X dX3_copyFrom_4 0 rfl rfl in_X3_copyFrom_X3 0 (by decide) (by decide +kernel) rfl rfl ?_
      refine g_alen (v := nI n) X dX3_copyFrom_7 1 0 rfl rfl rfl ?_
      refine g_icmp_geN (tgt := 28) X dX3_copyFrom_8 (by decide) (by omega) (by omega) (fun b8 => ?_) (fun b8 => ?_)
      · refine g_arr (g := h) (ws' := [(q, .inr (3, [.ref a])), (a, .inl (ai, n, .inl h)), (o, .inr (3, [.ref b])), (b, .inl (ai, n, .inl h))]) 1 rfl (fun j hj => hg j (by omega)) rfl ?_
        exact g_vret X E dX3_copyFrom_28 () rfl (by decide) (by decide) (trivial)
      · refine g_aload_n X dX3_copyFrom_11 rfl 0 rfl ?_
        refine g_getf (T := TX3) (v := .ref a) X dX3_copyFrom_12 0 rfl rfl in_X3_copyFrom_X3 0 (by decide) (by decide +kernel) rfl rfl ?_
        refine g_iload_n X dX3_copyFrom_15 rfl 2 rfl ?_
        refine g_aload_n X dX3_copyFrom_16 rfl 1 rfl ?_
        refine g_iload_n X dX3_copyFrom_17 rfl 2 rfl ?_
        refine g_callVi (C := RX3) (As := [.int (nI i)]) (rest := [.int (nI i), .ref a]) (wr := [(q, .inr (3, [.ref a])), (a, .inl (ai, n, .inl g))]) X dX3_copyFrom_18 (c_X3_atN l D ai az al o b n h i (by omega) (by omega)) gX3_copyFrom_X3_at rfl rfl ok_X3_at rfl rfl (by decide) ⟨by decide, by decide⟩ (Nat.le_of_ble_eq_true rfl) [2, 3] [0, 1] ⟨rfl, by decide, rfl, by decide, by decide⟩ 0 rfl rfl rfl (fun r1 u hp => ?_)
        obtain rfl := hp
        refine g_sub (k := 0) (n := 0) (ws' := [(q, .inr (3, [.ref a])), (a, .inl (ai, n, .inl g)), (o, .inr (3, [.ref b])), (b, .inl (ai, n, .inl h))]) [0, 1, 2, 3] (by decide) rfl ?_
        refine g_iastN (g' := upd g i (h i)) (ws' := [(q, .inr (3, [.ref a])), (a, .inl (ai, n, .inl (upd g i (h i)))), (o, .inr (3, [.ref b])), (b, .inl (ai, n, .inl h))]) X dX3_copyFrom_21 1 0 rfl rfl (by omega) (by omega) (rfl) rfl ?_
        refine g_iinc (v := nI (i + 1)) (lv' := [(2, .int (nI (i + 1))), (0, .ref q), (1, .ref o)]) X dX3_copyFrom_22 2 rfl (nI_inc _) (by decide) rfl ?_
        refine g_goto (tgt := 2) X dX3_copyFrom_25 (by decide) ?_
        refine g_lv (lv' := [(0, .ref q), (1, .ref o), (2, .int (nI (i + 1)))]) [1, 2, 0] rfl ?_
        exact ih2 (i + 1) (upd g i (h i)) (by omega) (agree_upd hg rfl) (by omega)
  refine g_lv (lv' := [(0, .ref q), (1, .ref o), (2, .int (nI 0))]) [1, 2, 0] rfl ?_
  exact L2 (n + 1) 0 f (Nat.zero_le _) (fun j hj => absurd hj (by omega)) (by omega)

theorem ok_X3_addAll : okName yX3_addAll 1 := by decide +kernel
theorem in_X3_addAll_X3 : ∀ w ∈ u_ws RX3 TX3 1, w ∈ wsX3_addAll := by decide +kernel
set_option maxRecDepth 100000 in
set_option maxHeartbeats 4000000 in
theorem c_X3_addAll (l : Launch) (D : va_G) (ai az al : ClassId) (q : Nat) (a : Nat) (n : Nat) (f : Nat → Int32) (o : Nat) (b : Nat) (h : Nat → Int32) (hn : n < 2 ^ 31) : CV l D (tY ai az al) yX3_addAll wsX3_addAll { frames := 1, cells := 0, slots := 0, locals := 21 } [.ref q, .ref o] [(q, .inr (3, [.ref a])), (a, .inl (ai, n, .inl f)), (o, .inr (3, [.ref b])), (b, .inl (ai, n, .inl h))] (fun (u : Unit) => True) (fun (u : Unit) => [(q, .inr (3, [.ref a])), (a, .inl (ai, n, .inl (fun j => f j + h j))), (o, .inr (3, [.ref b])), (b, .inl (ai, n, .inl h))]) := by
  refine ofG_V (cc := cX3_addAll) (nL := 3) (lv0 := [(0, .ref q), (1, .ref o)]) (by decide) rfl (Nat.le_of_ble_eq_true rfl) rfl ?_
  intro Γ X E hinit
  refine g_iconst (v := nI 0) X dX3_addAll_0 (by decide) ?_
  refine g_istore_n (lv' := [(2, .int (nI 0)), (0, .ref q), (1, .ref o)]) X dX3_addAll_1 rfl (by decide) rfl ?_
  have L2 : ∀ (fl : Nat) (i : Nat) (g : Nat → Int32), (i ≤ n) → (∀ j, j < i → g j = (fun j => f j + h j) j) → (∀ j, i ≤ j → g j = f j) → (n + 1 ≤ i + fl) → G Γ 3 0 0 [(q, .inr (3, [.ref a])), (a, .inl (ai, n, .inl g)), (o, .inr (3, [.ref b])), (b, .inl (ai, n, .inl h))] [(0, .ref q), (1, .ref o), (2, .int (nI i))] 2 [] := by
    intro fl
    induction fl with
    | zero => intro i g hi hg hk hm; exact absurd hm (by omega)
    | succ fl ih2 =>
      intro i g hi hg hk hm
      refine g_iload_n X dX3_addAll_2 rfl 2 rfl ?_
      refine g_aload_n X dX3_addAll_3 rfl 0 rfl ?_
      refine g_getf (T := TX3) (v := .ref a) X dX3_addAll_4 0 rfl rfl in_X3_addAll_X3 0 (by decide) (by decide +kernel) rfl rfl ?_
      refine g_alen (v := nI n) X dX3_addAll_7 1 0 rfl rfl rfl ?_
      refine g_icmp_geN (tgt := 31) X dX3_addAll_8 (by decide) (by omega) (by omega) (fun b8 => ?_) (fun b8 => ?_)
      · refine g_arr (g := fun j => f j + h j) (ws' := [(q, .inr (3, [.ref a])), (a, .inl (ai, n, .inl (fun j => f j + h j))), (o, .inr (3, [.ref b])), (b, .inl (ai, n, .inl h))]) 1 rfl (fun j hj => hg j (by omega)) rfl ?_
        exact g_vret X E dX3_addAll_31 () rfl (by decide) (by decide) (trivial)
      · refine g_aload_n X dX3_addAll_11 rfl 0 rfl ?_
        refine g_getf (T := TX3) (v := .ref a) X dX3_addAll_12 0 rfl rfl in_X3_addAll_X3 0 (by decide) (by decide +kernel) rfl rfl ?_
        refine g_iload_n X dX3_addAll_15 rfl 2 rfl ?_
        refine g_dup2 X dX3_addAll_16 rfl rfl ?_
        refine g_ialdN (v := (g i)) X dX3_addAll_17 1 0 rfl rfl (by omega) (by omega) (rfl) ?_
        refine g_aload_n X dX3_addAll_18 rfl 1 rfl ?_
        refine g_iload_n X dX3_addAll_19 rfl 2 rfl ?_
        refine g_callVi (C := RX3) (As := [.int (nI i)]) (rest := [.int (g i), .int (nI i), .ref a]) (wr := [(q, .inr (3, [.ref a])), (a, .inl (ai, n, .inl g))]) X dX3_addAll_20 (c_X3_atN l D ai az al o b n h i (by omega) (by omega)) gX3_addAll_X3_at rfl rfl ok_X3_at rfl rfl (by decide) ⟨by decide, by decide⟩ (Nat.le_of_ble_eq_true rfl) [2, 3] [0, 1] ⟨rfl, by decide, rfl, by decide, by decide⟩ 0 rfl rfl rfl (fun r1 u hp => ?_)
        obtain rfl := hp
        refine g_sub (k := 0) (n := 0) (ws' := [(q, .inr (3, [.ref a])), (a, .inl (ai, n, .inl g)), (o, .inr (3, [.ref b])), (b, .inl (ai, n, .inl h))]) [0, 1, 2, 3] (by decide) rfl ?_
        refine g_iadd (v := ((g i) + h i)) X dX3_addAll_23 (rfl) ?_
        refine g_iastN (g' := upd g i ((g i) + h i)) (ws' := [(q, .inr (3, [.ref a])), (a, .inl (ai, n, .inl (upd g i ((g i) + h i)))), (o, .inr (3, [.ref b])), (b, .inl (ai, n, .inl h))]) X dX3_addAll_24 1 0 rfl rfl (by omega) (by omega) (rfl) rfl ?_
        refine g_iinc (v := nI (i + 1)) (lv' := [(2, .int (nI (i + 1))), (0, .ref q), (1, .ref o)]) X dX3_addAll_25 2 rfl (nI_inc _) (by decide) rfl ?_
        refine g_goto (tgt := 2) X dX3_addAll_28 (by decide) ?_
        refine g_lv (lv' := [(0, .ref q), (1, .ref o), (2, .int (nI (i + 1)))]) [1, 2, 0] rfl ?_
        exact ih2 (i + 1) (upd g i ((g i) + h i)) (by omega) (agree_upd hg (by rw [hk i (by omega)])) (fun j hj => (upd_ne (by omega)).trans (hk j (by omega))) (by omega)
  refine g_lv (lv' := [(0, .ref q), (1, .ref o), (2, .int (nI 0))]) [1, 2, 0] rfl ?_
  exact L2 (n + 1) 0 f (Nat.zero_le _) (fun j hj => absurd hj (by omega)) (fun j _ => rfl) (by omega)

theorem ok_X3_total : okName yX3_total 0 := by decide +kernel
theorem in_X3_total_X3 : ∀ w ∈ u_ws RX3 TX3 1, w ∈ wsX3_total := by decide +kernel
set_option maxRecDepth 100000 in
set_option maxHeartbeats 4000000 in
theorem c_X3_total (l : Launch) (D : va_G) (ai az al : ClassId) (q : Nat) (a : Nat) (n : Nat) (f : Nat → Int32) (hn : n < 2 ^ 31) : CI l D (tY ai az al) yX3_total wsX3_total { frames := 0, cells := 0, slots := 0, locals := 0 } [.ref q] [(q, .inr (3, [.ref a])), (a, .inl (ai, n, .inl f))] (fun (r : Int32) (u : Unit) => r = sumI f n) (fun (u : Unit) => [(q, .inr (3, [.ref a])), (a, .inl (ai, n, .inl f))]) := by
  refine ofG_I (cc := cX3_total) (nL := 3) (lv0 := [(0, .ref q)]) (by decide) rfl (Nat.le_of_ble_eq_true rfl) rfl ?_
  intro Γ X E
  refine g_iconst (v := nI 0) X dX3_total_0 (by decide) ?_
  refine g_istore_n (lv' := [(1, .int (nI 0)), (0, .ref q)]) X dX3_total_1 rfl (by decide) rfl ?_
  refine g_iconst (v := nI 0) X dX3_total_2 (by decide) ?_
  refine g_istore_n (lv' := [(2, .int (nI 0)), (1, .int (nI 0)), (0, .ref q)]) X dX3_total_3 rfl (by decide) rfl ?_
  have L4 : ∀ (fl : Nat) (i : Nat) (s : Int32), (i ≤ n) → (s = sumI f i) → (n + 1 ≤ i + fl) → G Γ 3 0 0 [(q, .inr (3, [.ref a])), (a, .inl (ai, n, .inl f))] [(0, .ref q), (1, .int s), (2, .int (nI i))] 4 [] := by
    intro fl
    induction fl with
    | zero => intro i s hi hs hm; exact absurd hm (by omega)
    | succ fl ih4 =>
      intro i s hi hs hm
      refine g_iload_n X dX3_total_4 rfl 2 rfl ?_
      refine g_aload_n X dX3_total_5 rfl 0 rfl ?_
      refine g_getf (T := TX3) (v := .ref a) X dX3_total_6 0 rfl rfl in_X3_total_X3 0 (by decide) (by decide +kernel) rfl rfl ?_
      refine g_alen (v := nI n) X dX3_total_9 1 0 rfl rfl rfl ?_
      refine g_icmp_geN (tgt := 28) X dX3_total_10 (by decide) (by omega) (by omega) (fun b10 => ?_) (fun b10 => ?_)
      · refine g_iload_n X dX3_total_28 rfl 1 rfl ?_
        exact g_iret X E dX3_total_29 () rfl (by decide) (by decide) (by rw [hs, show i = n by omega])
      · refine g_iload_n X dX3_total_13 rfl 1 rfl ?_
        refine g_aload_n X dX3_total_14 rfl 0 rfl ?_
        refine g_getf (T := TX3) (v := .ref a) X dX3_total_15 0 rfl rfl in_X3_total_X3 0 (by decide) (by decide +kernel) rfl rfl ?_
        refine g_iload_n X dX3_total_18 rfl 2 rfl ?_
        refine g_ialdN (v := (f i)) X dX3_total_19 1 0 rfl rfl (by omega) (by omega) (rfl) ?_
        refine g_iadd (v := (s + (f i))) X dX3_total_20 (rfl) ?_
        refine g_istore_n (lv' := [(1, .int (s + (f i))), (0, .ref q), (2, .int (nI i))]) X dX3_total_21 rfl (by decide) rfl ?_
        refine g_iinc (v := nI (i + 1)) (lv' := [(2, .int (nI (i + 1))), (1, .int (s + (f i))), (0, .ref q)]) X dX3_total_22 2 rfl (nI_inc _) (by decide) rfl ?_
        refine g_goto (tgt := 4) X dX3_total_25 (by decide) ?_
        refine g_lv (lv' := [(0, .ref q), (1, .int (s + (f i))), (2, .int (nI (i + 1)))]) [2, 1, 0] rfl ?_
        exact ih4 (i + 1) (s + (f i)) (by omega) (by rw [hs]; rfl) (by omega)
  refine g_lv (lv' := [(0, .ref q), (1, .int (nI 0)), (2, .int (nI 0))]) [2, 1, 0] rfl ?_
  exact L4 (n + 1) 0 (nI 0) (Nat.zero_le _) (rfl) (by omega)

theorem ok_X3_init : okName yX3_init 1 := by decide +kernel
theorem in_X3_init_X3 : ∀ w ∈ u_ws RX3 TX3 1, w ∈ wsX3_init := by decide +kernel
set_option maxRecDepth 100000 in
set_option maxHeartbeats 4000000 in
theorem c_X3_init42 (l : Launch) (D : va_G) (ai az al : ClassId) (q : Nat) : CV l D (tY ai az al) yX3_init wsX3_init { frames := 1, cells := 1, slots := 42, locals := 20 } [.ref q, .int (nI 42)] [(q, .inr (3, [.null]))] (fun (u : Nat) => True) (fun (u : Nat) => [(q, .inr (3, [.ref u])), (u, .inl (ai, 42, .inl (fun _ => 0)))]) := by
  refine ofG_V (cc := cX3_init) (nL := 2) (lv0 := [(0, .ref q), (1, .int (nI 42))]) (by decide) rfl (Nat.le_of_ble_eq_true rfl) rfl ?_
  intro Γ X E hinit
  have hinit := hinit rfl
  refine g_aload_n X dX3_init_0 rfl 0 rfl ?_
  refine g_objInit X dX3_init_1 (by decide +kernel) (by decide +kernel) (by decide +kernel) (by decide) (by decide) ?_
  refine g_aload_n X dX3_init_4 rfl 0 rfl ?_
  refine g_iload_n X dX3_init_5 rfl 1 rfl ?_
  refine g_if_geN (tgt := 13) X dX3_init_6 (by decide) (by decide) (fun b6 => ?_) (fun b6 => False.elim (b6))
  refine g_iload_n X dX3_init_13 rfl 1 rfl ?_
  refine g_newa (ty := .int) (cA := ai) (N := 42) (a0 := (42, .inl (fun _ => 0))) X dX3_init_14 (by decide +kernel) rfl (fun C h => by cases h) 0 rfl (fun cA => rfl) (by decide) (by decide) (by decide) (by decide) (by decide) (fun q1 => ?_)
  refine g_sub (k := 1) (n := 42) (ws' := [(q, .inr (3, [.null])), (q1, .inl (ai, 42, .inl (fun _ => 0)))]) [0, 1] (by decide) rfl ?_
  refine g_putfF (T := TX3) (v := .ref q1) (ty := tyX3 0) (ws' := [(q, .inr (3, [.ref q1])), (q1, .inl (ai, 42, .inl (fun _ => 0)))]) X dX3_init_16 0 rfl rfl in_X3_init_X3 tyX3 tyX3_ok nmX3 0 (by decide) (by decide +kernel) rfl rfl hinit rfl (by decide +kernel) rfl rfl (by decide) rfl ?_
  exact g_vret X E dX3_init_19 q1 rfl (by decide) (by decide) (trivial)

set_option maxRecDepth 100000 in
set_option maxHeartbeats 4000000 in
theorem c_X3_init168 (l : Launch) (D : va_G) (ai az al : ClassId) (q : Nat) : CV l D (tY ai az al) yX3_init wsX3_init { frames := 1, cells := 1, slots := 168, locals := 20 } [.ref q, .int (nI 168)] [(q, .inr (3, [.null]))] (fun (u : Nat) => True) (fun (u : Nat) => [(q, .inr (3, [.ref u])), (u, .inl (ai, 168, .inl (fun _ => 0)))]) := by
  refine ofG_V (cc := cX3_init) (nL := 2) (lv0 := [(0, .ref q), (1, .int (nI 168))]) (by decide) rfl (Nat.le_of_ble_eq_true rfl) rfl ?_
  intro Γ X E hinit
  have hinit := hinit rfl
  refine g_aload_n X dX3_init_0 rfl 0 rfl ?_
  refine g_objInit X dX3_init_1 (by decide +kernel) (by decide +kernel) (by decide +kernel) (by decide) (by decide) ?_
  refine g_aload_n X dX3_init_4 rfl 0 rfl ?_
  refine g_iload_n X dX3_init_5 rfl 1 rfl ?_
  refine g_if_geN (tgt := 13) X dX3_init_6 (by decide) (by decide) (fun b6 => ?_) (fun b6 => False.elim (b6))
  refine g_iload_n X dX3_init_13 rfl 1 rfl ?_
  refine g_newa (ty := .int) (cA := ai) (N := 168) (a0 := (168, .inl (fun _ => 0))) X dX3_init_14 (by decide +kernel) rfl (fun C h => by cases h) 0 rfl (fun cA => rfl) (by decide) (by decide) (by decide) (by decide) (by decide) (fun q1 => ?_)
  refine g_sub (k := 1) (n := 168) (ws' := [(q, .inr (3, [.null])), (q1, .inl (ai, 168, .inl (fun _ => 0)))]) [0, 1] (by decide) rfl ?_
  refine g_putfF (T := TX3) (v := .ref q1) (ty := tyX3 0) (ws' := [(q, .inr (3, [.ref q1])), (q1, .inl (ai, 168, .inl (fun _ => 0)))]) X dX3_init_16 0 rfl rfl in_X3_init_X3 tyX3 tyX3_ok nmX3 0 (by decide) (by decide +kernel) rfl rfl hinit rfl (by decide +kernel) rfl rfl (by decide) rfl ?_
  exact g_vret X E dX3_init_19 q1 rfl (by decide) (by decide) (trivial)

set_option maxRecDepth 100000 in
set_option maxHeartbeats 4000000 in
theorem c_X3_init8 (l : Launch) (D : va_G) (ai az al : ClassId) (q : Nat) : CV l D (tY ai az al) yX3_init wsX3_init { frames := 1, cells := 1, slots := 8, locals := 20 } [.ref q, .int (nI 8)] [(q, .inr (3, [.null]))] (fun (u : Nat) => True) (fun (u : Nat) => [(q, .inr (3, [.ref u])), (u, .inl (ai, 8, .inl (fun _ => 0)))]) := by
  refine ofG_V (cc := cX3_init) (nL := 2) (lv0 := [(0, .ref q), (1, .int (nI 8))]) (by decide) rfl (Nat.le_of_ble_eq_true rfl) rfl ?_
  intro Γ X E hinit
  have hinit := hinit rfl
  refine g_aload_n X dX3_init_0 rfl 0 rfl ?_
  refine g_objInit X dX3_init_1 (by decide +kernel) (by decide +kernel) (by decide +kernel) (by decide) (by decide) ?_
  refine g_aload_n X dX3_init_4 rfl 0 rfl ?_
  refine g_iload_n X dX3_init_5 rfl 1 rfl ?_
  refine g_if_geN (tgt := 13) X dX3_init_6 (by decide) (by decide) (fun b6 => ?_) (fun b6 => False.elim (b6))
  refine g_iload_n X dX3_init_13 rfl 1 rfl ?_
  refine g_newa (ty := .int) (cA := ai) (N := 8) (a0 := (8, .inl (fun _ => 0))) X dX3_init_14 (by decide +kernel) rfl (fun C h => by cases h) 0 rfl (fun cA => rfl) (by decide) (by decide) (by decide) (by decide) (by decide) (fun q1 => ?_)
  refine g_sub (k := 1) (n := 8) (ws' := [(q, .inr (3, [.null])), (q1, .inl (ai, 8, .inl (fun _ => 0)))]) [0, 1] (by decide) rfl ?_
  refine g_putfF (T := TX3) (v := .ref q1) (ty := tyX3 0) (ws' := [(q, .inr (3, [.ref q1])), (q1, .inl (ai, 8, .inl (fun _ => 0)))]) X dX3_init_16 0 rfl rfl in_X3_init_X3 tyX3 tyX3_ok nmX3 0 (by decide) (by decide +kernel) rfl rfl hinit rfl (by decide +kernel) rfl rfl (by decide) rfl ?_
  exact g_vret X E dX3_init_19 q1 rfl (by decide) (by decide) (trivial)

theorem ok_X8_numberOf : okName yX8_numberOf 2 := by decide +kernel
set_option maxRecDepth 100000 in
set_option maxHeartbeats 4000000 in
theorem c_X8_numberOf (l : Launch) (D : va_G) (ai az al : ClassId) (x : Nat) (y : Nat) : CI l D (tY ai az al) yX8_numberOf wsX8_numberOf { frames := 0, cells := 0, slots := 0, locals := 0 } [.int (nI x), .int (nI y)] [] (fun (r : Int32) (u : Unit) => r = nI (y * 6 + x)) (fun (u : Unit) => []) := by
  refine ofG_I (cc := cX8_numberOf) (nL := 2) (lv0 := [(0, .int (nI x)), (1, .int (nI y))]) (by decide) rfl (Nat.le_of_ble_eq_true rfl) rfl ?_
  intro Γ X E
  refine g_iload_n X dX8_numberOf_0 rfl 1 rfl ?_
  refine g_bipush (v := nI 6) X dX8_numberOf_1 (by decide) ?_
  refine g_imul (v := nI (y * 6)) X dX8_numberOf_3 (pk_mul _ _) ?_
  refine g_iload_n X dX8_numberOf_4 rfl 0 rfl ?_
  refine g_iadd (v := nI ((y * 6) + x)) X dX8_numberOf_5 (nI_add _ _) ?_
  exact g_iret X E dX8_numberOf_6 () rfl (by decide) (by decide) (rfl)

theorem ok_X8_placeOf : okName yX8_placeOf 2 := by decide +kernel
set_option maxRecDepth 100000 in
set_option maxHeartbeats 4000000 in
theorem c_X8_placeOf (l : Launch) (D : va_G) (ai az al : ClassId) (x : Nat) (y : Nat) : CI l D (tY ai az al) yX8_placeOf wsX8_placeOf { frames := 0, cells := 0, slots := 0, locals := 0 } [.int (nI x), .int (nI y)] [] (fun (r : Int32) (u : Unit) => r = nI (x * 4 + y)) (fun (u : Unit) => []) := by
  refine ofG_I (cc := cX8_placeOf) (nL := 2) (lv0 := [(0, .int (nI x)), (1, .int (nI y))]) (by decide) rfl (Nat.le_of_ble_eq_true rfl) rfl ?_
  intro Γ X E
  refine g_iload_n X dX8_placeOf_0 rfl 0 rfl ?_
  refine g_iconst (v := nI 4) X dX8_placeOf_1 (by decide) ?_
  refine g_imul (v := nI (x * 4)) X dX8_placeOf_2 (pk_mul _ _) ?_
  refine g_iload_n X dX8_placeOf_3 rfl 1 rfl ?_
  refine g_iadd (v := nI ((x * 4) + y)) X dX8_placeOf_4 (nI_add _ _) ?_
  exact g_iret X E dX8_placeOf_5 () rfl (by decide) (by decide) (rfl)

theorem ok_X8_isCell : okName yX8_isCell 1 := by decide +kernel
set_option maxRecDepth 100000 in
set_option maxHeartbeats 4000000 in
theorem c_X8_isCell (l : Launch) (D : va_G) (ai az al : ClassId) (p : Int32) : CI l D (tY ai az al) yX8_isCell wsX8_isCell { frames := 0, cells := 0, slots := 0, locals := 0 } [.int p] [] (fun (r : Int32) (u : Unit) => (r = (if p < 0 ∨ nI 42 ≤ p then 0 else 1))) (fun (u : Unit) => []) := by
  refine ofG_I (cc := cX8_isCell) (nL := 1) (lv0 := [(0, .int p)]) (by decide) rfl (Nat.le_of_ble_eq_true rfl) rfl ?_
  intro Γ X E
  refine g_iload_n X dX8_isCell_0 rfl 0 rfl ?_
  refine g_if_lt (tgt := 14) X dX8_isCell_1 (by decide) (fun b1 => ?_) (fun b1 => ?_)
  · refine g_iconst (v := nI 0) X dX8_isCell_14 (by decide) ?_
    exact g_zret X E dX8_isCell_15 () rfl (by decide) (by decide) (rfl) (by simp only [*, true_or, or_true, or_self, if_true, if_false]; try rfl)
  · refine g_iload_n X dX8_isCell_4 rfl 0 rfl ?_
    refine g_bipush (v := nI 42) X dX8_isCell_5 (by decide) ?_
    refine g_icmp_ge (tgt := 14) X dX8_isCell_7 (by decide) (fun b7 => ?_) (fun b7 => ?_)
    · refine g_iconst (v := nI 0) X dX8_isCell_14 (by decide) ?_
      exact g_zret X E dX8_isCell_15 () rfl (by decide) (by decide) (rfl) (by simp only [*, true_or, or_true, or_self, if_true, if_false]; try rfl)
    · refine g_iconst (v := nI 1) X dX8_isCell_10 (by decide) ?_
      refine g_goto (tgt := 15) X dX8_isCell_11 (by decide) ?_
      exact g_zret X E dX8_isCell_15 () rfl (by decide) (by decide) (rfl) (by simp only [*, true_or, or_true, or_self, if_true, if_false]; try rfl)

theorem ok_X8_opposite : okName yX8_opposite 1 := by decide +kernel
set_option maxRecDepth 100000 in
set_option maxHeartbeats 4000000 in
theorem c_X8_opposite (l : Launch) (D : va_G) (ai az al : ClassId) (x : Nat) (hx4 : x < 4) : CI l D (tY ai az al) yX8_opposite wsX8_opposite { frames := 0, cells := 0, slots := 0, locals := 0 } [.int (nI x)] [] (fun (r : Int32) (u : Unit) => r = nI (opp x)) (fun (u : Unit) => []) := by
  refine ofG_I (cc := cX8_opposite) (nL := 1) (lv0 := [(0, .int (nI x))]) (by decide) rfl (Nat.le_of_ble_eq_true rfl) rfl ?_
  intro Γ X E
  refine g_iload_n X dX8_opposite_0 rfl 0 rfl ?_
  refine g_iconst (v := nI 1) X dX8_opposite_1 (by decide) ?_
  refine g_ixor (v := nI (opp x)) X dX8_opposite_2 (opp_xor hx4) ?_
  exact g_iret X E dX8_opposite_3 () rfl (by decide) (by decide) (rfl)
