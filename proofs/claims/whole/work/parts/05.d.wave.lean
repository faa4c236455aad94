/-! waves, in numbers: the energy is e less one -/
def tk (pl : Nat → Bool) (h : Nat → Nat) (c : Nat) : Nat := if pl c = false ∧ 0 < h c then 1 else 0
def tkH (pl : Nat → Bool) (h : Nat → Nat) (c : Nat) : Nat → Nat := if pl c = false ∧ 0 < h c then setN h c (h c - 1) else h
def tkC (pl : Nat → Bool) (h : Nat → Nat) (C : Nat → Int32) (c : Nat) : Nat → Int32 := if pl c = false ∧ 0 < h c then upd C c (C c - 1) else C
def drH (ld : Nat) (h : Nat → Nat) (c : Nat) : Nat → Nat := if 0 < ld then addN h c 1 else h
def drC (ld : Nat) (C : Nat → Int32) (c : Nat) : Nat → Int32 := if 0 < ld then upd C c (C c + 1) else C
abbrev wU : Type := Nat × (Nat → Nat) × (Nat → Int32) × Nat × Bool
/-- up: n rows are left, the next is row -/
def wUp (nb : Nat → Nat → Nat) (pl : Nat → Bool) (col : Nat) : Nat → Nat → Nat → (Nat → Nat) → (Nat → Int32) → Nat → wU
  | 0, row, _, h, C, ld => (row, h, C, ld, true)
  | n + 1, row, e, h, C, ld => if nb (row * 6 + col) 0 = 43 then (row, h, C, ld, true) else if e ≤ h (row * 6 + col) + 1 then (row, h, C, ld, false) else wUp nb pl col n (row + 1) (e - 1 - h (row * 6 + col) / 4 - bn (pl (row * 6 + col))) (tkH pl h (row * 6 + col)) (tkC pl h C (row * 6 + col)) (ld + tk pl h (row * 6 + col))
/-- back over k rows -/
def wDn (pl : Nat → Bool) (col : Nat) (th : Bool) : Nat → (Nat → Nat) → (Nat → Int32) → Nat → (Nat → Nat) × (Nat → Int32) × Nat
  | 0, h, C, ld => (h, C, ld)
  | k + 1, h, C, ld => if th = true then wDn pl col th k (tkH pl h (k * 6 + col)) (tkC pl h C (k * 6 + col)) (ld + tk pl h (k * 6 + col)) else wDn pl col th k (drH ld h (k * 6 + col)) (drC ld C (k * 6 + col)) (ld - 1)
def wR (nb : Nat → Nat → Nat) (pl : Nat → Bool) (col e : Nat) (h : Nat → Nat) (C : Nat → Int32) : Nat × (Nat → Nat) × (Nat → Int32) × Nat :=
  match wUp nb pl col 7 0 (e + 1) h C 0 with
  | (en, h2, C2, ld2, th) => (en, wDn pl col th en h2 C2 ld2)
theorem sN_set {f : Nat → Nat} {c x : Nat} : ∀ {n : Nat}, c < n → sN (setN f c x) n + f c = sN f n + x
  | 0, hc => absurd hc (by omega)
  | n + 1, hc => by
    show sN (setN f c x) n + setN f c x n + f c = sN f n + f n + x
    by_cases e : c = n
    · subst e
      have : ∀ m, m ≤ c → sN (setN f c x) m = sN f m := by
        intro m
        induction m with
        | zero => intro _; rfl
        | succ m ih =>
          intro hm
          show sN (setN f c x) m + setN f c x m = sN f m + f m
          rw [ih (by omega)]
          have : setN f c x m = f m := if_neg (by omega)
          omega
      have h2 : setN f c x c = x := if_pos rfl
      rw [this c (Nat.le_refl c), h2]; omega
    · have h2 : setN f c x n = f n := if_neg (fun q => e q.symm)
      have := sN_set (f := f) (c := c) (x := x) (n := n) (by omega)
      rw [h2]; omega
theorem tk_sum {pl : Nat → Bool} {h : Nat → Nat} {c : Nat} (hc : c < 42) : sN (tkH pl h c) 42 + tk pl h c = sN h 42 := by
  unfold tkH tk
  by_cases q : pl c = false ∧ 0 < h c
  · rw [if_pos q, if_pos q]
    have := sN_set (f := h) (c := c) (x := h c - 1) (n := 42) hc
    omega
  · rw [if_neg q, if_neg q]; rfl
theorem wUp_sum {nb : Nat → Nat → Nat} {pl : Nat → Bool} {col : Nat} (hcol : col < 6) : ∀ (n row e : Nat) (h : Nat → Nat) (C : Nat → Int32) (ld : Nat) (r : wU), n + row = 7 → wUp nb pl col n row e h C ld = r → sN r.2.1 42 + r.2.2.2.1 = sN h 42 + ld ∧ r.1 ≤ 7
  | 0, row, _, h, C, ld, r, hn, he => by
    subst he
    exact ⟨rfl, by show row ≤ 7; omega⟩
  | n + 1, row, e, h, C, ld, r, hn, he => by
    unfold wUp at he
    split at he
    · subst he; exact ⟨rfl, by show row ≤ 7; omega⟩
    · split at he
      · subst he; exact ⟨rfl, by show row ≤ 7; omega⟩
      · have q := wUp_sum hcol n (row + 1) _ _ _ _ r (by omega) he
        have := tk_sum (pl := pl) (h := h) (c := row * 6 + col) (by omega)
        omega
theorem wDn_sum {pl : Nat → Bool} {col : Nat} (hcol : col < 6) (th : Bool) : ∀ (k : Nat) (h : Nat → Nat) (C : Nat → Int32) (ld : Nat), k ≤ 7 → sN (wDn pl col th k h C ld).1 42 + (wDn pl col th k h C ld).2.2 = sN h 42 + ld
  | 0, h, C, ld, _ => rfl
  | k + 1, h, C, ld, hk => by
    unfold wDn
    split
    · have q := wDn_sum (pl := pl) hcol th k (tkH pl h (k * 6 + col)) (tkC pl h C (k * 6 + col)) (ld + tk pl h (k * 6 + col)) (by omega)
      have := tk_sum (pl := pl) (h := h) (c := k * 6 + col) (by omega)
      omega
    · have q := wDn_sum (pl := pl) hcol th k (drH ld h (k * 6 + col)) (drC ld C (k * 6 + col)) (ld - 1) (by omega)
      unfold drH at q ⊢
      by_cases z : 0 < ld
      · rw [if_pos z] at q ⊢
        have := sN_add (f := h) (c := k * 6 + col) (k := 1) (n := 42) (by omega)
        omega
      · rw [if_neg z] at q ⊢
        omega
theorem wR_sum {nb : Nat → Nat → Nat} {pl : Nat → Bool} {col e : Nat} (hcol : col < 6) {h : Nat → Nat} {C : Nat → Int32} {en ld : Nat} {h3 : Nat → Nat} {C3 : Nat → Int32} (hr : wR nb pl col e h C = (en, h3, C3, ld)) : sN h3 42 ≤ sN h 42 := by
  unfold wR at hr
  generalize hu : wUp nb pl col 7 0 (e + 1) h C 0 = r at hr
  have q := wUp_sum hcol 7 0 (e + 1) h C 0 r rfl hu
  obtain ⟨en2, h2, C2, ld2, th⟩ := r
  dsimp only at hr q
  have q2 := wDn_sum (pl := pl) hcol th en2 h2 C2 ld2 q.2
  injection hr with e1 e2
  rw [e2] at q2
  dsimp only at q2
  omega
theorem tkH_le {pl : Nat → Bool} {h : Nat → Nat} {c : Nat} (d : Nat) : tkH pl h c d ≤ h d := by
  unfold tkH
  split
  · show (if d = c then h c - 1 else h d) ≤ h d
    split
    · rename_i e; subst e; omega
    · omega
  · exact Nat.le_refl _
theorem sub1 (x : Int32) : x + (-1) = x - 1 := (Int32.sub_eq_add_neg x 1).symm
theorem nI_m1 {a : Nat} (h : 0 < a) : nI a + (-1) = nI (a - 1) := by
  obtain ⟨j, rfl⟩ : ∃ j, a = j + 1 := ⟨a - 1, by omega⟩
  exact pk_m1 j
theorem dI_le {e x : Nat} (he : e < 2 ^ 31) (hx : x < 2 ^ 31) : nI x < dI e ↔ x + 1 < e := by
  unfold dI
  by_cases z : e = 0
  · rw [if_pos z]
    constructor
    · intro q
      have q1 := Int32.lt_iff_toInt_lt.mp q
      rw [nI_toInt hx] at q1
      have : ((-1 : Int32)).toInt = -1 := by decide
      omega
    · intro q; omega
  · rw [if_neg z, nI_ltI hx (by omega)]
    omega
theorem dI_sub {e b : Nat} (h : b < e) : dI e - nI b = dI (e - b) := by
  obtain ⟨j, rfl⟩ : ∃ j, e = j + 1 := ⟨e - 1, by omega⟩
  rw [dI_s]
  by_cases q : b ≤ j
  · rw [pk_sub q, show j + 1 - b = (j - b) + 1 by omega, dI_s]
  · have e1 : b = j + 1 := by omega
    subst e1
    omega
theorem nI_subd {j b : Nat} (h : b ≤ j + 1) : nI j - nI b = dI (j + 1 - b) := by
  by_cases q : b ≤ j
  · rw [pk_sub q, show j + 1 - b = (j - b) + 1 by omega, dI_s]
  · have e1 : b = j + 1 := by omega
    subst e1
    rw [show j + 1 - (j + 1) = 0 by omega, dI_0]
    have q9 : nI j = (-1) + nI (j + 1) := by rw [Int32.add_comm]; exact (pk_m1 j).symm
    rw [q9, Int32.add_sub_cancel]
theorem dI_subd {e b : Nat} (h : b ≤ e) (he : 0 < e) : dI e - nI b = dI (e - b) := by
  obtain ⟨j, rfl⟩ : ∃ j, e = j + 1 := ⟨e - 1, by omega⟩
  rw [dI_s]
  exact nI_subd h
theorem ok_X7_takeFrom : okName yX7_takeFrom 1 := by decide +kernel
theorem in_X7_takeFrom_X7 : ∀ w ∈ u_ws RX7 TX7 6, w ∈ wsX7_takeFrom := by decide +kernel
theorem in_X7_takeFrom_X4 : ∀ w ∈ u_ws RX4 TX4 8, w ∈ wsX7_takeFrom := by decide +kernel
set_option maxRecDepth 100000 in
set_option maxHeartbeats 4000000 in
theorem c_X7_takeFrom (l : Launch) (D : va_G) (ai az al : ClassId) (wv : Nat) (g : Nat) (pP : Nat) (sa : Nat) (eI : Int32) (ld : Nat) (enI : Int32) (pa : Nat) (Pf : Nat → Int32) (pl : Nat → Bool) (sl : Nat) (hN : Nat) (cN : Nat) (tN : Nat) (fN : Nat) (sea : Int32) (inall : Int32) (hA : Nat) (Hf : Nat → Int32) (cA : Nat) (Cf : Nat → Int32) (h : Nat → Nat) (c : Nat) (hc : c < 42) (hP : POK Pf pl) (hH : HOK Hf h) (hb : h c < 2 ^ 31) : CV l D (tY ai az al) yX7_takeFrom wsX7_takeFrom { frames := 2, cells := 0, slots := 0, locals := 44 } [.ref wv, .int (nI c)] [(wv, .inr (7, [.ref g, .ref pP, .ref sa, .int eI, .int (nI ld), .int enI])), (pP, .inr (3, [.ref pa])), (pa, .inl (ai, 42, .inl Pf)), (sa, .inr (4, [.ref g, .ref sl, .ref hN, .ref cN, .ref tN, .ref fN, .int sea, .int inall])), (hN, .inr (3, [.ref hA])), (hA, .inl (ai, 42, .inl Hf)), (cN, .inr (3, [.ref cA])), (cA, .inl (ai, 42, .inl Cf))] (fun (u : (Nat → Int32) × Nat × (Nat → Int32)) => u.1 = tkC pl h Cf c ∧ u.2.1 = ld + tk pl h c ∧ HOK u.2.2 (tkH pl h c)) (fun (u : (Nat → Int32) × Nat × (Nat → Int32)) => [(wv, .inr (7, [.ref g, .ref pP, .ref sa, .int eI, .int (nI u.2.1), .int enI])), (pP, .inr (3, [.ref pa])), (pa, .inl (ai, 42, .inl Pf)), (sa, .inr (4, [.ref g, .ref sl, .ref hN, .ref cN, .ref tN, .ref fN, .int sea, .int inall])), (hN, .inr (3, [.ref hA])), (hA, .inl (ai, 42, .inl u.2.2)), (cN, .inr (3, [.ref cA])), (cA, .inl (ai, 42, .inl u.1))]) := by
  refine ofG_V (cc := cX7_takeFrom) (nL := 2) (lv0 := [(0, .ref wv), (1, .int (nI c))]) (by decide) rfl (Nat.le_of_ble_eq_true rfl) rfl ?_
  intro Γ X E hinit
  refine g_aload_n X dX7_takeFrom_0 rfl 0 rfl ?_
  refine g_getf (T := TX7) (v := .ref pP) X dX7_takeFrom_1 0 rfl rfl in_X7_takeFrom_X7 1 (by decide) (by decide +kernel) rfl rfl ?_
  refine g_iload_n X dX7_takeFrom_4 rfl 1 rfl ?_
  refine g_callVi (C := RX3) (As := [.int (nI c)]) (rest := []) (wr := [(wv, .inr (7, [.ref g, .ref pP, .ref sa, .int eI, .int (nI ld), .int enI])), (sa, .inr (4, [.ref g, .ref sl, .ref hN, .ref cN, .ref tN, .ref fN, .int sea, .int inall])), (hN, .inr (3, [.ref hA])), (hA, .inl (ai, 42, .inl Hf)), (cN, .inr (3, [.ref cA])), (cA, .inl (ai, 42, .inl Cf))]) X dX7_takeFrom_5 (c_X3_atN l D ai az al pP pa 42 Pf c (by decide) (by omega)) gX7_takeFrom_X3_at rfl rfl ok_X3_at rfl rfl (by decide) ⟨by decide, by decide⟩ (Nat.le_of_ble_eq_true rfl) [1, 2] [0, 3, 4, 5, 6, 7] ⟨rfl, by decide, rfl, by decide, by decide⟩ 0 rfl rfl rfl (fun r1 u hp => ?_)
  obtain rfl := hp
  refine g_sub (k := 0) (n := 0) (ws' := [(wv, .inr (7, [.ref g, .ref pP, .ref sa, .int eI, .int (nI ld), .int enI])), (pP, .inr (3, [.ref pa])), (pa, .inl (ai, 42, .inl Pf)), (sa, .inr (4, [.ref g, .ref sl, .ref hN, .ref cN, .ref tN, .ref fN, .int sea, .int inall])), (hN, .inr (3, [.ref hA])), (hA, .inl (ai, 42, .inl Hf)), (cN, .inr (3, [.ref cA])), (cA, .inl (ai, 42, .inl Cf))]) [0, 6, 7, 1, 2, 3, 4, 5] (by decide) rfl ?_
  refine g_if_ne (tgt := 44) X dX7_takeFrom_8 (by decide) (fun b8 => ?_) (fun b8 => ?_)
  · exact g_vret X E dX7_takeFrom_44 (⟨Cf, ld, Hf⟩) rfl (by decide) (by decide) (by
        first
        | (have hz : pl c = false ∧ 0 < h c := ⟨by have q := hP c hc; rw [b8] at q; cases hp : pl c; rfl; rw [hp] at q; exact absurd q (by decide), b22⟩
           unfold tkC tk tkH; rw [if_pos hz, if_pos hz, if_pos hz]
           exact ⟨by rw [sub1], rfl, hH.set (by rw [hH c hc]; exact nI_m1 hz.2)⟩)
        | (have hz : ¬ (pl c = false ∧ 0 < h c) := fun q => by first | (have q2 := hP c hc; rw [q.1] at q2; exact b8 q2) | omega
           unfold tkC tk tkH; rw [if_neg hz, if_neg hz, if_neg hz]
           exact ⟨rfl, rfl, hH⟩))
  · refine g_aload_n X dX7_takeFrom_11 rfl 0 rfl ?_
    refine g_getf (T := TX7) (v := .ref sa) X dX7_takeFrom_12 0 rfl rfl in_X7_takeFrom_X7 2 (by decide) (by decide +kernel) rfl rfl ?_
    refine g_getfN (T := TX4) (v := .ref hN) X dX7_takeFrom_15 3 rfl rfl in_X7_takeFrom_X4 2 (by decide) 16 rfl rfl rfl ?_
    refine g_iload_n X dX7_takeFrom_18 rfl 1 rfl ?_
    refine g_callVi (C := RX3) (As := [.int (nI c)]) (rest := []) (wr := [(wv, .inr (7, [.ref g, .ref pP, .ref sa, .int eI, .int (nI ld), .int enI])), (pP, .inr (3, [.ref pa])), (pa, .inl (ai, 42, .inl Pf)), (sa, .inr (4, [.ref g, .ref sl, .ref hN, .ref cN, .ref tN, .ref fN, .int sea, .int inall])), (cN, .inr (3, [.ref cA])), (cA, .inl (ai, 42, .inl Cf))]) X dX7_takeFrom_19 (c_X3_atN l D ai az al hN hA 42 Hf c (by decide) (by omega)) gX7_takeFrom_X3_at rfl rfl ok_X3_at rfl rfl (by decide) ⟨by decide, by decide⟩ (Nat.le_of_ble_eq_true rfl) [4, 5] [0, 1, 2, 3, 6, 7] ⟨rfl, by decide, rfl, by decide, by decide⟩ 0 rfl rfl rfl (fun r2 u hp => ?_)
    obtain rfl := hp
    refine g_sub (k := 0) (n := 0) (ws' := [(wv, .inr (7, [.ref g, .ref pP, .ref sa, .int eI, .int (nI ld), .int enI])), (pP, .inr (3, [.ref pa])), (pa, .inl (ai, 42, .inl Pf)), (sa, .inr (4, [.ref g, .ref sl, .ref hN, .ref cN, .ref tN, .ref fN, .int sea, .int inall])), (hN, .inr (3, [.ref hA])), (hA, .inl (ai, 42, .inl Hf)), (cN, .inr (3, [.ref cA])), (cA, .inl (ai, 42, .inl Cf))]) [0, 1, 2, 3, 6, 7, 4, 5] (by decide) rfl ?_
    rw [hH c hc]
    refine g_if_leN (tgt := 44) X dX7_takeFrom_22 (by decide) hb (fun b22 => ?_) (fun b22 => ?_)
    · exact g_vret X E dX7_takeFrom_44 (⟨Cf, ld, Hf⟩) rfl (by decide) (by decide) (by
        first
        | (have hz : pl c = false ∧ 0 < h c := ⟨by have q := hP c hc; rw [b8] at q; cases hp : pl c; rfl; rw [hp] at q; exact absurd q (by decide), b22⟩
           unfold tkC tk tkH; rw [if_pos hz, if_pos hz, if_pos hz]
           exact ⟨by rw [sub1], rfl, hH.set (by rw [hH c hc]; exact nI_m1 hz.2)⟩)
        | (have hz : ¬ (pl c = false ∧ 0 < h c) := fun q => by first | (have q2 := hP c hc; rw [q.1] at q2; exact b8 q2) | omega
           unfold tkC tk tkH; rw [if_neg hz, if_neg hz, if_neg hz]
           exact ⟨rfl, rfl, hH⟩))
    · refine g_aload_n X dX7_takeFrom_25 rfl 0 rfl ?_
      refine g_getf (T := TX7) (v := .ref sa) X dX7_takeFrom_26 0 rfl rfl in_X7_takeFrom_X7 2 (by decide) (by decide +kernel) rfl rfl ?_
      refine g_iload_n X dX7_takeFrom_29 rfl 1 rfl ?_
      refine g_iconst (v := (-1)) X dX7_takeFrom_30 (by decide) ?_
      refine g_callVv (C := RX4) (As := [.int (nI c), .int (-1)]) (rest := []) (wr := [(wv, .inr (7, [.ref g, .ref pP, .ref sa, .int eI, .int (nI ld), .int enI])), (pP, .inr (3, [.ref pa])), (pa, .inl (ai, 42, .inl Pf))]) X dX7_takeFrom_31 (c_X4_carry l D ai az al sa g sl hN cN tN fN sea inall hA Hf cA Cf c (-1) (hc)) gX7_takeFrom_X4_carry rfl rfl ok_X4_carry rfl rfl (by decide) ⟨by decide, by decide⟩ (Nat.le_of_ble_eq_true rfl) [3, 4, 5, 6, 7] [0, 1, 2] ⟨rfl, by decide, rfl, by decide, by decide⟩ 0 rfl rfl rfl (fun u hp => ?_)
      refine g_sub (k := 0) (n := 0) (ws' := [(wv, .inr (7, [.ref g, .ref pP, .ref sa, .int eI, .int (nI ld), .int enI])), (pP, .inr (3, [.ref pa])), (pa, .inl (ai, 42, .inl Pf)), (sa, .inr (4, [.ref g, .ref sl, .ref hN, .ref cN, .ref tN, .ref fN, .int sea, .int inall])), (hN, .inr (3, [.ref hA])), (hA, .inl (ai, 42, .inl (upd Hf c (Hf c + (-1))))), (cN, .inr (3, [.ref cA])), (cA, .inl (ai, 42, .inl (upd Cf c (Cf c + (-1)))))]) [0, 1, 2, 3, 4, 5, 6, 7] (by decide) rfl ?_
      refine g_aload_n X dX7_takeFrom_34 rfl 0 rfl ?_
      refine g_dup X dX7_takeFrom_35 rfl ?_
      refine g_getf (T := TX7) (v := .int (nI ld)) X dX7_takeFrom_36 0 rfl rfl in_X7_takeFrom_X7 4 (by decide) (by decide +kernel) rfl rfl ?_
      refine g_iconst (v := nI 1) X dX7_takeFrom_39 (by decide) ?_
      refine g_iadd (v := nI (ld + 1)) X dX7_takeFrom_40 (nI_add _ _) ?_
      refine g_putf (T := TX7) (v := .int (nI (ld + 1))) (ty := tyX7 4) (ws' := [(wv, .inr (7, [.ref g, .ref pP, .ref sa, .int eI, .int (nI (ld + 1)), .int enI])), (pP, .inr (3, [.ref pa])), (pa, .inl (ai, 42, .inl Pf)), (sa, .inr (4, [.ref g, .ref sl, .ref hN, .ref cN, .ref tN, .ref fN, .int sea, .int inall])), (hN, .inr (3, [.ref hA])), (hA, .inl (ai, 42, .inl (upd Hf c (Hf c + (-1))))), (cN, .inr (3, [.ref cA])), (cA, .inl (ai, 42, .inl (upd Cf c (Cf c + (-1)))))]) X dX7_takeFrom_41 0 rfl rfl in_X7_takeFrom_X7 tyX7 tyX7_ok nmX7 4 (by decide) (by decide +kernel) rfl rfl (by decide +kernel) rfl rfl (Nat.le_of_ble_eq_true rfl) rfl ?_
      exact g_vret X E dX7_takeFrom_44 (⟨upd Cf c (Cf c + (-1)), ld + 1, upd Hf c (Hf c + (-1))⟩) rfl (by decide) (by decide) (by
        first
        | (have hz : pl c = false ∧ 0 < h c := ⟨by have q := hP c hc; rw [b8] at q; cases hp : pl c; rfl; rw [hp] at q; exact absurd q (by decide), b22⟩
           unfold tkC tk tkH; rw [if_pos hz, if_pos hz, if_pos hz]
           exact ⟨by rw [sub1], rfl, hH.set (by rw [hH c hc]; exact nI_m1 hz.2)⟩)
        | (have hz : ¬ (pl c = false ∧ 0 < h c) := fun q => by first | (have q2 := hP c hc; rw [q.1] at q2; exact b8 q2) | omega
           unfold tkC tk tkH; rw [if_neg hz, if_neg hz, if_neg hz]
           exact ⟨rfl, rfl, hH⟩))

theorem ok_X7_dropInto : okName yX7_dropInto 1 := by decide +kernel
theorem in_X7_dropInto_X7 : ∀ w ∈ u_ws RX7 TX7 6, w ∈ wsX7_dropInto := by decide +kernel
set_option maxRecDepth 100000 in
set_option maxHeartbeats 4000000 in
theorem c_X7_dropInto (l : Launch) (D : va_G) (ai az al : ClassId) (wv : Nat) (g : Nat) (pP : Nat) (sa : Nat) (eI : Int32) (ld : Nat) (enI : Int32) (sl : Nat) (hN : Nat) (cN : Nat) (tN : Nat) (fN : Nat) (sea : Int32) (inall : Int32) (hA : Nat) (Hf : Nat → Int32) (cA : Nat) (Cf : Nat → Int32) (h : Nat → Nat) (c : Nat) (hc : c < 42) (hH : HOK Hf h) (hld : ld < 2 ^ 31) : CV l D (tY ai az al) yX7_dropInto wsX7_dropInto { frames := 2, cells := 0, slots := 0, locals := 44 } [.ref wv, .int (nI c)] [(wv, .inr (7, [.ref g, .ref pP, .ref sa, .int eI, .int (nI ld), .int enI])), (sa, .inr (4, [.ref g, .ref sl, .ref hN, .ref cN, .ref tN, .ref fN, .int sea, .int inall])), (hN, .inr (3, [.ref hA])), (hA, .inl (ai, 42, .inl Hf)), (cN, .inr (3, [.ref cA])), (cA, .inl (ai, 42, .inl Cf))] (fun (u : (Nat → Int32) × Nat × (Nat → Int32)) => u.1 = drC ld Cf c ∧ u.2.1 = ld - 1 ∧ HOK u.2.2 (drH ld h c)) (fun (u : (Nat → Int32) × Nat × (Nat → Int32)) => [(wv, .inr (7, [.ref g, .ref pP, .ref sa, .int eI, .int (nI u.2.1), .int enI])), (sa, .inr (4, [.ref g, .ref sl, .ref hN, .ref cN, .ref tN, .ref fN, .int sea, .int inall])), (hN, .inr (3, [.ref hA])), (hA, .inl (ai, 42, .inl u.2.2)), (cN, .inr (3, [.ref cA])), (cA, .inl (ai, 42, .inl u.1))]) := by
  refine ofG_V (cc := cX7_dropInto) (nL := 2) (lv0 := [(0, .ref wv), (1, .int (nI c))]) (by decide) rfl (Nat.le_of_ble_eq_true rfl) rfl ?_
  intro Γ X E hinit
  refine g_aload_n X dX7_dropInto_0 rfl 0 rfl ?_
  refine g_getf (T := TX7) (v := .int (nI ld)) X dX7_dropInto_1 0 rfl rfl in_X7_dropInto_X7 4 (by decide) (by decide +kernel) rfl rfl ?_
  refine g_if_leN (tgt := 26) X dX7_dropInto_4 (by decide) hld (fun b4 => ?_) (fun b4 => ?_)
  · exact g_vret X E dX7_dropInto_26 (⟨Cf, ld, Hf⟩) rfl (by decide) (by decide) (by
        unfold drC drH
        first
        | (rw [if_pos b4, if_pos b4]; exact ⟨rfl, rfl, hH.add1 hc⟩)
        | (subst b4; exact ⟨rfl, rfl, hH⟩))
  · refine g_aload_n X dX7_dropInto_7 rfl 0 rfl ?_
    refine g_getf (T := TX7) (v := .ref sa) X dX7_dropInto_8 0 rfl rfl in_X7_dropInto_X7 2 (by decide) (by decide +kernel) rfl rfl ?_
    refine g_iload_n X dX7_dropInto_11 rfl 1 rfl ?_
    refine g_iconst (v := nI 1) X dX7_dropInto_12 (by decide) ?_
    refine g_callVv (C := RX4) (As := [.int (nI c), .int (nI 1)]) (rest := []) (wr := [(wv, .inr (7, [.ref g, .ref pP, .ref sa, .int eI, .int (nI ld), .int enI]))]) X dX7_dropInto_13 (c_X4_carry l D ai az al sa g sl hN cN tN fN sea inall hA Hf cA Cf c (nI 1) (hc)) gX7_dropInto_X4_carry rfl rfl ok_X4_carry rfl rfl (by decide) ⟨by decide, by decide⟩ (Nat.le_of_ble_eq_true rfl) [1, 2, 3, 4, 5] [0] ⟨rfl, by decide, rfl, by decide, by decide⟩ 0 rfl rfl rfl (fun u hp => ?_)
    refine g_sub (k := 0) (n := 0) (ws' := [(wv, .inr (7, [.ref g, .ref pP, .ref sa, .int eI, .int (nI ld), .int enI])), (sa, .inr (4, [.ref g, .ref sl, .ref hN, .ref cN, .ref tN, .ref fN, .int sea, .int inall])), (hN, .inr (3, [.ref hA])), (hA, .inl (ai, 42, .inl (upd Hf c (Hf c + (nI 1))))), (cN, .inr (3, [.ref cA])), (cA, .inl (ai, 42, .inl (upd Cf c (Cf c + (nI 1)))))]) [0, 1, 2, 3, 4, 5] (by decide) rfl ?_
    refine g_aload_n X dX7_dropInto_16 rfl 0 rfl ?_
    refine g_dup X dX7_dropInto_17 rfl ?_
    refine g_getf (T := TX7) (v := .int (nI ld)) X dX7_dropInto_18 0 rfl rfl in_X7_dropInto_X7 4 (by decide) (by decide +kernel) rfl rfl ?_
    refine g_iconst (v := nI 1) X dX7_dropInto_21 (by decide) ?_
    refine g_isub (v := nI (ld - 1)) X dX7_dropInto_22 (pk_sub b4) ?_
    refine g_putf (T := TX7) (v := .int (nI (ld - 1))) (ty := tyX7 4) (ws' := [(wv, .inr (7, [.ref g, .ref pP, .ref sa, .int eI, .int (nI (ld - 1)), .int enI])), (sa, .inr (4, [.ref g, .ref sl, .ref hN, .ref cN, .ref tN, .ref fN, .int sea, .int inall])), (hN, .inr (3, [.ref hA])), (hA, .inl (ai, 42, .inl (upd Hf c (Hf c + (nI 1))))), (cN, .inr (3, [.ref cA])), (cA, .inl (ai, 42, .inl (upd Cf c (Cf c + (nI 1)))))]) X dX7_dropInto_23 0 rfl rfl in_X7_dropInto_X7 tyX7 tyX7_ok nmX7 4 (by decide) (by decide +kernel) rfl rfl (by decide +kernel) rfl rfl (Nat.le_of_ble_eq_true rfl) rfl ?_
    exact g_vret X E dX7_dropInto_26 (⟨upd Cf c (Cf c + (nI 1)), ld - 1, upd Hf c (Hf c + (nI 1))⟩) rfl (by decide) (by decide) (by
        unfold drC drH
        first
        | (rw [if_pos b4, if_pos b4]; exact ⟨rfl, rfl, hH.add1 hc⟩)
        | (subst b4; exact ⟨rfl, rfl, hH⟩))

theorem ok_X7_enter : okName yX7_enter 1 := by decide +kernel
theorem in_X7_enter_X7 : ∀ w ∈ u_ws RX7 TX7 6, w ∈ wsX7_enter := by decide +kernel
theorem in_X7_enter_X4 : ∀ w ∈ u_ws RX4 TX4 8, w ∈ wsX7_enter := by decide +kernel
set_option maxRecDepth 100000 in
set_option maxHeartbeats 4000000 in
theorem c_X7_enter (l : Launch) (D : va_G) (ai az al : ClassId) (wv : Nat) (g : Nat) (pP : Nat) (sa : Nat) (e : Nat) (ld : Nat) (en : Nat) (pa : Nat) (Pf : Nat → Int32) (pl : Nat → Bool) (sl : Nat) (hN : Nat) (cN : Nat) (tN : Nat) (fN : Nat) (sea : Int32) (inall : Int32) (hA : Nat) (Hf : Nat → Int32) (cA : Nat) (Cf : Nat → Int32) (h : Nat → Nat) (c : Nat) (hc : c < 42) (hP : POK Pf pl) (hH : HOK Hf h) (hb : h c < 2 ^ 31) (hE : h c + 1 < e) (he : e < 2 ^ 31) : CV l D (tY ai az al) yX7_enter wsX7_enter { frames := 3, cells := 0, slots := 0, locals := 65 } [.ref wv, .int (nI c)] [(wv, .inr (7, [.ref g, .ref pP, .ref sa, .int (dI e), .int (nI ld), .int (nI en)])), (pP, .inr (3, [.ref pa])), (pa, .inl (ai, 42, .inl Pf)), (sa, .inr (4, [.ref g, .ref sl, .ref hN, .ref cN, .ref tN, .ref fN, .int sea, .int inall])), (hN, .inr (3, [.ref hA])), (hA, .inl (ai, 42, .inl Hf)), (cN, .inr (3, [.ref cA])), (cA, .inl (ai, 42, .inl Cf))] (fun (u : Int32 × (Nat → Int32) × Nat × (Nat → Int32)) => u.1 = dI (e - 1 - h c / 4 - bn (pl c)) ∧ u.2.1 = tkC pl h Cf c ∧ u.2.2.1 = ld + tk pl h c ∧ HOK u.2.2.2 (tkH pl h c)) (fun (u : Int32 × (Nat → Int32) × Nat × (Nat → Int32)) => [(wv, .inr (7, [.ref g, .ref pP, .ref sa, .int u.1, .int (nI u.2.2.1), .int (nI (en + 1))])), (pP, .inr (3, [.ref pa])), (pa, .inl (ai, 42, .inl Pf)), (sa, .inr (4, [.ref g, .ref sl, .ref hN, .ref cN, .ref tN, .ref fN, .int sea, .int inall])), (hN, .inr (3, [.ref hA])), (hA, .inl (ai, 42, .inl u.2.2.2)), (cN, .inr (3, [.ref cA])), (cA, .inl (ai, 42, .inl u.2.1))]) := by
  refine ofG_V (cc := cX7_enter) (nL := 2) (lv0 := [(0, .ref wv), (1, .int (nI c))]) (by decide) rfl (Nat.le_of_ble_eq_true rfl) rfl ?_
  intro Γ X E hinit
  refine g_aload_n X dX7_enter_0 rfl 0 rfl ?_
  refine g_dup X dX7_enter_1 rfl ?_
  refine g_getf (T := TX7) (v := .int (dI e)) X dX7_enter_2 0 rfl rfl in_X7_enter_X7 3 (by decide) (by decide +kernel) rfl rfl ?_
  refine g_iconst (v := nI 1) X dX7_enter_5 (by decide) ?_
  refine g_aload_n X dX7_enter_6 rfl 0 rfl ?_
  refine g_getf (T := TX7) (v := .ref sa) X dX7_enter_7 0 rfl rfl in_X7_enter_X7 2 (by decide) (by decide +kernel) rfl rfl ?_
  refine g_getfN (T := TX4) (v := .ref hN) X dX7_enter_10 3 rfl rfl in_X7_enter_X4 2 (by decide) 16 rfl rfl rfl ?_
  refine g_iload_n X dX7_enter_13 rfl 1 rfl ?_
  refine g_callVi (C := RX3) (As := [.int (nI c)]) (rest := [.int (nI 1), .int (dI e), .ref wv]) (wr := [(wv, .inr (7, [.ref g, .ref pP, .ref sa, .int (dI e), .int (nI ld), .int (nI en)])), (pP, .inr (3, [.ref pa])), (pa, .inl (ai, 42, .inl Pf)), (sa, .inr (4, [.ref g, .ref sl, .ref hN, .ref cN, .ref tN, .ref fN, .int sea, .int inall])), (cN, .inr (3, [.ref cA])), (cA, .inl (ai, 42, .inl Cf))]) X dX7_enter_14 (c_X3_atN l D ai az al hN hA 42 Hf c (by decide) (by omega)) gX7_enter_X3_at rfl rfl ok_X3_at rfl rfl (by decide) ⟨by decide, by decide⟩ (Nat.le_of_ble_eq_true rfl) [4, 5] [0, 1, 2, 3, 6, 7] ⟨rfl, by decide, rfl, by decide, by decide⟩ 0 rfl rfl rfl (fun r1 u hp => ?_)
  obtain rfl := hp
  refine g_sub (k := 0) (n := 0) (ws' := [(wv, .inr (7, [.ref g, .ref pP, .ref sa, .int (dI e), .int (nI ld), .int (nI en)])), (pP, .inr (3, [.ref pa])), (pa, .inl (ai, 42, .inl Pf)), (sa, .inr (4, [.ref g, .ref sl, .ref hN, .ref cN, .ref tN, .ref fN, .int sea, .int inall])), (hN, .inr (3, [.ref hA])), (hA, .inl (ai, 42, .inl Hf)), (cN, .inr (3, [.ref cA])), (cA, .inl (ai, 42, .inl Cf))]) [0, 1, 2, 3, 6, 7, 4, 5] (by decide) rfl ?_
  rw [hH c hc]
  refine g_iconst (v := nI 4) X dX7_enter_17 (by decide) ?_
  refine g_idiv (v := nI (h c / 4)) X dX7_enter_18 (by decide) (pk_div hb (by decide) (by decide)) ?_
  refine g_iadd (v := nI (1 + (h c / 4))) X dX7_enter_19 (nI_add _ _) ?_
  refine g_isub (v := (dI (e - 1 - h c / 4))) X dX7_enter_20 ((dI_sub (by omega)).trans (by congr 1; omega)) ?_
  refine g_putf (T := TX7) (v := .int (dI (e - 1 - h c / 4))) (ty := tyX7 3) (ws' := [(wv, .inr (7, [.ref g, .ref pP, .ref sa, .int (dI (e - 1 - h c / 4)), .int (nI ld), .int (nI en)])), (pP, .inr (3, [.ref pa])), (pa, .inl (ai, 42, .inl Pf)), (sa, .inr (4, [.ref g, .ref sl, .ref hN, .ref cN, .ref tN, .ref fN, .int sea, .int inall])), (hN, .inr (3, [.ref hA])), (hA, .inl (ai, 42, .inl Hf)), (cN, .inr (3, [.ref cA])), (cA, .inl (ai, 42, .inl Cf))]) X dX7_enter_21 0 rfl rfl in_X7_enter_X7 tyX7 tyX7_ok nmX7 3 (by decide) (by decide +kernel) rfl rfl (by decide +kernel) rfl rfl (Nat.le_of_ble_eq_true rfl) rfl ?_
  refine g_aload_n X dX7_enter_24 rfl 0 rfl ?_
  refine g_getf (T := TX7) (v := .ref pP) X dX7_enter_25 0 rfl rfl in_X7_enter_X7 1 (by decide) (by decide +kernel) rfl rfl ?_
  refine g_iload_n X dX7_enter_28 rfl 1 rfl ?_
  refine g_callVi (C := RX3) (As := [.int (nI c)]) (rest := []) (wr := [(wv, .inr (7, [.ref g, .ref pP, .ref sa, .int (dI (e - 1 - h c / 4)), .int (nI ld), .int (nI en)])), (sa, .inr (4, [.ref g, .ref sl, .ref hN, .ref cN, .ref tN, .ref fN, .int sea, .int inall])), (hN, .inr (3, [.ref hA])), (hA, .inl (ai, 42, .inl Hf)), (cN, .inr (3, [.ref cA])), (cA, .inl (ai, 42, .inl Cf))]) X dX7_enter_29 (c_X3_atN l D ai az al pP pa 42 Pf c (by decide) (by omega)) gX7_enter_X3_at rfl rfl ok_X3_at rfl rfl (by decide) ⟨by decide, by decide⟩ (Nat.le_of_ble_eq_true rfl) [1, 2] [0, 3, 4, 5, 6, 7] ⟨rfl, by decide, rfl, by decide, by decide⟩ 0 rfl rfl rfl (fun r2 u hp => ?_)
  obtain rfl := hp
  refine g_sub (k := 0) (n := 0) (ws' := [(wv, .inr (7, [.ref g, .ref pP, .ref sa, .int (dI (e - 1 - h c / 4)), .int (nI ld), .int (nI en)])), (pP, .inr (3, [.ref pa])), (pa, .inl (ai, 42, .inl Pf)), (sa, .inr (4, [.ref g, .ref sl, .ref hN, .ref cN, .ref tN, .ref fN, .int sea, .int inall])), (hN, .inr (3, [.ref hA])), (hA, .inl (ai, 42, .inl Hf)), (cN, .inr (3, [.ref cA])), (cA, .inl (ai, 42, .inl Cf))]) [0, 6, 7, 1, 2, 3, 4, 5] (by decide) rfl ?_
  refine g_if_eq (tgt := 45) X dX7_enter_32 (by decide) (fun b32 => ?_) (fun b32 => ?_)
  · refine g_aload_n X dX7_enter_45 rfl 0 rfl ?_
    refine g_iload_n X dX7_enter_46 rfl 1 rfl ?_
    refine g_callVv (C := RX7) (As := [.int (nI c)]) (rest := []) (wr := []) X dX7_enter_47 (c_X7_takeFrom l D ai az al wv g pP sa (dI (e - 1 - h c / 4)) ld (nI en) pa Pf pl sl hN cN tN fN sea inall hA Hf cA Cf h c (hc) (hP) (hH) (hb)) gX7_enter_X7_takeFrom rfl rfl ok_X7_takeFrom rfl rfl (by decide) ⟨by decide, by decide⟩ (Nat.le_of_ble_eq_true rfl) [0, 1, 2, 3, 4, 5, 6, 7] [] ⟨rfl, by decide, rfl, by decide, by decide⟩ 0 rfl rfl rfl (fun u hp => ?_)
    obtain ⟨C23, ld24, H25⟩ := u
    try dsimp only at hp
    obtain ⟨rfl, rfl, hH5⟩ := hp
    refine g_sub (k := 0) (n := 0) (ws' := [(wv, .inr (7, [.ref g, .ref pP, .ref sa, .int (dI (e - 1 - h c / 4)), .int (nI (ld + tk pl h c)), .int (nI en)])), (pP, .inr (3, [.ref pa])), (pa, .inl (ai, 42, .inl Pf)), (sa, .inr (4, [.ref g, .ref sl, .ref hN, .ref cN, .ref tN, .ref fN, .int sea, .int inall])), (hN, .inr (3, [.ref hA])), (hA, .inl (ai, 42, .inl H25)), (cN, .inr (3, [.ref cA])), (cA, .inl (ai, 42, .inl (tkC pl h Cf c)))]) [0, 1, 2, 3, 4, 5, 6, 7] (by decide) rfl ?_
    refine g_aload_n X dX7_enter_50 rfl 0 rfl ?_
    refine g_dup X dX7_enter_51 rfl ?_
    refine g_getf (T := TX7) (v := .int (nI en)) X dX7_enter_52 0 rfl rfl in_X7_enter_X7 5 (by decide) (by decide +kernel) rfl rfl ?_
    refine g_iconst (v := nI 1) X dX7_enter_55 (by decide) ?_
    refine g_iadd (v := nI (en + 1)) X dX7_enter_56 (nI_add _ _) ?_
    refine g_putf (T := TX7) (v := .int (nI (en + 1))) (ty := tyX7 5) (ws' := [(wv, .inr (7, [.ref g, .ref pP, .ref sa, .int (dI (e - 1 - h c / 4)), .int (nI (ld + tk pl h c)), .int (nI (en + 1))])), (pP, .inr (3, [.ref pa])), (pa, .inl (ai, 42, .inl Pf)), (sa, .inr (4, [.ref g, .ref sl, .ref hN, .ref cN, .ref tN, .ref fN, .int sea, .int inall])), (hN, .inr (3, [.ref hA])), (hA, .inl (ai, 42, .inl H25)), (cN, .inr (3, [.ref cA])), (cA, .inl (ai, 42, .inl (tkC pl h Cf c)))]) X dX7_enter_57 0 rfl rfl in_X7_enter_X7 tyX7 tyX7_ok nmX7 5 (by decide) (by decide +kernel) rfl rfl (by decide +kernel) rfl rfl (Nat.le_of_ble_eq_true rfl) rfl ?_
    exact g_vret X E dX7_enter_60 (⟨dI (e - 1 - h c / 4), tkC pl h Cf c, ld + tk pl h c, H25⟩) rfl (by decide) (by decide) (by
        have q := hP c hc
        refine ⟨?_, rfl, rfl, hH5⟩
        first
        | (rw [b32] at q
           have hp : pl c = false := by cases hp : pl c; rfl; rw [hp] at q; exact absurd q (by decide)
           rw [hp]; show _ = dI (e - 1 - h c / 4 - 0); congr 1)
        | (have hp : pl c = true := by cases hp : pl c; rw [hp] at q; exact absurd q b32; rfl
           rw [hp]; show _ = dI (e - 1 - h c / 4 - 1); rfl))
  · refine g_aload_n X dX7_enter_35 rfl 0 rfl ?_
    refine g_dup X dX7_enter_36 rfl ?_
    refine g_getf (T := TX7) (v := .int (dI (e - 1 - h c / 4))) X dX7_enter_37 0 rfl rfl in_X7_enter_X7 3 (by decide) (by decide +kernel) rfl rfl ?_
    refine g_iconst (v := nI 1) X dX7_enter_40 (by decide) ?_
    refine g_isub (v := (dI (e - 1 - h c / 4 - 1))) X dX7_enter_41 (dI_subd (by omega) (by omega)) ?_
    refine g_putf (T := TX7) (v := .int (dI (e - 1 - h c / 4 - 1))) (ty := tyX7 3) (ws' := [(wv, .inr (7, [.ref g, .ref pP, .ref sa, .int (dI (e - 1 - h c / 4 - 1)), .int (nI ld), .int (nI en)])), (pP, .inr (3, [.ref pa])), (pa, .inl (ai, 42, .inl Pf)), (sa, .inr (4, [.ref g, .ref sl, .ref hN, .ref cN, .ref tN, .ref fN, .int sea, .int inall])), (hN, .inr (3, [.ref hA])), (hA, .inl (ai, 42, .inl Hf)), (cN, .inr (3, [.ref cA])), (cA, .inl (ai, 42, .inl Cf))]) X dX7_enter_42 0 rfl rfl in_X7_enter_X7 tyX7 tyX7_ok nmX7 3 (by decide) (by decide +kernel) rfl rfl (by decide +kernel) rfl rfl (Nat.le_of_ble_eq_true rfl) rfl ?_
    refine g_aload_n X dX7_enter_45 rfl 0 rfl ?_
    refine g_iload_n X dX7_enter_46 rfl 1 rfl ?_
    refine g_callVv (C := RX7) (As := [.int (nI c)]) (rest := []) (wr := []) X dX7_enter_47 (c_X7_takeFrom l D ai az al wv g pP sa (dI (e - 1 - h c / 4 - 1)) ld (nI en) pa Pf pl sl hN cN tN fN sea inall hA Hf cA Cf h c (hc) (hP) (hH) (hb)) gX7_enter_X7_takeFrom rfl rfl ok_X7_takeFrom rfl rfl (by decide) ⟨by decide, by decide⟩ (Nat.le_of_ble_eq_true rfl) [0, 1, 2, 3, 4, 5, 6, 7] [] ⟨rfl, by decide, rfl, by decide, by decide⟩ 0 rfl rfl rfl (fun u hp => ?_)
    obtain ⟨C26, ld27, H28⟩ := u
    try dsimp only at hp
    obtain ⟨rfl, rfl, hH5⟩ := hp
    refine g_sub (k := 0) (n := 0) (ws' := [(wv, .inr (7, [.ref g, .ref pP, .ref sa, .int (dI (e - 1 - h c / 4 - 1)), .int (nI (ld + tk pl h c)), .int (nI en)])), (pP, .inr (3, [.ref pa])), (pa, .inl (ai, 42, .inl Pf)), (sa, .inr (4, [.ref g, .ref sl, .ref hN, .ref cN, .ref tN, .ref fN, .int sea, .int inall])), (hN, .inr (3, [.ref hA])), (hA, .inl (ai, 42, .inl H28)), (cN, .inr (3, [.ref cA])), (cA, .inl (ai, 42, .inl (tkC pl h Cf c)))]) [0, 1, 2, 3, 4, 5, 6, 7] (by decide) rfl ?_
    refine g_aload_n X dX7_enter_50 rfl 0 rfl ?_
    refine g_dup X dX7_enter_51 rfl ?_
    refine g_getf (T := TX7) (v := .int (nI en)) X dX7_enter_52 0 rfl rfl in_X7_enter_X7 5 (by decide) (by decide +kernel) rfl rfl ?_
    refine g_iconst (v := nI 1) X dX7_enter_55 (by decide) ?_
    refine g_iadd (v := nI (en + 1)) X dX7_enter_56 (nI_add _ _) ?_
    refine g_putf (T := TX7) (v := .int (nI (en + 1))) (ty := tyX7 5) (ws' := [(wv, .inr (7, [.ref g, .ref pP, .ref sa, .int (dI (e - 1 - h c / 4 - 1)), .int (nI (ld + tk pl h c)), .int (nI (en + 1))])), (pP, .inr (3, [.ref pa])), (pa, .inl (ai, 42, .inl Pf)), (sa, .inr (4, [.ref g, .ref sl, .ref hN, .ref cN, .ref tN, .ref fN, .int sea, .int inall])), (hN, .inr (3, [.ref hA])), (hA, .inl (ai, 42, .inl H28)), (cN, .inr (3, [.ref cA])), (cA, .inl (ai, 42, .inl (tkC pl h Cf c)))]) X dX7_enter_57 0 rfl rfl in_X7_enter_X7 tyX7 tyX7_ok nmX7 5 (by decide) (by decide +kernel) rfl rfl (by decide +kernel) rfl rfl (Nat.le_of_ble_eq_true rfl) rfl ?_
    exact g_vret X E dX7_enter_60 (⟨dI (e - 1 - h c / 4 - 1), tkC pl h Cf c, ld + tk pl h c, H28⟩) rfl (by decide) (by decide) (by
        have q := hP c hc
        refine ⟨?_, rfl, rfl, hH5⟩
        first
        | (rw [b32] at q
           have hp : pl c = false := by cases hp : pl c; rfl; rw [hp] at q; exact absurd q (by decide)
           rw [hp]; show _ = dI (e - 1 - h c / 4 - 0); congr 1)
        | (have hp : pl c = true := by cases hp : pl c; rw [hp] at q; exact absurd q b32; rfl
           rw [hp]; show _ = dI (e - 1 - h c / 4 - 1); rfl))

theorem ok_X7_runUp : okName yX7_runUp 1 := by decide +kernel
theorem in_X7_runUp_X7 : ∀ w ∈ u_ws RX7 TX7 6, w ∈ wsX7_runUp := by decide +kernel
theorem in_X7_runUp_X4 : ∀ w ∈ u_ws RX4 TX4 8, w ∈ wsX7_runUp := by decide +kernel
set_option maxRecDepth 100000 in
set_option maxHeartbeats 4000000 in
theorem c_X7_runUp (l : Launch) (D : va_G) (ai az al : ClassId) (wv : Nat) (g : Nat) (pP : Nat) (sa : Nat) (e : Nat) (L : Nat) (la : Nat) (Lf : Nat → Int32) (wc : Int32) (nb : Nat → Nat → Nat) (pa : Nat) (Pf : Nat → Int32) (pl : Nat → Bool) (sl : Nat) (hN : Nat) (cN : Nat) (tN : Nat) (fN : Nat) (sea : Int32) (inall : Int32) (hA : Nat) (Hf : Nat → Int32) (cA : Nat) (Cf : Nat → Int32) (h : Nat → Nat) (col : Nat) (hcol : col < 6) (hL : LeadsOK Lf nb) (hP : POK Pf pl) (hH : HOK Hf h) (hb : ∀ c, c < 42 → h c < 2 ^ 31) (he : e < 2 ^ 31) : CI l D (tY ai az al) yX7_runUp wsX7_runUp { frames := 4, cells := 0, slots := 0, locals := 86 } [.ref wv, .int (nI col)] [(wv, .inr (7, [.ref g, .ref pP, .ref sa, .int (dI e), .int (nI 0), .int (nI 0)])), (g, .inr (2, [.ref L, .int wc])), (L, .inr (3, [.ref la])), (la, .inl (ai, 168, .inl Lf)), (pP, .inr (3, [.ref pa])), (pa, .inl (ai, 42, .inl Pf)), (sa, .inr (4, [.ref g, .ref sl, .ref hN, .ref cN, .ref tN, .ref fN, .int sea, .int inall])), (hN, .inr (3, [.ref hA])), (hA, .inl (ai, 42, .inl Hf)), (cN, .inr (3, [.ref cA])), (cA, .inl (ai, 42, .inl Cf))] (fun (r : Int32) (u : Int32 × Nat × Nat × (Nat → Int32) × (Nat → Int32) × (Nat → Nat) × Bool) => r = nI (bn u.2.2.2.2.2.2) ∧ wUp nb pl col 7 0 e h Cf 0 = (u.2.2.1, u.2.2.2.2.2.1, u.2.2.2.2.1, u.2.1, u.2.2.2.2.2.2) ∧ HOK u.2.2.2.1 u.2.2.2.2.2.1 ∧ (∀ c, c < 42 → u.2.2.2.2.2.1 c < 2 ^ 31)) (fun (u : Int32 × Nat × Nat × (Nat → Int32) × (Nat → Int32) × (Nat → Nat) × Bool) => [(wv, .inr (7, [.ref g, .ref pP, .ref sa, .int u.1, .int (nI u.2.1), .int (nI u.2.2.1)])), (g, .inr (2, [.ref L, .int wc])), (L, .inr (3, [.ref la])), (la, .inl (ai, 168, .inl Lf)), (pP, .inr (3, [.ref pa])), (pa, .inl (ai, 42, .inl Pf)), (sa, .inr (4, [.ref g, .ref sl, .ref hN, .ref cN, .ref tN, .ref fN, .int sea, .int inall])), (hN, .inr (3, [.ref hA])), (hA, .inl (ai, 42, .inl u.2.2.2.1)), (cN, .inr (3, [.ref cA])), (cA, .inl (ai, 42, .inl u.2.2.2.2.1))]) := by
  refine ofG_I (cc := cX7_runUp) (nL := 4) (lv0 := [(0, .ref wv), (1, .int (nI col))]) (by decide) rfl (Nat.le_of_ble_eq_true rfl) rfl ?_
  intro Γ X E
  refine g_iconst (v := nI 0) X dX7_runUp_0 (by decide) ?_
  refine g_istore_n (lv' := [(2, .int (nI 0)), (0, .ref wv), (1, .int (nI col))]) X dX7_runUp_1 rfl (by decide) rfl ?_
  have L2 : ∀ (fl : Nat) (i : Nat) (m : Nat) (ee : Nat) (ld : Nat) (Ha : Nat → Int32) (Ca : Nat → Int32) (hh : Nat → Nat), (m + i = 7) → (wUp nb pl col 7 0 e h Cf 0 = wUp nb pl col m i ee hh Ca ld) → (HOK Ha hh) → (∀ c, c < 42 → hh c < 2 ^ 31) → (ee < 2 ^ 31) → (8 ≤ i + fl) → G Γ 4 0 0 [(wv, .inr (7, [.ref g, .ref pP, .ref sa, .int (dI ee), .int (nI ld), .int (nI i)])), (g, .inr (2, [.ref L, .int wc])), (L, .inr (3, [.ref la])), (la, .inl (ai, 168, .inl Lf)), (pP, .inr (3, [.ref pa])), (pa, .inl (ai, 42, .inl Pf)), (sa, .inr (4, [.ref g, .ref sl, .ref hN, .ref cN, .ref tN, .ref fN, .int sea, .int inall])), (hN, .inr (3, [.ref hA])), (hA, .inl (ai, 42, .inl Ha)), (cN, .inr (3, [.ref cA])), (cA, .inl (ai, 42, .inl Ca))] [(0, .ref wv), (1, .int (nI col)), (2, .int (nI i))] 2 [] := by
    intro fl
    induction fl with
    | zero => intro i m ee ld Ha Ca hh him hw hHa hbb hee hm; exact absurd hm (by omega)
    | succ fl ih2 =>
      intro i m ee ld Ha Ca hh him hw hHa hbb hee hm
      refine g_iload_n X dX7_runUp_2 rfl 2 rfl ?_
      refine g_bipush (v := nI 7) X dX7_runUp_3 (by decide) ?_
      refine g_icmp_geN (tgt := 59) X dX7_runUp_5 (by decide) (by omega) (by omega) (fun b5 => ?_) (fun b5 => ?_)
      · refine g_iconst (v := nI 1) X dX7_runUp_59 (by decide) ?_
        exact g_zret X E dX7_runUp_60 (⟨dI ee, ld, i, Ha, Ca, hh, true⟩) rfl (by decide) (by decide) (rfl) (⟨rfl, by rw [hw]; obtain rfl : m = 0 := (by omega); rfl, hHa, hbb⟩)
      · obtain ⟨m9, rfl⟩ : ∃ m9, m = m9 + 1 := ⟨m - 1, by omega⟩
        refine g_iload_n X dX7_runUp_8 rfl 1 rfl ?_
        refine g_iload_n X dX7_runUp_9 rfl 2 rfl ?_
        refine g_callNi (As := [.int (nI col), .int (nI i)]) (rest := []) (wr := [(wv, .inr (7, [.ref g, .ref pP, .ref sa, .int (dI ee), .int (nI ld), .int (nI i)])), (g, .inr (2, [.ref L, .int wc])), (L, .inr (3, [.ref la])), (la, .inl (ai, 168, .inl Lf)), (pP, .inr (3, [.ref pa])), (pa, .inl (ai, 42, .inl Pf)), (sa, .inr (4, [.ref g, .ref sl, .ref hN, .ref cN, .ref tN, .ref fN, .int sea, .int inall])), (hN, .inr (3, [.ref hA])), (hA, .inl (ai, 42, .inl Ha)), (cN, .inr (3, [.ref cA])), (cA, .inl (ai, 42, .inl Ca))]) X dX7_runUp_10 (c_X8_numberOf l D ai az al col i ) gX7_runUp_X8_numberOf_n37 rfl 27 rfl (by decide +kernel) (by decide +kernel) ok_X8_numberOf rfl rfl (by decide) ⟨by decide, by decide⟩ (Nat.le_of_ble_eq_true rfl) [] [0, 1, 2, 3, 4, 5, 6, 7, 8, 9, 10] ⟨rfl, by decide, rfl, by decide, by decide⟩ (fun r1 u hp => ?_)
        obtain rfl := hp
        refine g_sub (k := 0) (n := 0) (ws' := [(wv, .inr (7, [.ref g, .ref pP, .ref sa, .int (dI ee), .int (nI ld), .int (nI i)])), (g, .inr (2, [.ref L, .int wc])), (L, .inr (3, [.ref la])), (la, .inl (ai, 168, .inl Lf)), (pP, .inr (3, [.ref pa])), (pa, .inl (ai, 42, .inl Pf)), (sa, .inr (4, [.ref g, .ref sl, .ref hN, .ref cN, .ref tN, .ref fN, .int sea, .int inall])), (hN, .inr (3, [.ref hA])), (hA, .inl (ai, 42, .inl Ha)), (cN, .inr (3, [.ref cA])), (cA, .inl (ai, 42, .inl Ca))]) [0, 1, 2, 3, 4, 5, 6, 7, 8, 9, 10] (by decide) rfl ?_
        refine g_istore_n (lv' := [(3, .int (nI (i * 6 + col))), (0, .ref wv), (1, .int (nI col)), (2, .int (nI i))]) X dX7_runUp_13 rfl (by decide) rfl ?_
        refine g_aload_n X dX7_runUp_14 rfl 1 rfl ?_
        refine g_getf (T := TX7) (v := .ref g) X dX7_runUp_15 0 rfl rfl in_X7_runUp_X7 0 (by decide) (by decide +kernel) rfl rfl ?_
        refine g_iload_n X dX7_runUp_18 rfl 0 rfl ?_
        refine g_iconst (v := nI 0) X dX7_runUp_19 (by decide) ?_
        refine g_callVi (C := RX2) (As := [.int (nI (i * 6 + col)), .int (nI 0)]) (rest := []) (wr := [(wv, .inr (7, [.ref g, .ref pP, .ref sa, .int (dI ee), .int (nI ld), .int (nI i)])), (pP, .inr (3, [.ref pa])), (pa, .inl (ai, 42, .inl Pf)), (sa, .inr (4, [.ref g, .ref sl, .ref hN, .ref cN, .ref tN, .ref fN, .int sea, .int inall])), (hN, .inr (3, [.ref hA])), (hA, .inl (ai, 42, .inl Ha)), (cN, .inr (3, [.ref cA])), (cA, .inl (ai, 42, .inl Ca))]) X dX7_runUp_20 (c_X2_isShut l D ai az al g L la Lf wc nb (i * 6 + col) 0 (by omega) (by decide) (hL)) gX7_runUp_X2_isShut rfl rfl ok_X2_isShut rfl rfl (by decide) ⟨by decide, by decide⟩ (Nat.le_of_ble_eq_true rfl) [1, 2, 3] [0, 4, 5, 6, 7, 8, 9, 10] ⟨rfl, by decide, rfl, by decide, by decide⟩ 0 rfl rfl rfl (fun r2 u hp => ?_)
        obtain rfl := hp
        refine g_sub (k := 0) (n := 0) (ws' := [(wv, .inr (7, [.ref g, .ref pP, .ref sa, .int (dI ee), .int (nI ld), .int (nI i)])), (g, .inr (2, [.ref L, .int wc])), (L, .inr (3, [.ref la])), (la, .inl (ai, 168, .inl Lf)), (pP, .inr (3, [.ref pa])), (pa, .inl (ai, 42, .inl Pf)), (sa, .inr (4, [.ref g, .ref sl, .ref hN, .ref cN, .ref tN, .ref fN, .int sea, .int inall])), (hN, .inr (3, [.ref hA])), (hA, .inl (ai, 42, .inl Ha)), (cN, .inr (3, [.ref cA])), (cA, .inl (ai, 42, .inl Ca))]) [0, 8, 9, 10, 1, 2, 3, 4, 5, 6, 7] (by decide) rfl ?_
        refine g_if_eqN (tgt := 28) X dX7_runUp_23 (by decide) (bn_lt _) (fun b23 => ?_) (fun b23 => ?_)
        · have hop : ¬ nb (i * 6 + col) 0 = 43 := of_decide_eq_false (bn_0.mp b23)
          have hx31 := hbb (i * 6 + col) (by omega)
          refine g_aload_n X dX7_runUp_28 rfl 1 rfl ?_
          refine g_getf (T := TX7) (v := .int (dI ee)) X dX7_runUp_29 0 rfl rfl in_X7_runUp_X7 3 (by decide) (by decide +kernel) rfl rfl ?_
          refine g_aload_n X dX7_runUp_32 rfl 1 rfl ?_
          refine g_getf (T := TX7) (v := .ref sa) X dX7_runUp_33 0 rfl rfl in_X7_runUp_X7 2 (by decide) (by decide +kernel) rfl rfl ?_
          refine g_getfN (T := TX4) (v := .ref hN) X dX7_runUp_36 6 rfl rfl in_X7_runUp_X4 2 (by decide) 16 rfl rfl rfl ?_
          refine g_iload_n X dX7_runUp_39 rfl 0 rfl ?_
          refine g_callVi (C := RX3) (As := [.int (nI (i * 6 + col))]) (rest := [.int (dI ee)]) (wr := [(wv, .inr (7, [.ref g, .ref pP, .ref sa, .int (dI ee), .int (nI ld), .int (nI i)])), (g, .inr (2, [.ref L, .int wc])), (L, .inr (3, [.ref la])), (la, .inl (ai, 168, .inl Lf)), (pP, .inr (3, [.ref pa])), (pa, .inl (ai, 42, .inl Pf)), (sa, .inr (4, [.ref g, .ref sl, .ref hN, .ref cN, .ref tN, .ref fN, .int sea, .int inall])), (cN, .inr (3, [.ref cA])), (cA, .inl (ai, 42, .inl Ca))]) X dX7_runUp_40 (c_X3_atN l D ai az al hN hA 42 Ha (i * 6 + col) (by decide) (by omega)) gX7_runUp_X3_at rfl rfl ok_X3_at rfl rfl (by decide) ⟨by decide, by decide⟩ (Nat.le_of_ble_eq_true rfl) [7, 8] [0, 1, 2, 3, 4, 5, 6, 9, 10] ⟨rfl, by decide, rfl, by decide, by decide⟩ 0 rfl rfl rfl (fun r3 u hp => ?_)
          obtain rfl := hp
          refine g_sub (k := 0) (n := 0) (ws' := [(wv, .inr (7, [.ref g, .ref pP, .ref sa, .int (dI ee), .int (nI ld), .int (nI i)])), (g, .inr (2, [.ref L, .int wc])), (L, .inr (3, [.ref la])), (la, .inl (ai, 168, .inl Lf)), (pP, .inr (3, [.ref pa])), (pa, .inl (ai, 42, .inl Pf)), (sa, .inr (4, [.ref g, .ref sl, .ref hN, .ref cN, .ref tN, .ref fN, .int sea, .int inall])), (hN, .inr (3, [.ref hA])), (hA, .inl (ai, 42, .inl Ha)), (cN, .inr (3, [.ref cA])), (cA, .inl (ai, 42, .inl Ca))]) [0, 1, 2, 3, 4, 5, 6, 9, 10, 7, 8] (by decide) rfl ?_
          rw [hHa (i * 6 + col) (by omega)]
          refine g_icmp_gt (tgt := 48) X dX7_runUp_43 (by decide) (fun b43 => ?_) (fun b43 => ?_)
          · have hE := (dI_le hee hx31).mp b43
            refine g_aload_n X dX7_runUp_48 rfl 1 rfl ?_
            refine g_iload_n X dX7_runUp_49 rfl 0 rfl ?_
            refine g_callVv (C := RX7) (As := [.int (nI (i * 6 + col))]) (rest := []) (wr := [(g, .inr (2, [.ref L, .int wc])), (L, .inr (3, [.ref la])), (la, .inl (ai, 168, .inl Lf))]) X dX7_runUp_50 (c_X7_enter l D ai az al wv g pP sa ee ld i pa Pf pl sl hN cN tN fN sea inall hA Ha cA Ca hh (i * 6 + col) (by omega) (hP) (hHa) (hx31) (hE) (hee)) gX7_runUp_X7_enter rfl rfl ok_X7_enter rfl rfl (by decide) ⟨by decide, by decide⟩ (Nat.le_of_ble_eq_true rfl) [0, 4, 5, 6, 7, 8, 9, 10] [1, 2, 3] ⟨rfl, by decide, rfl, by decide, by decide⟩ 0 rfl rfl rfl (fun u hp => ?_)
            obtain ⟨e24, C25, ld26, H27⟩ := u
            try dsimp only at hp
            obtain ⟨rfl, rfl, rfl, hH5⟩ := hp
            refine g_sub (k := 0) (n := 0) (ws' := [(wv, .inr (7, [.ref g, .ref pP, .ref sa, .int (dI (ee - 1 - hh (i * 6 + col) / 4 - bn (pl (i * 6 + col)))), .int (nI (ld + tk pl hh (i * 6 + col))), .int (nI (i + 1))])), (g, .inr (2, [.ref L, .int wc])), (L, .inr (3, [.ref la])), (la, .inl (ai, 168, .inl Lf)), (pP, .inr (3, [.ref pa])), (pa, .inl (ai, 42, .inl Pf)), (sa, .inr (4, [.ref g, .ref sl, .ref hN, .ref cN, .ref tN, .ref fN, .int sea, .int inall])), (hN, .inr (3, [.ref hA])), (hA, .inl (ai, 42, .inl H27)), (cN, .inr (3, [.ref cA])), (cA, .inl (ai, 42, .inl (tkC pl hh Ca (i * 6 + col))))]) [3, 0, 1, 2, 4, 5, 6, 7, 8, 9, 10] (by decide) rfl ?_
            refine g_iinc (v := nI (i + 1)) (lv' := [(2, .int (nI (i + 1))), (3, .int (nI (i * 6 + col))), (0, .ref wv), (1, .int (nI col))]) X dX7_runUp_53 3 rfl (nI_inc _) (by decide) rfl ?_
            refine g_goto (tgt := 2) X dX7_runUp_56 (by decide) ?_
            refine g_lv (lv' := [(0, .ref wv), (1, .int (nI col)), (2, .int (nI (i + 1)))]) [2, 3, 0] rfl ?_
            exact ih2 (i + 1) m9 (ee - 1 - hh (i * 6 + col) / 4 - bn (pl (i * 6 + col))) (ld + tk pl hh (i * 6 + col)) H27 (tkC pl hh Ca (i * 6 + col)) (tkH pl hh (i * 6 + col)) (by omega) (by rw [hw]; show (if _ then _ else _) = _; rw [if_neg hop, if_neg (by omega)]) (hH5) (fun d hd => Nat.lt_of_le_of_lt (tkH_le d) (hbb d hd)) (by omega) (by omega)
          · refine g_iconst (v := nI 0) X dX7_runUp_46 (by decide) ?_
            exact g_zret X E dX7_runUp_47 (⟨dI ee, ld, i, Ha, Ca, hh, false⟩) rfl (by decide) (by decide) (rfl) (⟨rfl, by rw [hw]; show (if _ then _ else _) = _; rw [if_neg hop, if_pos (Nat.le_of_not_lt (fun q => b43 ((dI_le hee hx31).mpr q)))], hHa, hbb⟩)
        · refine g_iconst (v := nI 1) X dX7_runUp_26 (by decide) ?_
          exact g_zret X E dX7_runUp_27 (⟨dI ee, ld, i, Ha, Ca, hh, true⟩) rfl (by decide) (by decide) (rfl) (⟨rfl, by rw [hw]; show (if _ then _ else _) = _; rw [if_pos (of_decide_eq_true (bn_n.mp b23))], hHa, hbb⟩)
  refine g_lv (lv' := [(0, .ref wv), (1, .int (nI col)), (2, .int (nI 0))]) [1, 2, 0] rfl ?_
  exact L2 8 0 7 e 0 Hf Cf h (rfl) (rfl) (hH) (hb) (he) (by decide)

theorem ok_X7_come : okName yX7_come 2 := by decide +kernel
theorem in_X7_come_X7 : ∀ w ∈ u_ws RX7 TX7 6, w ∈ wsX7_come := by decide +kernel
theorem in_X7_come_X4 : ∀ w ∈ u_ws RX4 TX4 8, w ∈ wsX7_come := by decide +kernel
set_option maxRecDepth 100000 in
set_option maxHeartbeats 4000000 in
theorem c_X7_come (l : Launch) (D : va_G) (ai az al : ClassId) (wv : Nat) (g : Nat) (pP : Nat) (sa : Nat) (e0 : Int32) (l0 : Int32) (n0 : Int32) (L : Nat) (la : Nat) (Lf : Nat → Int32) (wc : Int32) (nb : Nat → Nat → Nat) (pa : Nat) (Pf : Nat → Int32) (pl : Nat → Bool) (sl : Nat) (hN : Nat) (cN : Nat) (tN : Nat) (fN : Nat) (sea : Int32) (inall : Int32) (hA : Nat) (Hf : Nat → Int32) (cA : Nat) (Cf : Nat → Int32) (h : Nat → Nat) (col : Nat) (e : Nat) (hcol : col < 6) (hL : LeadsOK Lf nb) (hP : POK Pf pl) (hH : HOK Hf h) (hb : ∀ c, c < 42 → h c < 2 ^ 30) (hs : sN h 42 < 2 ^ 30) (he : e < 2 ^ 30) : CI l D (tY ai az al) yX7_come wsX7_come { frames := 5, cells := 0, slots := 0, locals := 109 } [.ref wv, .int (nI col), .int (nI e)] [(wv, .inr (7, [.ref g, .ref pP, .ref sa, .int e0, .int l0, .int n0])), (g, .inr (2, [.ref L, .int wc])), (L, .inr (3, [.ref la])), (la, .inl (ai, 168, .inl Lf)), (pP, .inr (3, [.ref pa])), (pa, .inl (ai, 42, .inl Pf)), (sa, .inr (4, [.ref g, .ref sl, .ref hN, .ref cN, .ref tN, .ref fN, .int sea, .int inall])), (hN, .inr (3, [.ref hA])), (hA, .inl (ai, 42, .inl Hf)), (cN, .inr (3, [.ref cA])), (cA, .inl (ai, 42, .inl Cf))] (fun (r : Int32) (u : Int32 × Nat × Nat × (Nat → Int32) × (Nat → Int32) × (Nat → Nat)) => r = nI u.2.2.1 ∧ wR nb pl col e h Cf = (u.2.2.1, u.2.2.2.2.2, u.2.2.2.2.1, u.2.1) ∧ HOK u.2.2.2.1 u.2.2.2.2.2) (fun (u : Int32 × Nat × Nat × (Nat → Int32) × (Nat → Int32) × (Nat → Nat)) => [(wv, .inr (7, [.ref g, .ref pP, .ref sa, .int u.1, .int (nI u.2.1), .int (nI u.2.2.1)])), (g, .inr (2, [.ref L, .int wc])), (L, .inr (3, [.ref la])), (la, .inl (ai, 168, .inl Lf)), (pP, .inr (3, [.ref pa])), (pa, .inl (ai, 42, .inl Pf)), (sa, .inr (4, [.ref g, .ref sl, .ref hN, .ref cN, .ref tN, .ref fN, .int (sea + nI u.2.1), .int inall])), (hN, .inr (3, [.ref hA])), (hA, .inl (ai, 42, .inl u.2.2.2.1)), (cN, .inr (3, [.ref cA])), (cA, .inl (ai, 42, .inl u.2.2.2.2.1))]) := by
  refine ofG_I (cc := cX7_come) (nL := 6) (lv0 := [(0, .ref wv), (1, .int (nI col)), (2, .int (nI e))]) (by decide) rfl (Nat.le_of_ble_eq_true rfl) rfl ?_
  intro Γ X E
  refine g_aload_n X dX7_come_0 rfl 0 rfl ?_
  refine g_iload_n X dX7_come_1 rfl 2 rfl ?_
  rw [← dI_s e]
  refine g_putf (T := TX7) (v := .int (dI (e + 1))) (ty := tyX7 3) (ws' := [(wv, .inr (7, [.ref g, .ref pP, .ref sa, .int (dI (e + 1)), .int l0, .int n0])), (g, .inr (2, [.ref L, .int wc])), (L, .inr (3, [.ref la])), (la, .inl (ai, 168, .inl Lf)), (pP, .inr (3, [.ref pa])), (pa, .inl (ai, 42, .inl Pf)), (sa, .inr (4, [.ref g, .ref sl, .ref hN, .ref cN, .ref tN, .ref fN, .int sea, .int inall])), (hN, .inr (3, [.ref hA])), (hA, .inl (ai, 42, .inl Hf)), (cN, .inr (3, [.ref cA])), (cA, .inl (ai, 42, .inl Cf))]) X dX7_come_2 0 rfl rfl in_X7_come_X7 tyX7 tyX7_ok nmX7 3 (by decide) (by decide +kernel) rfl rfl (by decide +kernel) rfl rfl (Nat.le_of_ble_eq_true rfl) rfl ?_
  refine g_aload_n X dX7_come_5 rfl 0 rfl ?_
  refine g_iconst (v := nI 0) X dX7_come_6 (by decide) ?_
  refine g_putf (T := TX7) (v := .int (nI 0)) (ty := tyX7 4) (ws' := [(wv, .inr (7, [.ref g, .ref pP, .ref sa, .int (dI (e + 1)), .int (nI 0), .int n0])), (g, .inr (2, [.ref L, .int wc])), (L, .inr (3, [.ref la])), (la, .inl (ai, 168, .inl Lf)), (pP, .inr (3, [.ref pa])), (pa, .inl (ai, 42, .inl Pf)), (sa, .inr (4, [.ref g, .ref sl, .ref hN, .ref cN, .ref tN, .ref fN, .int sea, .int inall])), (hN, .inr (3, [.ref hA])), (hA, .inl (ai, 42, .inl Hf)), (cN, .inr (3, [.ref cA])), (cA, .inl (ai, 42, .inl Cf))]) X dX7_come_7 0 rfl rfl in_X7_come_X7 tyX7 tyX7_ok nmX7 4 (by decide) (by decide +kernel) rfl rfl (by decide +kernel) rfl rfl (Nat.le_of_ble_eq_true rfl) rfl ?_
  refine g_aload_n X dX7_come_10 rfl 0 rfl ?_
  refine g_iconst (v := nI 0) X dX7_come_11 (by decide) ?_
  refine g_putf (T := TX7) (v := .int (nI 0)) (ty := tyX7 5) (ws' := [(wv, .inr (7, [.ref g, .ref pP, .ref sa, .int (dI (e + 1)), .int (nI 0), .int (nI 0)])), (g, .inr (2, [.ref L, .int wc])), (L, .inr (3, [.ref la])), (la, .inl (ai, 168, .inl Lf)), (pP, .inr (3, [.ref pa])), (pa, .inl (ai, 42, .inl Pf)), (sa, .inr (4, [.ref g, .ref sl, .ref hN, .ref cN, .ref tN, .ref fN, .int sea, .int inall])), (hN, .inr (3, [.ref hA])), (hA, .inl (ai, 42, .inl Hf)), (cN, .inr (3, [.ref cA])), (cA, .inl (ai, 42, .inl Cf))]) X dX7_come_12 0 rfl rfl in_X7_come_X7 tyX7 tyX7_ok nmX7 5 (by decide) (by decide +kernel) rfl rfl (by decide +kernel) rfl rfl (Nat.le_of_ble_eq_true rfl) rfl ?_
  refine g_aload_n X dX7_come_15 rfl 0 rfl ?_
  refine g_iload_n X dX7_come_16 rfl 1 rfl ?_
  refine g_callVi (C := RX7) (As := [.int (nI col)]) (rest := []) (wr := []) X dX7_come_17 (c_X7_runUp l D ai az al wv g pP sa (e + 1) L la Lf wc nb pa Pf pl sl hN cN tN fN sea inall hA Hf cA Cf h col (hcol) (hL) (hP) (hH) (fun d hd => by have q := hb d hd; omega) (by omega)) gX7_come_X7_runUp rfl rfl ok_X7_runUp rfl rfl (by decide) ⟨by decide, by decide⟩ (Nat.le_of_ble_eq_true rfl) [0, 1, 2, 3, 4, 5, 6, 7, 8, 9, 10] [] ⟨rfl, by decide, rfl, by decide, by decide⟩ 0 rfl rfl rfl (fun r1 u hp => ?_)
  obtain ⟨e5, l5, n5, H5, C5, h5, th5⟩ := u
  try dsimp only at hp
  obtain ⟨rfl, hw5, hH5, hb5⟩ := hp
  refine g_sub (k := 0) (n := 0) (ws' := [(wv, .inr (7, [.ref g, .ref pP, .ref sa, .int e5, .int (nI l5), .int (nI n5)])), (g, .inr (2, [.ref L, .int wc])), (L, .inr (3, [.ref la])), (la, .inl (ai, 168, .inl Lf)), (pP, .inr (3, [.ref pa])), (pa, .inl (ai, 42, .inl Pf)), (sa, .inr (4, [.ref g, .ref sl, .ref hN, .ref cN, .ref tN, .ref fN, .int sea, .int inall])), (hN, .inr (3, [.ref hA])), (hA, .inl (ai, 42, .inl H5)), (cN, .inr (3, [.ref cA])), (cA, .inl (ai, 42, .inl C5))]) [0, 1, 2, 3, 4, 5, 6, 7, 8, 9, 10] (by decide) rfl ?_
  have hq5 := wUp_sum hcol 7 0 (e + 1) h Cf 0 _ rfl hw5
  refine g_istore_n (lv' := [(3, .int (nI (bn th5))), (0, .ref wv), (1, .int (nI col)), (2, .int (dI (e + 1)))]) X dX7_come_20 rfl (by decide) rfl ?_
  refine g_aload_n X dX7_come_21 rfl 1 rfl ?_
  refine g_getf (T := TX7) (v := .int (nI n5)) X dX7_come_22 0 rfl rfl in_X7_come_X7 5 (by decide) (by decide +kernel) rfl rfl ?_
  refine g_iconst (v := nI 1) X dX7_come_25 (by decide) ?_
  refine g_isub (v := dI n5) X dX7_come_26 (by rw [nI_subd (by omega)]; rfl) ?_
  refine g_istore (lv' := [(4, .int (dI n5)), (3, .int (nI (bn th5))), (0, .ref wv), (1, .int (nI col)), (2, .int (dI (e + 1)))]) X dX7_come_27 (by decide) rfl ?_
  have L29 : ∀ (fl : Nat) (i : Nat) (ld : Nat) (Ha : Nat → Int32) (Ca : Nat → Int32) (hh : Nat → Nat), (i ≤ 7) → (wDn pl col th5 n5 h5 C5 l5 = wDn pl col th5 i hh Ca ld) → (HOK Ha hh) → (sN hh 42 + ld < 2 ^ 30) → (i + 1 ≤ fl) → G Γ 6 0 0 [(wv, .inr (7, [.ref g, .ref pP, .ref sa, .int e5, .int (nI ld), .int (nI n5)])), (g, .inr (2, [.ref L, .int wc])), (L, .inr (3, [.ref la])), (la, .inl (ai, 168, .inl Lf)), (pP, .inr (3, [.ref pa])), (pa, .inl (ai, 42, .inl Pf)), (sa, .inr (4, [.ref g, .ref sl, .ref hN, .ref cN, .ref tN, .ref fN, .int sea, .int inall])), (hN, .inr (3, [.ref hA])), (hA, .inl (ai, 42, .inl Ha)), (cN, .inr (3, [.ref cA])), (cA, .inl (ai, 42, .inl Ca))] [(0, .ref wv), (1, .int (nI col)), (2, .int (dI (e + 1))), (3, .int (nI (bn th5))), (4, .int (dI i))] 29 [] := by
    intro fl
    induction fl with
    | zero => intro i ld Ha Ca hh hi hw hHa hsl hm; exact absurd hm (by omega)
    | succ fl ih29 =>
      intro i ld Ha Ca hh hi hw hHa hsl hm
      refine g_iload X dX7_come_29 4 rfl ?_
      refine g_if_lt (tgt := 67) X dX7_come_31 (by decide) (fun b31 => ?_) (fun b31 => ?_)
      · refine g_aload_n X dX7_come_67 rfl 0 rfl ?_
        refine g_getf (T := TX7) (v := .ref sa) X dX7_come_68 0 rfl rfl in_X7_come_X7 2 (by decide) (by decide +kernel) rfl rfl ?_
        refine g_dup X dX7_come_71 rfl ?_
        refine g_getfN (T := TX4) (v := .int sea) X dX7_come_72 6 rfl rfl in_X7_come_X4 6 (by decide) 15 rfl rfl rfl ?_
        refine g_aload_n X dX7_come_75 rfl 0 rfl ?_
        refine g_getf (T := TX7) (v := .int (nI ld)) X dX7_come_76 0 rfl rfl in_X7_come_X7 4 (by decide) (by decide +kernel) rfl rfl ?_
        refine g_iadd (v := (sea + nI ld)) X dX7_come_79 (rfl) ?_
        refine g_putfN (T := TX4) (v := .int (sea + nI ld)) (ty := tyX4 6) (ws' := [(wv, .inr (7, [.ref g, .ref pP, .ref sa, .int e5, .int (nI ld), .int (nI n5)])), (g, .inr (2, [.ref L, .int wc])), (L, .inr (3, [.ref la])), (la, .inl (ai, 168, .inl Lf)), (pP, .inr (3, [.ref pa])), (pa, .inl (ai, 42, .inl Pf)), (sa, .inr (4, [.ref g, .ref sl, .ref hN, .ref cN, .ref tN, .ref fN, .int (sea + nI ld), .int inall])), (hN, .inr (3, [.ref hA])), (hA, .inl (ai, 42, .inl Ha)), (cN, .inr (3, [.ref cA])), (cA, .inl (ai, 42, .inl Ca))]) X dX7_come_80 6 rfl rfl in_X7_come_X4 tyX4 tyX4_ok nmX4 6 (by decide) 15 rfl rfl rfl (by decide +kernel) rfl rfl (Nat.le_of_ble_eq_true rfl) rfl ?_
        refine g_aload_n X dX7_come_83 rfl 0 rfl ?_
        refine g_getf (T := TX7) (v := .int (nI n5)) X dX7_come_84 0 rfl rfl in_X7_come_X7 5 (by decide) (by decide +kernel) rfl rfl ?_
        obtain rfl : i = 0 := (dI_neg (by omega)).mp b31
        exact g_iret X E dX7_come_87 (⟨e5, ld, n5, Ha, Ca, hh⟩) rfl (by decide) (by decide) (⟨rfl, by unfold wR; rw [hw5]; dsimp only; rw [hw]; rfl, hHa⟩)
      · have hi0 : i ≠ 0 := fun z => b31 ((dI_neg (by omega)).mpr z)
        obtain ⟨j, rfl⟩ : ∃ j, i = j + 1 := ⟨i - 1, by omega⟩
        have hj : j < 7 := by omega
        have hx31 : hh (j * 6 + col) < 2 ^ 31 := by have q := sN_one (f := hh) (n := 42) (j := j * 6 + col) (by omega); omega
        refine g_lv (lv' := [(0, .ref wv), (1, .int (nI col)), (2, .int (dI (e + 1))), (3, .int (nI (bn th5))), (4, .int (nI j))]) [0, 1, 2, 3, 4] (by rw [dI_s]; rfl) ?_
        refine g_iload_n X dX7_come_34 rfl 1 rfl ?_
        refine g_iload X dX7_come_35 4 rfl ?_
        refine g_callNi (As := [.int (nI col), .int (nI j)]) (rest := []) (wr := [(wv, .inr (7, [.ref g, .ref pP, .ref sa, .int e5, .int (nI ld), .int (nI n5)])), (g, .inr (2, [.ref L, .int wc])), (L, .inr (3, [.ref la])), (la, .inl (ai, 168, .inl Lf)), (pP, .inr (3, [.ref pa])), (pa, .inl (ai, 42, .inl Pf)), (sa, .inr (4, [.ref g, .ref sl, .ref hN, .ref cN, .ref tN, .ref fN, .int sea, .int inall])), (hN, .inr (3, [.ref hA])), (hA, .inl (ai, 42, .inl Ha)), (cN, .inr (3, [.ref cA])), (cA, .inl (ai, 42, .inl Ca))]) X dX7_come_37 (c_X8_numberOf l D ai az al col j ) gX7_come_X8_numberOf_n37 rfl 27 rfl (by decide +kernel) (by decide +kernel) ok_X8_numberOf rfl rfl (by decide) ⟨by decide, by decide⟩ (Nat.le_of_ble_eq_true rfl) [] [0, 1, 2, 3, 4, 5, 6, 7, 8, 9, 10] ⟨rfl, by decide, rfl, by decide, by decide⟩ (fun r2 u hp => ?_)
        obtain rfl := hp
        refine g_sub (k := 0) (n := 0) (ws' := [(wv, .inr (7, [.ref g, .ref pP, .ref sa, .int e5, .int (nI ld), .int (nI n5)])), (g, .inr (2, [.ref L, .int wc])), (L, .inr (3, [.ref la])), (la, .inl (ai, 168, .inl Lf)), (pP, .inr (3, [.ref pa])), (pa, .inl (ai, 42, .inl Pf)), (sa, .inr (4, [.ref g, .ref sl, .ref hN, .ref cN, .ref tN, .ref fN, .int sea, .int inall])), (hN, .inr (3, [.ref hA])), (hA, .inl (ai, 42, .inl Ha)), (cN, .inr (3, [.ref cA])), (cA, .inl (ai, 42, .inl Ca))]) [0, 1, 2, 3, 4, 5, 6, 7, 8, 9, 10] (by decide) rfl ?_
        refine g_istore (lv' := [(5, .int (nI (j * 6 + col))), (0, .ref wv), (1, .int (nI col)), (2, .int (dI (e + 1))), (3, .int (nI (bn th5))), (4, .int (nI j))]) X dX7_come_40 (by decide) rfl ?_
        refine g_iload_n X dX7_come_42 rfl 4 rfl ?_
        refine g_if_eqN (tgt := 55) X dX7_come_43 (by decide) (bn_lt _) (fun b43 => ?_) (fun b43 => ?_)
        · refine g_aload_n X dX7_come_55 rfl 1 rfl ?_
          refine g_iload X dX7_come_56 0 rfl ?_
          refine g_callVv (C := RX7) (As := [.int (nI (j * 6 + col))]) (rest := []) (wr := [(g, .inr (2, [.ref L, .int wc])), (L, .inr (3, [.ref la])), (la, .inl (ai, 168, .inl Lf)), (pP, .inr (3, [.ref pa])), (pa, .inl (ai, 42, .inl Pf))]) X dX7_come_58 (c_X7_dropInto l D ai az al wv g pP sa e5 ld (nI n5) sl hN cN tN fN sea inall hA Ha cA Ca hh (j * 6 + col) (by omega) (hHa) (by omega)) gX7_come_X7_dropInto rfl rfl ok_X7_dropInto rfl rfl (by decide) ⟨by decide, by decide⟩ (Nat.le_of_ble_eq_true rfl) [0, 6, 7, 8, 9, 10] [1, 2, 3, 4, 5] ⟨rfl, by decide, rfl, by decide, by decide⟩ 0 rfl rfl rfl (fun u hp => ?_)
          obtain ⟨C23, ld24, H25⟩ := u
          try dsimp only at hp
          obtain ⟨rfl, rfl, hH6⟩ := hp
          refine g_sub (k := 0) (n := 0) (ws' := [(wv, .inr (7, [.ref g, .ref pP, .ref sa, .int e5, .int (nI (ld - 1)), .int (nI n5)])), (g, .inr (2, [.ref L, .int wc])), (L, .inr (3, [.ref la])), (la, .inl (ai, 168, .inl Lf)), (pP, .inr (3, [.ref pa])), (pa, .inl (ai, 42, .inl Pf)), (sa, .inr (4, [.ref g, .ref sl, .ref hN, .ref cN, .ref tN, .ref fN, .int sea, .int inall])), (hN, .inr (3, [.ref hA])), (hA, .inl (ai, 42, .inl H25)), (cN, .inr (3, [.ref cA])), (cA, .inl (ai, 42, .inl (drC ld Ca (j * 6 + col))))]) [5, 0, 1, 2, 3, 4, 6, 7, 8, 9, 10] (by decide) rfl ?_
          refine g_iinc (v := dI j) (lv' := [(4, .int (dI j)), (5, .int (nI (j * 6 + col))), (0, .ref wv), (1, .int (nI col)), (2, .int (dI (e + 1))), (3, .int (nI (bn th5)))]) X dX7_come_61 5 rfl (dI_dec _) (by decide) rfl ?_
          refine g_goto (tgt := 29) X dX7_come_64 (by decide) ?_
          refine g_lv (lv' := [(0, .ref wv), (1, .int (nI col)), (2, .int (dI (e + 1))), (3, .int (nI (bn th5))), (4, .int (dI j))]) [2, 3, 4, 5, 0] rfl ?_
          exact ih29 j (ld - 1) H25 (drC ld Ca (j * 6 + col)) (drH ld hh (j * 6 + col)) (by omega) (by rw [hw]; show (if _ then _ else _) = _; rw [if_neg (by rw [bn_0.mp b43]; decide)]) (hH6) (by unfold drH; by_cases z : 0 < ld; (rw [if_pos z]; have q := sN_add (f := hh) (c := j * 6 + col) (k := 1) (n := 42) (by omega); omega); (rw [if_neg z]; omega)) (by omega)
        · refine g_aload_n X dX7_come_46 rfl 1 rfl ?_
          refine g_iload X dX7_come_47 0 rfl ?_
          refine g_callVv (C := RX7) (As := [.int (nI (j * 6 + col))]) (rest := []) (wr := [(g, .inr (2, [.ref L, .int wc])), (L, .inr (3, [.ref la])), (la, .inl (ai, 168, .inl Lf))]) X dX7_come_49 (c_X7_takeFrom l D ai az al wv g pP sa e5 ld (nI n5) pa Pf pl sl hN cN tN fN sea inall hA Ha cA Ca hh (j * 6 + col) (by omega) (hP) (hHa) (hx31)) gX7_come_X7_takeFrom rfl rfl ok_X7_takeFrom rfl rfl (by decide) ⟨by decide, by decide⟩ (Nat.le_of_ble_eq_true rfl) [0, 4, 5, 6, 7, 8, 9, 10] [1, 2, 3] ⟨rfl, by decide, rfl, by decide, by decide⟩ 0 rfl rfl rfl (fun u hp => ?_)
          obtain ⟨C26, ld27, H28⟩ := u
          try dsimp only at hp
          obtain ⟨rfl, rfl, hH6⟩ := hp
          refine g_sub (k := 0) (n := 0) (ws' := [(wv, .inr (7, [.ref g, .ref pP, .ref sa, .int e5, .int (nI (ld + tk pl hh (j * 6 + col))), .int (nI n5)])), (g, .inr (2, [.ref L, .int wc])), (L, .inr (3, [.ref la])), (la, .inl (ai, 168, .inl Lf)), (pP, .inr (3, [.ref pa])), (pa, .inl (ai, 42, .inl Pf)), (sa, .inr (4, [.ref g, .ref sl, .ref hN, .ref cN, .ref tN, .ref fN, .int sea, .int inall])), (hN, .inr (3, [.ref hA])), (hA, .inl (ai, 42, .inl H28)), (cN, .inr (3, [.ref cA])), (cA, .inl (ai, 42, .inl (tkC pl hh Ca (j * 6 + col))))]) [3, 0, 1, 2, 4, 5, 6, 7, 8, 9, 10] (by decide) rfl ?_
          refine g_goto (tgt := 61) X dX7_come_52 (by decide) ?_
          refine g_iinc (v := dI j) (lv' := [(4, .int (dI j)), (5, .int (nI (j * 6 + col))), (0, .ref wv), (1, .int (nI col)), (2, .int (dI (e + 1))), (3, .int (nI (bn th5)))]) X dX7_come_61 5 rfl (dI_dec _) (by decide) rfl ?_
          refine g_goto (tgt := 29) X dX7_come_64 (by decide) ?_
          refine g_lv (lv' := [(0, .ref wv), (1, .int (nI col)), (2, .int (dI (e + 1))), (3, .int (nI (bn th5))), (4, .int (dI j))]) [2, 3, 4, 5, 0] rfl ?_
          exact ih29 j (ld + tk pl hh (j * 6 + col)) H28 (tkC pl hh Ca (j * 6 + col)) (tkH pl hh (j * 6 + col)) (by omega) (by rw [hw]; show (if _ then _ else _) = _; rw [if_pos (bn_n.mp b43)]) (hH6) (by have q := tk_sum (pl := pl) (h := hh) (c := j * 6 + col) (by omega); omega) (by omega)
  refine g_lv (lv' := [(0, .ref wv), (1, .int (nI col)), (2, .int (dI (e + 1))), (3, .int (nI (bn th5))), (4, .int (dI n5))]) [2, 3, 4, 1, 0] rfl ?_
  exact L29 8 n5 l5 H5 C5 h5 (hq5.2) (rfl) (hH5) (by have q := hq5.1; dsimp only at q; omega) (by have q := hq5.2; dsimp only at q; omega)

theorem ok_X7_init : okName yX7_init 3 := by decide +kernel
theorem in_X7_init_X7 : ∀ w ∈ u_ws RX7 TX7 6, w ∈ wsX7_init := by decide +kernel
set_option maxRecDepth 100000 in
set_option maxHeartbeats 4000000 in
theorem c_X7_init (l : Launch) (D : va_G) (ai az al : ClassId) (wv : Nat) (g : Nat) (pP : Nat) (sa : Nat) : CV l D (tY ai az al) yX7_init wsX7_init { frames := 1, cells := 0, slots := 0, locals := 20 } [.ref wv, .ref g, .ref pP, .ref sa] [(wv, .inr (7, [.null, .null, .null, .int (nI 0), .int (nI 0), .int (nI 0)]))] (fun (u : Unit) => True) (fun (u : Unit) => [(wv, .inr (7, [.ref g, .ref pP, .ref sa, .int (nI 0), .int (nI 0), .int (nI 0)]))]) := by
  refine ofG_V (cc := cX7_init) (nL := 4) (lv0 := [(0, .ref wv), (1, .ref g), (2, .ref pP), (3, .ref sa)]) (by decide) rfl (Nat.le_of_ble_eq_true rfl) rfl ?_
  intro Γ X E hinit
  have hinit := hinit rfl
  refine g_aload_n X dX7_init_0 rfl 0 rfl ?_
  refine g_objInit X dX7_init_1 (by decide +kernel) (by decide +kernel) (by decide +kernel) (by decide) (by decide) ?_
  refine g_aload_n X dX7_init_4 rfl 0 rfl ?_
  refine g_aload_n X dX7_init_5 rfl 1 rfl ?_
  refine g_putfF (T := TX7) (v := .ref g) (ty := tyX7 0) (ws' := [(wv, .inr (7, [.ref g, .null, .null, .int (nI 0), .int (nI 0), .int (nI 0)]))]) X dX7_init_6 0 rfl rfl in_X7_init_X7 tyX7 tyX7_ok nmX7 0 (by decide) (by decide +kernel) rfl rfl hinit rfl (by decide +kernel) rfl rfl (Nat.le_of_ble_eq_true rfl) rfl ?_
  refine g_aload_n X dX7_init_9 rfl 0 rfl ?_
  refine g_aload_n X dX7_init_10 rfl 2 rfl ?_
  refine g_putfF (T := TX7) (v := .ref pP) (ty := tyX7 1) (ws' := [(wv, .inr (7, [.ref g, .ref pP, .null, .int (nI 0), .int (nI 0), .int (nI 0)]))]) X dX7_init_11 0 rfl rfl in_X7_init_X7 tyX7 tyX7_ok nmX7 1 (by decide) (by decide +kernel) rfl rfl hinit rfl (by decide +kernel) rfl rfl (Nat.le_of_ble_eq_true rfl) rfl ?_
  refine g_aload_n X dX7_init_14 rfl 0 rfl ?_
  refine g_aload_n X dX7_init_15 rfl 3 rfl ?_
  refine g_putfF (T := TX7) (v := .ref sa) (ty := tyX7 2) (ws' := [(wv, .inr (7, [.ref g, .ref pP, .ref sa, .int (nI 0), .int (nI 0), .int (nI 0)]))]) X dX7_init_16 0 rfl rfl in_X7_init_X7 tyX7 tyX7_ok nmX7 2 (by decide) (by decide +kernel) rfl rfl hinit rfl (by decide +kernel) rfl rfl (Nat.le_of_ble_eq_true rfl) rfl ?_
  exact g_vret X E dX7_init_19 () rfl (by decide) (by decide) (trivial)
