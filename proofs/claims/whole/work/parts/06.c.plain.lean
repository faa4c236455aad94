theorem g_abs {Γ : Cxt} {l : Launch} {D : va_G} {tys : List (ClassId × FieldType)} {nL : Nat} {cc : ByteArray} {own : String} {Ts : List Cond} {R : Room} (X : CX Γ l D tys nL cc own Ts R) {k n : Nat} {ws : va_W} {lv : List (Nat × Value)} {pc : Nat} {st : List Value} {ix : Nat} {x v : Int32} (hd : decode cc pc = .ok (.invokestatic ix, 3)) (h1 : Cond.methodLink own ix Lib.Math.abs.name ∈ Ts) (h2 : Cond.static Lib.Math.abs.name ∈ Ts) (h3 : Cond.initialized "java/lang/Math" ∈ Ts) (h4 : Cond.code Lib.Math.abs.name Lib.Math.abs.code 1 (some .int) ∈ Ts) (hf : 1 ≤ R.frames) (hlo : (st.map fun v => v.category).sum + 13 ≤ R.locals) (hc : k ≤ R.cells) (hs : n ≤ R.slots) (hv : (if 0 ≤ x then x else 0 - x) = v)
    (kk : G Γ nL k n ws lv (pc + 3) (.int v :: st)) : G Γ nL k n ws lv pc (.int x :: st) := by
  obtain ⟨p, l', e, R', s, m, args, below, meth, c, D', tys', A, Q⟩ := Γ
  obtain ⟨rfl, rfl, rfl, rfl, hx, hb, hml, hown, hts, hK, hA, hlk, hE⟩ := X
  subst hv
  intro H locs ls hP hD hS hh
  exact va_mabs hx hb (hml.trans hh.1.symm) hown (hts _ h1) (hts _ h2) (hts _ h3) (hts _ h4) hf hlo hc hs hd (kk H locs ls hP hD hS hh)
theorem g_ldcf {Γ : Cxt} {l : Launch} {D : va_G} {tys : List (ClassId × FieldType)} {nL : Nat} {cc : ByteArray} {own : String} {Ts : List Cond} {R : Room} (X : CX Γ l D tys nL cc own Ts R) {k n : Nat} {ws : va_W} {lv : List (Nat × Value)} {pc : Nat} {st : List Value} {ix : Nat} {v : UInt32} (hd : decode cc pc = .ok (.ldc ix, 2)) (hc : Cond.constantFloat own ix v ∈ Ts) (kk : G Γ nL k n ws lv (pc + 2) (.float v :: st)) : G Γ nL k n ws lv pc st := by
  obtain ⟨p, l', e, R', s, m, args, below, meth, c, D', tys', A, Q⟩ := Γ
  obtain ⟨rfl, rfl, rfl, rfl, hx, hb, hml, hown, hts, hK, hA, hlk, hE⟩ := X
  intro H locs ls hP hD hS hh
  exact lv_ldcf hx hb hown (hts _ hc) hd (kk H locs ls hP hD hS hh)
/-- the row of the highest cell among the rows 0 .. r -/
def hiR (h : Nat → Nat) (x : Nat) : Nat → Nat
  | 0 => 0
  | r + 1 => if h ((r + 1) * 6 + x) ≤ h (hiR h x r * 6 + x) then hiR h x r else r + 1
theorem hiR_le (h : Nat → Nat) (x : Nat) : ∀ r, hiR h x r ≤ r
  | 0 => Nat.le_refl 0
  | r + 1 => by
    have := hiR_le h x r
    show (if h ((r + 1) * 6 + x) ≤ h (hiR h x r * 6 + x) then hiR h x r else r + 1) ≤ r + 1
    by_cases q : h ((r + 1) * 6 + x) ≤ h (hiR h x r * 6 + x)
    · rw [if_pos q]; omega
    · rw [if_neg q]; exact Nat.le_refl _
def dfN (a b : Nat) : Nat := (a - b) + (b - a)
def rgR (h : Nat → Nat) (x : Nat) : Nat → Nat
  | 0 => 0
  | r + 1 => rgR h x r + dfN (h ((r + 1) * 6 + x)) (h (r * 6 + x))
theorem sub_nI {a b : Nat} (ha : a < 2 ^ 30) (hb : b < 2 ^ 30) : (0 ≤ nI a - nI b ↔ b ≤ a) := by
  rw [Int32.le_iff_toInt_le, pk_sub_toInt ha hb]
  have : (0 : Int32).toInt = 0 := rfl
  omega
theorem abs_nI {a b : Nat} (ha : a < 2 ^ 30) (hb : b < 2 ^ 30) : (if 0 ≤ nI a - nI b then nI a - nI b else 0 - (nI a - nI b)) = nI (dfN a b) := by
  unfold dfN
  by_cases q : b ≤ a
  · rw [if_pos ((sub_nI ha hb).mpr q), pk_sub q]
    congr 1; omega
  · rw [if_neg (fun z => q ((sub_nI ha hb).mp z)), show nI a = nI b - nI (b - a) by rw [pk_sub (by omega)]; congr 1; omega]
    rw [Int32.sub_eq_add_neg (nI b) (nI (b - a)), Int32.add_comm (nI b), Int32.add_sub_cancel, Int32.zero_sub, Int32.neg_neg]
    congr 1; omega
/-- the cells that give when the wind blows -/
def gvB (pl : Nat → Bool) (nb : Nat → Nat → Nat) (h : Nat → Nat) (le : Nat) : Nat → Bool := fun c => !pl c && (decide (le ≤ h c) && decide (nb c 1 ≠ 43))
theorem gvB_iff {pl : Nat → Bool} {nb : Nat → Nat → Nat} {h : Nat → Nat} {le c : Nat} : gvB pl nb h le c = true ↔ pl c = false ∧ le ≤ h c ∧ nb c 1 ≠ 43 := by
  unfold gvB
  simp
/-- the heights when the cells from i on have given -/
def wH (gv : Nat → Bool) (h : Nat → Nat) (i : Nat) : Nat → Nat := fun c => h c - (if i ≤ c then bn (gv c) else 0) + (if 6 ≤ c ∧ i ≤ c - 6 then bn (gv (c - 6)) else 0)
def wD (gv : Nat → Bool) (i : Nat) : Nat → Int32 := fun c => (if 6 ≤ c ∧ i ≤ c - 6 then nI (bn (gv (c - 6))) else 0) - (if i ≤ c then nI (bn (gv c)) else 0)
theorem sN_le {f g : Nat → Nat} : ∀ {n : Nat}, (∀ i, i < n → f i ≤ g i + 1) → sN f n ≤ sN g n + n
  | 0, _ => Nat.le_refl 0
  | n + 1, h => by
    have h1 := sN_le (n := n) (fun i hi => h i (by omega))
    have h2 := h n (by omega)
    show sN f n + f n ≤ sN g n + g n + (n + 1)
    omega
theorem bn_le1 (b : Bool) : bn b ≤ 1 := by cases b <;> decide
theorem wH_sum (gv : Nat → Bool) (h : Nat → Nat) : sN (wH gv h 0) 42 ≤ sN h 42 + 42 := by
  refine sN_le fun c _ => ?_
  unfold wH
  have h1 := bn_le1 (gv c)
  have h2 := bn_le1 (gv (c - 6))
  split <;> split <;> omega
theorem HOK.congr {f : Nat → Int32} {h g : Nat → Nat} (hf : HOK f h) (e : ∀ c, c < 42 → h c = g c) : HOK f g := fun c hc => by rw [hf c hc, e c hc]
theorem gv_gives {pl : Nat → Bool} {nb : Nat → Nat → Nat} (hN : NB nb) {h : Nat → Nat} {le c : Nat} (hc : c < 42) (hg : gvB pl nb h le c = true) : nb c 1 = c + 6 ∧ c + 6 < 42 := by
  have q := (gvB_iff.mp hg).2.2
  rcases hN.cases hc (show 1 < 4 by omega) with z | z | z
  · exact absurd z q
  · omega
  · have e := z.2.2.2.2.1 rfl
    exact ⟨e, by omega⟩
/-- one more cell gives -/
theorem wH_step {gv : Nat → Bool} {h : Nat → Nat} {j : Nat} (hj : j + 6 < 42) (hg : gv j = true) (hh : 0 < h j) : ∀ c, c < 42 → (if c = j + 6 then setN (wH gv h (j + 1)) j (wH gv h (j + 1) j - 1) c + 1 else setN (wH gv h (j + 1)) j (wH gv h (j + 1) j - 1) c) = wH gv h j c := by
  intro c hc
  unfold setN wH
  have hb : bn (gv j) = 1 := by rw [hg]; rfl
  by_cases e1 : c = j + 6
  · subst e1
    rw [if_pos rfl, if_neg (by omega), if_pos (by omega), if_neg (by omega), if_pos (by omega), if_pos (by omega), show j + 6 - 6 = j by omega, hb]
  · rw [if_neg e1]
    by_cases e2 : c = j
    · subst e2
      rw [if_pos rfl, if_neg (by omega), if_neg (by omega), if_pos (Nat.le_refl _), if_neg (by omega), hb]
      omega
    · rw [if_neg e2]
      have a1 : (j + 1 ≤ c) = (j ≤ c) := by rw [eq_iff_iff]; omega
      have a2 : (6 ≤ c ∧ j + 1 ≤ c - 6) = (6 ≤ c ∧ j ≤ c - 6) := by rw [eq_iff_iff]; omega
      simp only [a1, a2]
theorem wH_same {gv : Nat → Bool} {h : Nat → Nat} {j : Nat} (hg : gv j = false) : ∀ c, wH gv h (j + 1) c = wH gv h j c := by
  intro c
  unfold wH
  have hb : bn (gv j) = 0 := by rw [hg]; rfl
  by_cases e2 : c = j
  · subst e2
    rw [if_neg (by omega), if_pos (Nat.le_refl _), hb, if_neg (by omega), if_neg (by omega)]
  · have a1 : (j + 1 ≤ c) = (j ≤ c) := by rw [eq_iff_iff]; omega
    by_cases e1 : c = j + 6
    · subst e1
      rw [if_pos (by omega), if_neg (by omega), if_pos (by omega), if_pos (by omega), show j + 6 - 6 = j by omega, hb]
    · have a2 : (6 ≤ c ∧ j + 1 ≤ c - 6) = (6 ≤ c ∧ j ≤ c - 6) := by rw [eq_iff_iff]; omega
      simp only [a1, a2]
theorem wD_step {gv : Nat → Bool} {C Ca : Nat → Int32} {j : Nat} (hj : j + 6 < 42) (hg : gv j = true) (hC : ∀ c, c < 42 → Ca c = C c + wD gv (j + 1) c) : ∀ c, c < 42 → upd (upd Ca j (Ca j + (-1))) (j + 6) (upd Ca j (Ca j + (-1)) (j + 6) + nI 1) c = C c + wD gv j c := by
  intro c hc
  have hb : bn (gv j) = 1 := by rw [hg]; rfl
  have hq := hC c hc
  unfold wD at hq ⊢
  by_cases e1 : c = j + 6
  · subst e1
    rw [upd_at, upd_ne (by omega), hq, if_neg (by omega), if_pos (by omega), if_pos (by omega), if_pos (by omega), show j + 6 - 6 = j by omega, hb]
    rw [Int32.add_assoc]
    congr 1
    rw [Int32.sub_eq_add_neg, Int32.zero_add, Int32.sub_eq_add_neg, Int32.add_comm]
  · rw [upd_ne e1]
    by_cases e2 : c = j
    · subst e2
      rw [upd_at, hq, if_neg (by omega), if_neg (by omega), if_neg (by omega), if_pos (Nat.le_refl _), hb, Int32.add_assoc]
      congr 1
    · rw [upd_ne e2, hq]
      have a1 : (j + 1 ≤ c) = (j ≤ c) := by rw [eq_iff_iff]; omega
      have a2 : (6 ≤ c ∧ j + 1 ≤ c - 6) = (6 ≤ c ∧ j ≤ c - 6) := by rw [eq_iff_iff]; omega
      simp only [a1, a2]
theorem wD_same {gv : Nat → Bool} {j : Nat} (hg : gv j = false) : ∀ c, wD gv (j + 1) c = wD gv j c := by
  intro c
  unfold wD
  have hb : bn (gv j) = 0 := by rw [hg]; rfl
  by_cases e2 : c = j
  · subst e2
    rw [if_neg (by omega), if_neg (by omega), if_pos (Nat.le_refl _), hb, if_neg (by omega)]
    rfl
  · have a1 : (j + 1 ≤ c) = (j ≤ c) := by rw [eq_iff_iff]; omega
    by_cases e1 : c = j + 6
    · subst e1
      rw [if_neg (by omega), if_pos (by omega), if_pos (by omega), if_pos (by omega), show j + 6 - 6 = j by omega, hb]
      rfl
    · have a2 : (6 ≤ c ∧ j + 1 ≤ c - 6) = (6 ≤ c ∧ j ≤ c - 6) := by rw [eq_iff_iff]; omega
      simp only [a1, a2]
theorem wH_at {gv : Nat → Bool} {h : Nat → Nat} {j : Nat} : wH gv h (j + 1) j = h j := by
  unfold wH
  rw [if_neg (by omega), if_neg (by omega)]; omega
theorem cB_s (W : Nat → Bool) (n : Nat) : cB W (n + 1) = cB W n + bn (W n) := rfl
theorem setS_setS {nb : Nat → Nat → Nat} (hW : NW nb) {c s : Nat} (hc : c < 42) (hs : s < 4) (hop : ¬ nb c s = 43) : ∀ i j, i < 42 → j < 4 → setS (setS nb c s true) c s false i j = nb i j := by
  intro i j hi hj
  unfold setS
  by_cases q : (i = c ∧ j = s) ∨ (bN c s < 42 ∧ i = bN c s ∧ j = opp s)
  · rw [if_pos q]
    show (if false = true then 43 else bN i j) = nb i j
    rw [if_neg (by decide)]
    rcases (hW i j hi hj).1 with z | z
    · exact z.symm
    · rcases q with ⟨rfl, rfl⟩ | ⟨q1, q2, q3⟩
      · exact absurd z hop
      · subst q2; subst q3
        exact absurd (((hW c s hc hs).2 q1).mpr z) hop
  · rw [if_neg q, if_neg q]
theorem LeadsOK.congr {Lf : Nat → Int32} {nb nb2 : Nat → Nat → Nat} (h : LeadsOK Lf nb) (e : ∀ i j, i < 42 → j < 4 → nb i j = nb2 i j) : LeadsOK Lf nb2 := fun c s hc hs => by
  obtain ⟨q1, q2⟩ := h c s hc hs
  rw [e c s hc hs] at q1 q2
  exact ⟨q1, q2⟩
theorem lowB_all {h : Nat → Nat} {lv : Nat} (hb : ∀ c, c < 42 → h c < lv) : ∀ c, c < 42 → lowB h lv c = true := fun c hc => decide_eq_true (hb c hc)
theorem f42 : ∀ k, k < 500 → (FP.fdiv (FP.i2f (nI k)) 1109917696) &&& 0x7fffffff ≤ 0x7f800000 := by decide +kernel
theorem d42 : ∀ k, k < 500 → (FP.f2d (FP.fdiv (FP.i2f (nI k)) 1109917696)) &&& 0x7fffffffffffffff ≤ 0x7ff0000000000000 := by decide +kernel
