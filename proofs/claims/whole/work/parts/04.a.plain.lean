/-! the grid's sides, and the queue, as plain things -/
def bN (c s : Nat) : Nat := if s = 0 then (if c < 6 then 42 else c - 6) else if s = 1 then (if c < 36 then c + 6 else 43) else if s = 2 then (if c % 6 = 0 then 43 else c - 1) else (if c % 6 = 5 then 43 else c + 1)
def cd (d : Nat) : Int32 := if d = 42 then -1 else if d = 43 then -2 else nI d
theorem cd_lt {d : Nat} (h : d < 42) : cd d = nI d := by
  unfold cd
  rw [if_neg (show ¬ d = 42 by omega), if_neg (show ¬ d = 43 by omega)]
theorem cd_42 : cd 42 = -1 := rfl
theorem cd_43 : cd 43 = -2 := rfl
theorem cd_m2 {d : Nat} (h : d ≤ 43) : cd d = -2 ↔ d = 43 := by
  constructor
  · intro e
    by_cases q : d < 42
    · rw [cd_lt q] at e
      exact absurd (show nI d < 0 by rw [e]; decide) (nI_pos (by omega))
    · by_cases q2 : d = 42
      · subst q2; exact absurd e (by decide)
      · omega
  · rintro rfl; rfl
theorem cd_m1 {d : Nat} (h : d ≤ 43) : cd d = -1 ↔ d = 42 := by
  constructor
  · intro e
    by_cases q : d < 42
    · rw [cd_lt q] at e
      exact absurd (show nI d < 0 by rw [e]; decide) (nI_pos (by omega))
    · by_cases q2 : d = 43
      · subst q2; exact absurd e (by decide)
      · omega
  · rintro rfl; rfl
/-- 1 for a cell -/
def isC (d : Nat) : Nat := if d < 42 then 1 else 0
theorem isC_0 {d : Nat} : isC d = 0 ↔ ¬ d < 42 := by unfold isC; split <;> simp_all
theorem isC_n {d : Nat} : isC d ≠ 0 ↔ d < 42 := by unfold isC; split <;> simp_all
theorem isC_lt {d : Nat} : isC d < 2 ^ 31 := by unfold isC; split <;> decide
theorem cd_isC {d : Nat} (h : d ≤ 43) : (if cd d < 0 ∨ nI 42 ≤ cd d then (0 : Int32) else 1) = nI (isC d) := by
  unfold isC
  by_cases q : d < 42
  · rw [if_pos q, cd_lt q, if_neg (nI_inNot q (by decide))]; rfl
  · rw [if_neg q]
    rcases (show d = 42 ∨ d = 43 by omega) with rfl | rfl
    · rw [if_pos (Or.inl (by decide))]; rfl
    · rw [if_pos (Or.inl (by decide))]; rfl
theorem atF_cd {f : Nat → Int32} {d : Nat} (h : d ≤ 43) : atF f 42 (cd d) = if d < 42 then f d else 0 := by
  by_cases q : d < 42
  · rw [if_pos q, cd_lt q, atF_in q (by decide)]
  · rw [if_neg q]
    unfold atF
    rcases (show d = 42 ∨ d = 43 by omega) with rfl | rfl
    · rw [if_pos (Or.inl (by decide))]
    · rw [if_pos (Or.inl (by decide))]
theorem addF_cd {f : Nat → Int32} {d : Nat} {v : Int32} (h : d ≤ 43) : addF f 42 (cd d) v = if d < 42 then upd f d (f d + v) else f := by
  by_cases q : d < 42
  · rw [if_pos q, cd_lt q, addF_in q (by decide)]
  · rw [if_neg q]
    unfold addF
    rcases (show d = 42 ∨ d = 43 by omega) with rfl | rfl
    · rw [if_pos (Or.inl (by decide))]
    · rw [if_pos (Or.inl (by decide))]
/-- the row of the sides as the class keeps it -/
def LeadsOK (Lf : Nat → Int32) (nb : Nat → Nat → Nat) : Prop := ∀ c s, c < 42 → s < 4 → Lf (c * 4 + s) = cd (nb c s) ∧ nb c s ≤ 43
theorem bN_le {c s : Nat} (hc : c < 42) : bN c s ≤ 43 := by
  unfold bN
  split
  · split <;> omega
  · split
    · split <;> omega
    · split
      · split <;> omega
      · split <;> omega
/-- the sides, each open as it is built or closed, from both cells at once -/
def NW (nb : Nat → Nat → Nat) : Prop := ∀ c s, c < 42 → s < 4 → (nb c s = bN c s ∨ nb c s = 43) ∧ (bN c s < 42 → (nb c s = 43 ↔ nb (bN c s) (opp s) = 43))
theorem bN0 (c : Nat) : bN c 0 = if c < 6 then 42 else c - 6 := rfl
theorem bN1 (c : Nat) : bN c 1 = if c < 36 then c + 6 else 43 := rfl
theorem bN2 (c : Nat) : bN c 2 = if c % 6 = 0 then 43 else c - 1 := rfl
theorem bN3 (c : Nat) : bN c 3 = if c % 6 = 5 then 43 else c + 1 := rfl
theorem NW.nb {nb : Nat → Nat → Nat} (h : NW nb) : NB nb := by
  refine ⟨?_, ?_, ?_, ?_, ?_, ?_⟩
  · intro c hc
    have e1 : bN c 1 = c + 6 := by rw [bN1, if_pos hc]
    have e2 : bN (c + 6) 0 = c := by rw [bN0, if_neg (show ¬ c + 6 < 6 by omega)]; omega
    have h1 := h c 1 (by omega) (by omega)
    have h2 := h (c + 6) 0 (by omega) (by omega)
    rw [e1] at h1
    rw [e2] at h2
    have h3 := h1.2 (by omega)
    have e3 : opp 1 = 0 := rfl
    rw [e3] at h3
    rcases h1.1 with q | q
    · rcases h2.1 with q2 | q2
      · exact Or.inl ⟨q, q2⟩
      · have := h3.mpr q2; omega
    · exact Or.inr ⟨q, h3.mp q⟩
  · intro c hc
    have h1 := (h c 0 (by omega) (by omega)).1
    rw [bN0, if_pos hc] at h1
    exact h1
  · intro c hc hc2
    have h1 := (h c 1 hc (by omega)).1
    rw [bN1, if_neg (show ¬ c < 36 by omega)] at h1
    omega
  · intro c hc
    have h1 := h c 3 (by omega) (by omega)
    have h2 := h (c + 1) 2 (by omega) (by omega)
    by_cases e : c % 6 = 5
    · rw [bN3, if_pos e] at h1
      rw [bN2, if_pos (show (c + 1) % 6 = 0 by omega)] at h2
      right; omega
    · rw [bN3, if_neg e] at h1
      rw [bN2, if_neg (show ¬ (c + 1) % 6 = 0 by omega)] at h2
      have h3 := h1.2 (by omega)
      have e3 : opp 3 = 2 := rfl
      rw [e3] at h3
      rcases h1.1 with q | q
      · rcases h2.1 with q2 | q2
        · left; exact ⟨e, q, by omega⟩
        · have := h3.mpr q2; omega
      · right; exact ⟨q, h3.mp q⟩
  · have h1 := (h 0 2 (by omega) (by omega)).1
    rw [bN2, if_pos (show 0 % 6 = 0 by omega)] at h1
    omega
  · have h1 := (h 41 3 (by omega) (by omega)).1
    rw [bN3, if_pos (show 41 % 6 = 5 by omega)] at h1
    omega
/-- one side's two faces set: closed (43), or open as it is built -/
def setS (nb : Nat → Nat → Nat) (c s : Nat) (shut : Bool) : Nat → Nat → Nat := fun i j => if (i = c ∧ j = s) ∨ (bN c s < 42 ∧ i = bN c s ∧ j = opp s) then (if shut then 43 else bN i j) else nb i j
theorem opp_lt {s : Nat} (h : s < 4) : opp s < 4 := by
  rcases (show s = 0 ∨ s = 1 ∨ s = 2 ∨ s = 3 by omega) with rfl | rfl | rfl | rfl <;> decide
theorem opp_opp {s : Nat} (h : s < 4) : opp (opp s) = s := by
  rcases (show s = 0 ∨ s = 1 ∨ s = 2 ∨ s = 3 by omega) with rfl | rfl | rfl | rfl <;> rfl
theorem opp_ne {s : Nat} (h : s < 4) : opp s ≠ s := by
  rcases (show s = 0 ∨ s = 1 ∨ s = 2 ∨ s = 3 by omega) with rfl | rfl | rfl | rfl <;> decide
theorem bN_back : ∀ c, c < 42 → ∀ s, s < 4 → bN c s < 42 → bN (bN c s) (opp s) = c ∧ bN c s ≠ c := by decide +kernel
theorem NW.set {nb : Nat → Nat → Nat} (h : NW nb) {c s : Nat} (hc : c < 42) (hs : s < 4) (b : Bool) : NW (setS nb c s b) := by
  intro i j hi hj
  have hb : bN c s < 42 → bN (bN c s) (opp s) = c ∧ bN c s ≠ c := bN_back c hc s hs
  have hbi : bN i j < 42 → bN (bN i j) (opp j) = i ∧ bN i j ≠ i := bN_back i hi j hj
  obtain ⟨h1, h2⟩ := h i j hi hj
  by_cases e : (i = c ∧ j = s) ∨ (bN c s < 42 ∧ i = bN c s ∧ j = opp s)
  · have e1 : setS nb c s b i j = if b then 43 else bN i j := if_pos e
    refine ⟨by rw [e1]; cases b <;> simp, fun hlt => ?_⟩
    have e2 : (bN i j = c ∧ opp j = s) ∨ (bN c s < 42 ∧ bN i j = bN c s ∧ opp j = opp s) := by
      rcases e with ⟨rfl, rfl⟩ | ⟨q1, q2, q3⟩
      · exact Or.inr ⟨hlt, rfl, rfl⟩
      · subst q2; subst q3
        exact Or.inl ⟨(hb q1).1, opp_opp hs⟩
    have e3 : setS nb c s b (bN i j) (opp j) = if b then 43 else bN (bN i j) (opp j) := if_pos e2
    rw [e1, e3]
    cases b
    · have q := (hbi hlt).1
      simp only [Bool.false_eq_true, if_false]
      omega
    · simp
  · have e1 : setS nb c s b i j = nb i j := if_neg e
    refine ⟨by rw [e1]; exact h1, fun hlt => ?_⟩
    have e2 : ¬ ((bN i j = c ∧ opp j = s) ∨ (bN c s < 42 ∧ bN i j = bN c s ∧ opp j = opp s)) := by
      rintro (⟨q1, q2⟩ | ⟨q1, q2, q3⟩)
      · have q4 := (hbi hlt).1
        rw [q1, q2] at q4
        exact e (Or.inr ⟨by omega, q4.symm, by rw [← q2, opp_opp hj]⟩)
      · have q4 := (hbi hlt).1
        have q5 := (hb q1).1
        rw [q2, q3] at q4
        exact e (Or.inl ⟨by omega, by rw [← opp_opp hj, q3, opp_opp hs]⟩)
    have e3 : setS nb c s b (bN i j) (opp j) = nb (bN i j) (opp j) := if_neg e2
    rw [e1, e3]
    exact h2 hlt
/-- how many of the first i sides are open -/
def odn (nb : Nat → Nat → Nat) (c : Nat) : Nat → Nat
  | 0 => 0
  | i + 1 => odn nb c i + (if nb c i = 43 then 0 else 1)
theorem odn_le (nb : Nat → Nat → Nat) (c : Nat) : ∀ i, odn nb c i ≤ i
  | 0 => Nat.le_refl 0
  | i + 1 => by
    have := odn_le nb c i
    show odn nb c i + _ ≤ i + 1
    split <;> omega
/-- numbers below n, each once, are at most n -/
theorem nodup_le : ∀ (n : Nat) (l : List Nat), l.Nodup → (∀ x ∈ l, x < n) → l.length ≤ n
  | 0, l, _, h => by
    cases l with
    | nil => exact Nat.le_refl 0
    | cons a t => exact absurd (h a List.mem_cons_self) (by omega)
  | n + 1, l, hd, h => by
    by_cases e : n ∈ l
    · have h1 := nodup_le n (l.erase n) (hd.erase n) (fun x hx => by
        have h2 := (List.Nodup.mem_erase_iff hd).mp hx
        have h3 := h x h2.2
        have h4 := h2.1
        omega)
      have h2 := List.length_erase_of_mem e
      omega
    · have h1 := nodup_le n l hd (fun x hx => by
        have h3 := h x hx
        have h4 : x ≠ n := fun q => e (q ▸ hx)
        omega)
      omega
/-- the queue: its list of cells -/
def QOK (fs cnt : Nat) (Rr Wt : Nat → Int32) (ql : List Nat) : Prop := ql.Nodup ∧ (∀ x ∈ ql, x < 42) ∧ cnt = ql.length ∧ fs < 42 ∧ (∀ i, i < ql.length → Rr ((fs + i) % 42) = nI (ql.getD i 0)) ∧ ∀ c, c < 42 → Wt c = if c ∈ ql then 1 else 0
theorem QOK.start {Rr : Nat → Int32} : QOK 0 0 Rr (fun _ => 0) [] := ⟨List.nodup_nil, fun x h => absurd h List.not_mem_nil, rfl, by decide, fun i h => absurd h (by simp), fun c _ => by simp⟩
theorem QOK.le {fs cnt : Nat} {Rr Wt : Nat → Int32} {ql : List Nat} (h : QOK fs cnt Rr Wt ql) : cnt ≤ 42 := by
  rw [h.2.2.1]; exact nodup_le 42 ql h.1 h.2.1
theorem QOK.room {fs cnt : Nat} {Rr Wt : Nat → Int32} {ql : List Nat} (h : QOK fs cnt Rr Wt ql) {c : Nat} (hc : c < 42) (hn : c ∉ ql) : cnt < 42 := by
  have h1 := nodup_le 42 (c :: ql) (List.nodup_cons.mpr ⟨hn, h.1⟩) (fun x hx => by
    rcases List.mem_cons.mp hx with rfl | q
    · exact hc
    · exact h.2.1 x q)
  rw [List.length_cons] at h1
  rw [h.2.2.1]; omega
theorem QOK.add {fs cnt : Nat} {Rr Wt : Nat → Int32} {ql : List Nat} (h : QOK fs cnt Rr Wt ql) {c : Nat} (hc : c < 42) (hn : c ∉ ql) : QOK fs (cnt + 1) (upd Rr ((fs + cnt) % 42) (nI c)) (upd Wt c 1) (ql ++ [c]) := by
  have hroom := h.room hc hn
  obtain ⟨h1, h2, h3, h4, h5, h6⟩ := h
  refine ⟨?_, ?_, ?_, h4, ?_, ?_⟩
  · rw [List.nodup_append]
    refine ⟨h1, by simp, ?_⟩
    intro a ha b hb
    simp at hb
    subst hb
    exact fun q => hn (q ▸ ha)
  · intro x hx
    rcases List.mem_append.mp hx with q | q
    · exact h2 x q
    · simp at q; omega
  · simp; omega
  · intro i hi
    simp at hi
    by_cases e : i = cnt
    · subst e
      rw [upd_at]
      have : (ql ++ [c]).getD i 0 = c := by rw [h3]; simp [List.getD]
      rw [this]
    · have hi2 : i < ql.length := by omega
      rw [upd_ne (by omega), h5 i hi2]
      have : (ql ++ [c]).getD i 0 = ql.getD i 0 := by simp [List.getD, List.getElem?_append_left hi2]
      rw [this]
  · intro d hd
    by_cases e : d = c
    · subst e; rw [upd_at]; simp
    · rw [upd_ne e, h6 d hd]
      simp [e]
theorem QOK.head {fs cnt c : Nat} {Rr Wt : Nat → Int32} {t : List Nat} (h : QOK fs cnt Rr Wt (c :: t)) : Rr fs = nI c ∧ c < 42 ∧ 0 < cnt ∧ fs < 42 := by
  obtain ⟨h1, h2, h3, h4, h5, h6⟩ := h
  have q := h5 0 (by simp)
  rw [show (fs + 0) % 42 = fs by omega] at q
  rw [List.length_cons] at h3
  exact ⟨q, h2 c List.mem_cons_self, by omega, h4⟩
theorem QOK.pop {fs cnt c : Nat} {Rr Wt : Nat → Int32} {t : List Nat} (h : QOK fs cnt Rr Wt (c :: t)) : QOK ((fs + 1) % 42) (cnt - 1) Rr (upd Wt c 0) t := by
  obtain ⟨h1, h2, h3, h4, h5, h6⟩ := h
  obtain ⟨n1, n2⟩ := List.nodup_cons.mp h1
  rw [List.length_cons] at h3
  refine ⟨n2, fun x hx => h2 x (List.mem_cons_of_mem _ hx), by omega, by omega, ?_, ?_⟩
  · intro i hi
    have q := h5 (i + 1) (by rw [List.length_cons]; omega)
    rw [show ((fs + 1) % 42 + i) % 42 = (fs + (i + 1)) % 42 by omega, q]
    rfl
  · intro d hd
    by_cases e : d = c
    · subst e; rw [upd_at, if_neg n1]
    · rw [upd_ne e, h6 d hd]
      simp [e]
theorem QOK.mem {fs cnt : Nat} {Rr Wt : Nat → Int32} {ql : List Nat} (h : QOK fs cnt Rr Wt ql) {c : Nat} (hc : c < 42) : Wt c = 0 ↔ c ∉ ql := by
  rw [h.2.2.2.2.2 c hc]
  split <;> simp_all
