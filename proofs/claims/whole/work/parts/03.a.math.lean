/-! MATHEMATICS: sums, the grid, settling (its result is one, whatever the order), its bound. No word of the machine here. -/
def sm (f : Nat → Int) : Nat → Int
  | 0 => 0
  | n + 1 => sm f n + f n
theorem sm_congr {f g : Nat → Int} : ∀ {n : Nat}, (∀ i, i < n → f i = g i) → sm f n = sm g n
  | 0, _ => rfl
  | n + 1, h => by
    show sm f n + f n = sm g n + g n
    rw [sm_congr (n := n) (fun i hi => h i (by omega)), h n (by omega)]
theorem sm_add (f g : Nat → Int) : ∀ n : Nat, sm (fun i => f i + g i) n = sm f n + sm g n
  | 0 => rfl
  | n + 1 => by
    show sm (fun i => f i + g i) n + (f n + g n) = (sm f n + f n) + (sm g n + g n)
    rw [sm_add f g n]; omega
theorem sm_neg (f : Nat → Int) : ∀ n : Nat, sm (fun i => - f i) n = - sm f n
  | 0 => rfl
  | n + 1 => by
    show sm (fun i => - f i) n + (- f n) = - (sm f n + f n)
    rw [sm_neg f n]; omega
theorem sm_le {f g : Nat → Int} : ∀ {n : Nat}, (∀ i, i < n → f i ≤ g i) → sm f n ≤ sm g n
  | 0, _ => Int.le_refl _
  | n + 1, h => by
    have h1 := sm_le (n := n) (fun i hi => h i (by omega))
    have h2 := h n (by omega)
    show sm f n + f n ≤ sm g n + g n
    omega
theorem sm_nonneg {f : Nat → Int} : ∀ {n : Nat}, (∀ i, i < n → 0 ≤ f i) → 0 ≤ sm f n
  | 0, _ => Int.le_refl _
  | n + 1, h => by
    have h1 := sm_nonneg (n := n) (fun i hi => h i (by omega))
    have h2 := h n (by omega)
    show 0 ≤ sm f n + f n
    omega
theorem sm_one {f : Nat → Int} : ∀ {n j : Nat}, (∀ i, i < n → 0 ≤ f i) → j < n → f j ≤ sm f n
  | 0, _, _, hj => absurd hj (by omega)
  | n + 1, j, h, hj => by
    show f j ≤ sm f n + f n
    by_cases e : j = n
    · subst e
      have h1 := sm_nonneg (f := f) (n := j) (fun i hi => h i (by omega))
      omega
    · have h1 := sm_one (n := n) (j := j) (fun i hi => h i (by omega)) (by omega)
      have h2 := h n (by omega)
      omega
theorem sm_const (z : Int) : ∀ n : Nat, sm (fun _ => z) n = n * z
  | 0 => by show (0 : Int) = ((0 : Nat) : Int) * z; simp
  | n + 1 => by
    show sm (fun _ => z) n + z = ((n + 1 : Nat) : Int) * z
    rw [sm_const z n]
    have : ((n + 1 : Nat) : Int) = (n : Int) + 1 := by omega
    rw [this, Int.add_mul, Int.one_mul]
theorem sm_shift (f : Nat → Int) (a : Nat) : ∀ b : Nat, sm f (a + b) = sm f a + sm (fun i => f (a + i)) b
  | 0 => by show sm f a = sm f a + 0; omega
  | b + 1 => by
    show sm f (a + b) + f (a + b) = sm f a + (sm (fun i => f (a + i)) b + f (a + b))
    rw [sm_shift f a b]; omega
/-- one place more -/
theorem sm_upd {f g : Nat → Int} {c : Nat} {z : Int} : ∀ {n : Nat}, c < n → (∀ i, i < n → i ≠ c → g i = f i) → g c = f c + z → sm g n = sm f n + z
  | 0, hc, _, _ => absurd hc (by omega)
  | n + 1, hc, h, e => by
    show sm g n + g n = sm f n + f n + z
    by_cases e2 : c = n
    · subst e2
      rw [sm_congr (f := g) (g := f) (n := c) (fun i hi => h i (by omega) (by omega)), e]; omega
    · rw [sm_upd (n := n) (c := c) (z := z) (f := f) (g := g) (by omega) (fun i hi => h i (by omega)) e, h n (by omega) (by omega)]; omega
/-- what stands at a place: a cell's number, or nothing (the sea 42, no way 43) -/
def vl (u : Nat → Int) (d : Nat) : Int := if d < 42 then u d else 0
/-- what has flowed over the side s of the cell c when cell i has toppled u i times -/
def fw (nb : Nat → Nat → Nat) (u : Nat → Int) (c s : Nat) : Int := if nb c s = 43 then 0 else u c - vl u (nb c s)
def lap (nb : Nat → Nat → Nat) (u : Nat → Int) (c : Nat) : Int := fw nb u c 0 + fw nb u c 1 + fw nb u c 2 + fw nb u c 3
def op1 (nb : Nat → Nat → Nat) (c s : Nat) : Int := if nb c s = 43 then 0 else 1
/-- the number of open sides -/
def dg (nb : Nat → Nat → Nat) (c : Nat) : Int := op1 nb c 0 + op1 nb c 1 + op1 nb c 2 + op1 nb c 3
/-- the grid: 0 is towards the sea, 1 towards the land, 2 west, 3 east -/
def NB (nb : Nat → Nat → Nat) : Prop :=
  (∀ c, c < 36 → (nb c 1 = c + 6 ∧ nb (c + 6) 0 = c) ∨ (nb c 1 = 43 ∧ nb (c + 6) 0 = 43)) ∧
  (∀ c, c < 6 → nb c 0 = 42 ∨ nb c 0 = 43) ∧ (∀ c, c < 42 → 36 ≤ c → nb c 1 = 43) ∧
  (∀ c, c < 41 → (c % 6 ≠ 5 ∧ nb c 3 = c + 1 ∧ nb (c + 1) 2 = c) ∨ (nb c 3 = 43 ∧ nb (c + 1) 2 = 43)) ∧ nb 0 2 = 43 ∧ nb 41 3 = 43
def opp (s : Nat) : Nat := if s = 0 then 1 else if s = 1 then 0 else if s = 2 then 3 else 2
theorem NB.cases {nb : Nat → Nat → Nat} (h : NB nb) {c s : Nat} (hc : c < 42) (hs : s < 4) : nb c s = 43 ∨ (nb c s = 42 ∧ s = 0 ∧ c < 6) ∨ (nb c s < 42 ∧ nb c s ≠ c ∧ nb (nb c s) (opp s) = c ∧ (s = 0 → nb c s + 6 = c) ∧ (s = 1 → nb c s = c + 6) ∧ (s = 2 → nb c s + 1 = c) ∧ (s = 3 → nb c s = c + 1)) := by
  obtain ⟨h1, h2, h3, h4, h5, h6⟩ := h
  rcases (show s = 0 ∨ s = 1 ∨ s = 2 ∨ s = 3 by omega) with rfl | rfl | rfl | rfl
  · by_cases e : c < 6
    · rcases h2 c e with q | q
      · exact Or.inr (Or.inl ⟨q, rfl, e⟩)
      · exact Or.inl q
    · have e2 : c - 6 + 6 = c := by omega
      rcases h1 (c - 6) (by omega) with ⟨q1, q2⟩ | ⟨q1, q2⟩
      · rw [e2] at q1 q2
        refine Or.inr (Or.inr ?_)
        rw [q2]
        exact ⟨by omega, by omega, by show nb (c - 6) 1 = c; rw [q1], fun _ => e2, by omega, by omega, by omega⟩
      · rw [e2] at q2; exact Or.inl q2
  · by_cases e : c < 36
    · rcases h1 c e with ⟨q1, q2⟩ | ⟨q1, q2⟩
      · refine Or.inr (Or.inr ?_)
        rw [q1]
        exact ⟨by omega, by omega, by show nb (c + 6) 0 = c; exact q2, by omega, fun _ => rfl, by omega, by omega⟩
      · exact Or.inl q1
    · exact Or.inl (h3 c hc (by omega))
  · by_cases e : c = 0
    · subst e; exact Or.inl h5
    · have e2 : c - 1 + 1 = c := by omega
      rcases h4 (c - 1) (by omega) with ⟨q0, q1, q2⟩ | ⟨q1, q2⟩
      · rw [e2] at q1 q2
        refine Or.inr (Or.inr ?_)
        rw [q2]
        exact ⟨by omega, by omega, by show nb (c - 1) 3 = c; rw [q1], by omega, by omega, fun _ => e2, by omega⟩
      · rw [e2] at q2; exact Or.inl q2
  · by_cases e : c = 41
    · subst e; exact Or.inl h6
    · rcases h4 c (by omega) with ⟨q0, q1, q2⟩ | ⟨q1, q2⟩
      · refine Or.inr (Or.inr ?_)
        rw [q1]
        exact ⟨by omega, by omega, by show nb (c + 1) 2 = c; exact q2, by omega, by omega, by omega, fun _ => rfl⟩
      · exact Or.inl q1
/-- what is antisymmetric over the sides between cells sums up to nothing -/
theorem anti {g : Nat → Nat → Int} (a1 : ∀ c, c < 36 → g (6 + c) 0 = - g c 1) (a2 : ∀ c, c < 6 → g c 0 = 0) (a3 : ∀ c, c < 42 → 36 ≤ c → g c 1 = 0) (b1 : ∀ c, c < 41 → g (1 + c) 2 = - g c 3) (b2 : g 0 2 = 0) (b3 : g 41 3 = 0) : sm (fun c => g c 0 + g c 1 + g c 2 + g c 3) 42 = 0 := by
  have e : sm (fun c => g c 0 + g c 1 + g c 2 + g c 3) 42 = sm (fun c => g c 0) 42 + sm (fun c => g c 1) 42 + sm (fun c => g c 2) 42 + sm (fun c => g c 3) 42 := by
    rw [sm_add (fun c => g c 0 + g c 1 + g c 2) (fun c => g c 3), sm_add (fun c => g c 0 + g c 1) (fun c => g c 2), sm_add (fun c => g c 0) (fun c => g c 1)]
  have e0 : sm (fun c => g c 0) 42 = - sm (fun c => g c 1) 36 := by
    rw [show (42 : Nat) = 6 + 36 from rfl, sm_shift, sm_congr (f := fun c => g c 0) (g := fun _ => 0) (n := 6) (fun i hi => a2 i hi), sm_const, sm_congr (f := fun i => g (6 + i) 0) (g := fun i => - g i 1) (n := 36) (fun i hi => a1 i hi), sm_neg (fun c => g c 1)]
    omega
  have e1 : sm (fun c => g c 1) 42 = sm (fun c => g c 1) 36 := by
    rw [show (42 : Nat) = 36 + 6 from rfl, sm_shift, sm_congr (f := fun i => g (36 + i) 1) (g := fun _ => 0) (n := 6) (fun i hi => a3 (36 + i) (by omega) (by omega)), sm_const]
    omega
  have e2 : sm (fun c => g c 2) 42 = - sm (fun c => g c 3) 41 := by
    rw [show (42 : Nat) = 1 + 41 from rfl, sm_shift, sm_congr (f := fun i => g (1 + i) 2) (g := fun i => - g i 3) (n := 41) (fun i hi => b1 i hi), sm_neg (fun c => g c 3)]
    show (0 : Int) + g 0 2 + _ = _
    rw [b2]; omega
  have e3 : sm (fun c => g c 3) 42 = sm (fun c => g c 3) 41 := by
    show sm (fun c => g c 3) 41 + g 41 3 = _
    rw [b3]; omega
  rw [e, e0, e1, e2, e3]; omega
/-- over no side more can have flowed than lay there at first -/
theorem fw_le {nb : Nat → Nat → Nat} (hN : NB nb) {h u : Nat → Int} (h0 : ∀ c, c < 42 → 0 ≤ h c) (hu : ∀ c, c < 42 → 0 ≤ u c) (hh : ∀ c, c < 42 → 0 ≤ h c - lap nb u c) {a s : Nat} (ha : a < 42) (hs : s < 4) : fw nb u a s ≤ sm h 42 := by
  have hpos : 0 ≤ sm h 42 := sm_nonneg h0
  by_cases hlow : vl u (nb a s) < u a
  case neg =>
    unfold fw
    split
    · exact hpos
    · omega
  by_cases h43 : nb a s = 43
  case pos => unfold fw; rw [if_pos h43]; exact hpos
  -- the cells at least as often toppled as a
  let i1 : Nat → Int := fun c => if u a ≤ u c then 1 else 0
  let g : Nat → Nat → Int := fun c s => if nb c s < 42 ∧ u a ≤ u c ∧ u a ≤ vl u (nb c s) then u c - vl u (nb c s) else 0
  have hg0 : sm (fun c => g c 0 + g c 1 + g c 2 + g c 3) 42 = 0 := by
    obtain ⟨h1, h2, h3, h4, h5, h6⟩ := id hN
    refine anti ?_ ?_ ?_ ?_ ?_ ?_
    · intro c hc
      show (if nb (6 + c) 0 < 42 ∧ u a ≤ u (6 + c) ∧ u a ≤ vl u (nb (6 + c) 0) then u (6 + c) - vl u (nb (6 + c) 0) else 0) = - (if nb c 1 < 42 ∧ u a ≤ u c ∧ u a ≤ vl u (nb c 1) then u c - vl u (nb c 1) else 0)
      rw [Nat.add_comm 6 c]
      rcases h1 c hc with ⟨q1, q2⟩ | ⟨q1, q2⟩
      · rw [q1, q2]
        have v1 : vl u c = u c := if_pos (by omega)
        have v2 : vl u (c + 6) = u (c + 6) := if_pos (by omega)
        rw [v1, v2]
        by_cases w : u a ≤ u c ∧ u a ≤ u (c + 6)
        · rw [if_pos ⟨by omega, w.2, w.1⟩, if_pos ⟨by omega, w.1, w.2⟩]; omega
        · rw [if_neg (fun q => w ⟨q.2.2, q.2.1⟩), if_neg (fun q => w ⟨q.2.1, q.2.2⟩)]; rfl
      · rw [q1, q2]; rfl
    · intro c hc
      show (if nb c 0 < 42 ∧ _ then _ else _) = (0 : Int)
      rcases h2 c hc with q | q <;> rw [q] <;> rfl
    · intro c hc hc2
      show (if nb c 1 < 42 ∧ _ then _ else _) = (0 : Int)
      rw [h3 c hc hc2]; rfl
    · intro c hc
      show (if nb (1 + c) 2 < 42 ∧ u a ≤ u (1 + c) ∧ u a ≤ vl u (nb (1 + c) 2) then u (1 + c) - vl u (nb (1 + c) 2) else 0) = - (if nb c 3 < 42 ∧ u a ≤ u c ∧ u a ≤ vl u (nb c 3) then u c - vl u (nb c 3) else 0)
      rw [Nat.add_comm 1 c]
      rcases h4 c hc with ⟨q0, q1, q2⟩ | ⟨q1, q2⟩
      · rw [q1, q2]
        have v1 : vl u c = u c := if_pos (by omega)
        have v2 : vl u (c + 1) = u (c + 1) := if_pos (by omega)
        rw [v1, v2]
        by_cases w : u a ≤ u c ∧ u a ≤ u (c + 1)
        · rw [if_pos ⟨by omega, w.2, w.1⟩, if_pos ⟨by omega, w.1, w.2⟩]; omega
        · rw [if_neg (fun q => w ⟨q.2.2, q.2.1⟩), if_neg (fun q => w ⟨q.2.1, q.2.2⟩)]; rfl
      · rw [q1, q2]; rfl
    · show (if nb 0 2 < 42 ∧ _ then _ else _) = (0 : Int)
      rw [h5]; rfl
    · show (if nb 41 3 < 42 ∧ _ then _ else _) = (0 : Int)
      rw [h6]; rfl
  -- what each side of such a cell bears beyond g
  have hge : ∀ c s, c < 42 → s < 4 → 0 ≤ i1 c * fw nb u c s - g c s := by
    intro c s hc hs
    show 0 ≤ (if u a ≤ u c then (1 : Int) else 0) * (if nb c s = 43 then 0 else u c - vl u (nb c s)) - (if nb c s < 42 ∧ u a ≤ u c ∧ u a ≤ vl u (nb c s) then u c - vl u (nb c s) else 0)
    by_cases w : u a ≤ u c
    · rw [if_pos w, Int.one_mul]
      by_cases e : nb c s = 43
      · rw [if_pos e, e]; simp
      · rw [if_neg e]
        by_cases e2 : nb c s < 42 ∧ u a ≤ u c ∧ u a ≤ vl u (nb c s)
        · rw [if_pos e2]; omega
        · rw [if_neg e2]
          by_cases e3 : nb c s < 42
          · have : ¬ u a ≤ vl u (nb c s) := fun q => e2 ⟨e3, w, q⟩
            omega
          · have v : vl u (nb c s) = 0 := if_neg e3
            have := hu c hc
            omega
    · rw [if_neg w, Int.zero_mul, if_neg (fun q => w q.2.1)]; omega
  have hat : fw nb u a s ≤ i1 a * fw nb u a s - g a s := by
    have e1 : i1 a = 1 := if_pos (Int.le_refl _)
    have e2 : g a s = 0 := if_neg (fun q => by omega)
    rw [e1, e2]; omega
  -- sums
  have hsum : sm (fun c => i1 c * lap nb u c) 42 ≤ sm h 42 := by
    refine sm_le fun c hc => ?_
    show (if u a ≤ u c then (1 : Int) else 0) * lap nb u c ≤ h c
    have q1 := hh c hc
    have q2 := h0 c hc
    split
    · omega
    · omega
  have hexp : sm (fun c => i1 c * lap nb u c) 42 = sm (fun c => (i1 c * fw nb u c 0 - g c 0) + (i1 c * fw nb u c 1 - g c 1) + (i1 c * fw nb u c 2 - g c 2) + (i1 c * fw nb u c 3 - g c 3)) 42 + sm (fun c => g c 0 + g c 1 + g c 2 + g c 3) 42 := by
    rw [← sm_add]
    refine sm_congr fun c _ => ?_
    show i1 c * (fw nb u c 0 + fw nb u c 1 + fw nb u c 2 + fw nb u c 3) = _
    rw [Int.mul_add, Int.mul_add, Int.mul_add]
    omega
  have hone := sm_one (f := fun c => (i1 c * fw nb u c 0 - g c 0) + (i1 c * fw nb u c 1 - g c 1) + (i1 c * fw nb u c 2 - g c 2) + (i1 c * fw nb u c 3 - g c 3)) (n := 42) (j := a) (fun c hc => by
    have q0 := hge c 0 hc (by omega)
    have q1 := hge c 1 hc (by omega)
    have q2 := hge c 2 hc (by omega)
    have q3 := hge c 3 hc (by omega)
    omega) ha
  have q0 := hge a 0 ha (by omega)
  have q1 := hge a 1 ha (by omega)
  have q2 := hge a 2 ha (by omega)
  have q3 := hge a 3 ha (by omega)
  rw [hg0] at hexp
  rcases (show s = 0 ∨ s = 1 ∨ s = 2 ∨ s = 3 by omega) with rfl | rfl | rfl | rfl <;> omega
/-- each cell has a way to the sea, of at most 42 steps -/
def Cn (nb : Nat → Nat → Nat) : Prop := ∃ d : Nat → Nat, ∀ c, c < 42 → d c ≤ 42 ∧ ∃ s, s < 4 ∧ ((nb c s = 42 ∧ 1 ≤ d c) ∨ (nb c s < 42 ∧ d (nb c s) < d c))
theorem u_le {nb : Nat → Nat → Nat} (hN : NB nb) {h u : Nat → Int} (h0 : ∀ c, c < 42 → 0 ≤ h c) (hu : ∀ c, c < 42 → 0 ≤ u c) (hh : ∀ c, c < 42 → 0 ≤ h c - lap nb u c) (hC : Cn nb) : ∀ c, c < 42 → u c ≤ 42 * sm h 42 := by
  obtain ⟨d, hd⟩ := hC
  have hpos : 0 ≤ sm h 42 := sm_nonneg h0
  have key : ∀ (n c : Nat), c < 42 → d c ≤ n → u c ≤ (n : Int) * sm h 42 := by
    intro n
    induction n with
    | zero =>
      intro c hc hn
      obtain ⟨-, s, hs, q⟩ := hd c hc
      rcases q with q | q <;> omega
    | succ n ih =>
      intro c hc hn
      obtain ⟨-, s, hs, q⟩ := hd c hc
      have hf := fw_le hN h0 hu hh hc hs
      have e : ((n + 1 : Nat) : Int) * sm h 42 = (n : Int) * sm h 42 + sm h 42 := by
        rw [show ((n + 1 : Nat) : Int) = (n : Int) + 1 from by omega, Int.add_mul, Int.one_mul]
      have hnn : 0 ≤ (n : Int) * sm h 42 := Int.mul_nonneg (by omega) hpos
      rcases q with ⟨q1, q2⟩ | ⟨q1, q2⟩
      · unfold fw at hf
        rw [if_neg (by omega)] at hf
        have v : vl u (nb c s) = 0 := if_neg (by omega)
        omega
      · unfold fw at hf
        rw [if_neg (by omega)] at hf
        have v : vl u (nb c s) = u (nb c s) := if_pos q1
        have := ih (nb c s) q1 (by omega)
        omega
  intro c hc
  exact key 42 c hc (hd c hc).1
theorem usum_le {nb : Nat → Nat → Nat} (hN : NB nb) {h u : Nat → Int} (h0 : ∀ c, c < 42 → 0 ≤ h c) (hu : ∀ c, c < 42 → 0 ≤ u c) (hh : ∀ c, c < 42 → 0 ≤ h c - lap nb u c) (hC : Cn nb) : sm u 42 ≤ 42 * (42 * sm h 42) := by
  have q := sm_le (f := u) (g := fun _ => 42 * sm h 42) (n := 42) (u_le hN h0 hu hh hC)
  rw [sm_const] at q
  exact q
/-- no way of settling has the cells topple less often -/
def Lg (nb : Nat → Nat → Nat) (lim : Nat → Int) (h u : Nat → Int) : Prop := ∀ v : Nat → Int, (∀ c, c < 42 → 0 ≤ v c) → (∀ c, c < 42 → h c - lap nb v c < lim c) → ∀ c, c < 42 → u c ≤ v c
def up1 (u : Nat → Int) (c : Nat) (k : Int) : Nat → Int := fun i => if i = c then u i + k else u i
theorem Lg.start {nb : Nat → Nat → Nat} {lim h : Nat → Int} : Lg nb lim h (fun _ => 0) := fun _ hv _ c hc => hv c hc
theorem fw_mono {nb : Nat → Nat → Nat} {u v : Nat → Int} {c s : Nat} {k : Int} (hle : ∀ d, d < 42 → u d ≤ v d) (hk : v c ≤ u c + k) : fw nb v c s ≤ fw nb u c s + k * op1 nb c s := by
  unfold fw op1
  split
  · omega
  · have : vl u (nb c s) ≤ vl v (nb c s) := by
      unfold vl
      split
      · exact hle _ (by assumption)
      · omega
    omega
theorem Lg.step {nb : Nat → Nat → Nat} {lim h u : Nat → Int} (hL : Lg nb lim h u) {c : Nat} (hc : c < 42) {k : Int} (hk : lim c ≤ h c - lap nb u c - (k - 1) * dg nb c) : Lg nb lim h (up1 u c k) := by
  intro v hv hs i hi
  have hle := hL v hv hs
  unfold up1
  split
  case isFalse => exact hle i hi
  case isTrue e =>
    subst e
    by_cases q : v i < u i + k
    · exfalso
      have hst := hs i hi
      have m0 := fw_mono (nb := nb) (u := u) (v := v) (c := i) (s := 0) (k := k - 1) hle (by omega)
      have m1 := fw_mono (nb := nb) (u := u) (v := v) (c := i) (s := 1) (k := k - 1) hle (by omega)
      have m2 := fw_mono (nb := nb) (u := u) (v := v) (c := i) (s := 2) (k := k - 1) hle (by omega)
      have m3 := fw_mono (nb := nb) (u := u) (v := v) (c := i) (s := 3) (k := k - 1) hle (by omega)
      unfold dg at hk
      unfold lap at hk hst
      rw [Int.mul_add, Int.mul_add, Int.mul_add] at hk
      omega
    · exact Int.not_lt.mp q
/-- the result of settling is one -/
theorem Lg.one {nb : Nat → Nat → Nat} {lim h u v : Nat → Int} (h1 : Lg nb lim h u) (h2 : Lg nb lim h v) (u0 : ∀ c, c < 42 → 0 ≤ u c) (v0 : ∀ c, c < 42 → 0 ≤ v c) (s1 : ∀ c, c < 42 → h c - lap nb u c < lim c) (s2 : ∀ c, c < 42 → h c - lap nb v c < lim c) : ∀ c, c < 42 → u c = v c :=
  fun c hc => Int.le_antisymm (h1 v v0 s2 c hc) (h2 u u0 s1 c hc)
/-- 1 where the side s of c leads to d -/
def ld (nb : Nat → Nat → Nat) (c s d : Nat) : Int := if nb c s = d then 1 else 0
def lds (nb : Nat → Nat → Nat) (c d : Nat) : Int := ld nb c 0 d + ld nb c 1 d + ld nb c 2 d + ld nb c 3 d
theorem ld_sym {nb : Nat → Nat → Nat} (hN : NB nb) {c d : Nat} (hc : c < 42) (hd : d < 42) : ∀ s, s < 4 → ld nb c s d = ld nb d (opp s) c := by
  intro s hs
  unfold ld
  have hoo : opp (opp s) = s := by
    rcases (show s = 0 ∨ s = 1 ∨ s = 2 ∨ s = 3 by omega) with rfl | rfl | rfl | rfl <;> rfl
  have ho4 : opp s < 4 := by
    rcases (show s = 0 ∨ s = 1 ∨ s = 2 ∨ s = 3 by omega) with rfl | rfl | rfl | rfl <;> decide
  by_cases e : nb c s = d
  · rw [if_pos e]
    rcases hN.cases hc hs with q | q | q
    · omega
    · omega
    · rw [e] at q
      rw [if_pos q.2.2.1]
  · rw [if_neg e]
    by_cases e2 : nb d (opp s) = c
    · rcases hN.cases hd ho4 with q | q | q
      · omega
      · omega
      · rw [e2, hoo] at q
        exact absurd q.2.2.1 e
    · rw [if_neg e2]
theorem lds_sym {nb : Nat → Nat → Nat} (hN : NB nb) {c d : Nat} (hc : c < 42) (hd : d < 42) : lds nb c d = lds nb d c := by
  have q0 := ld_sym hN hc hd 0 (by omega)
  have q1 := ld_sym hN hc hd 1 (by omega)
  have q2 := ld_sym hN hc hd 2 (by omega)
  have q3 := ld_sym hN hc hd 3 (by omega)
  have e0 : opp 0 = 1 := rfl
  have e1 : opp 1 = 0 := rfl
  have e2 : opp 2 = 3 := rfl
  have e3 : opp 3 = 2 := rfl
  rw [e0] at q0; rw [e1] at q1; rw [e2] at q2; rw [e3] at q3
  unfold lds
  omega
theorem lds_self {nb : Nat → Nat → Nat} (hN : NB nb) {c : Nat} (hc : c < 42) : lds nb c c = 0 := by
  have key : ∀ s, s < 4 → ld nb c s c = 0 := by
    intro s hs
    unfold ld
    rcases hN.cases hc hs with q | q | q
    · rw [if_neg (by omega)]
    · rw [if_neg (by omega)]
    · rw [if_neg q.2.1]
  have q0 := key 0 (by omega)
  have q1 := key 1 (by omega)
  have q2 := key 2 (by omega)
  have q3 := key 3 (by omega)
  unfold lds
  omega
theorem fw_up1 {nb : Nat → Nat → Nat} (hN : NB nb) {u : Nat → Int} {c : Nat} (hc : c < 42) {k : Int} {d s : Nat} (hd : d < 42) (hs : s < 4) : fw nb (up1 u c k) d s = fw nb u d s + (if d = c then k * op1 nb d s else 0) - k * ld nb d s c := by
  unfold fw op1 ld
  rcases hN.cases hd hs with q | q | q
  · have nc : ¬ nb d s = c := by omega
    rw [if_pos q, if_pos q, if_pos q, if_neg nc]
    split <;> omega
  · have n43 : ¬ nb d s = 43 := by omega
    have nc : ¬ nb d s = c := by omega
    have v1 : ∀ w : Nat → Int, vl w (nb d s) = 0 := fun w => if_neg (by omega)
    rw [if_neg n43, if_neg n43, if_neg n43, if_neg nc, v1, v1]
    unfold up1
    split <;> omega
  · have n43 : ¬ nb d s = 43 := by omega
    have v1 : ∀ w : Nat → Int, vl w (nb d s) = w (nb d s) := fun w => if_pos q.1
    rw [if_neg n43, if_neg n43, if_neg n43, v1, v1]
    have hne := q.2.1
    unfold up1
    by_cases e1 : d = c
    · subst e1
      rw [if_pos rfl, if_neg hne, if_pos rfl, if_neg hne]; omega
    · rw [if_neg e1, if_neg e1]
      split <;> omega
/-- the heights when the cell c topples k times more -/
theorem lap_up1 {nb : Nat → Nat → Nat} (hN : NB nb) {u : Nat → Int} {c : Nat} (hc : c < 42) {k : Int} {d : Nat} (hd : d < 42) : lap nb (up1 u c k) d = lap nb u d + (if d = c then k * dg nb c else 0) - k * lds nb c d := by
  rw [lds_sym hN hc hd]
  have q0 := fw_up1 hN (u := u) (k := k) hc hd (s := 0) (by omega)
  have q1 := fw_up1 hN (u := u) (k := k) hc hd (s := 1) (by omega)
  have q2 := fw_up1 hN (u := u) (k := k) hc hd (s := 2) (by omega)
  have q3 := fw_up1 hN (u := u) (k := k) hc hd (s := 3) (by omega)
  unfold lap lds dg
  rw [Int.mul_add, Int.mul_add, Int.mul_add, Int.mul_add, Int.mul_add, Int.mul_add]
  by_cases e : d = c
  · subst e
    rw [if_pos rfl] at q0 q1 q2 q3 ⊢
    omega
  · rw [if_neg e] at q0 q1 q2 q3 ⊢
    omega
