/-! water, in plain words -/
/-- the side s of c leads to the sea or to a cell of W -/
def bs1 (nb : Nat → Nat → Nat) (W : Nat → Bool) (c s : Nat) : Bool := decide (nb c s = 42) || (decide (nb c s < 42) && W (nb c s))
def bes (nb : Nat → Nat → Nat) (W : Nat → Bool) (c : Nat) : Bool := bs1 nb W c 0 || bs1 nb W c 1 || bs1 nb W c 2 || bs1 nb W c 3
theorem bes_iff {nb : Nat → Nat → Nat} {W : Nat → Bool} {c : Nat} : bes nb W c = true ↔ ∃ s, s < 4 ∧ (nb c s = 42 ∨ (nb c s < 42 ∧ W (nb c s) = true)) := by
  unfold bes bs1
  simp only [Bool.or_eq_true, Bool.and_eq_true, decide_eq_true_eq]
  constructor
  · rintro (((h | h) | h) | h)
    · exact ⟨0, by omega, h⟩
    · exact ⟨1, by omega, h⟩
    · exact ⟨2, by omega, h⟩
    · exact ⟨3, by omega, h⟩
  · rintro ⟨s, hs, h⟩
    rcases (show s = 0 ∨ s = 1 ∨ s = 2 ∨ s = 3 by omega) with rfl | rfl | rfl | rfl
    · exact Or.inl (Or.inl (Or.inl h))
    · exact Or.inl (Or.inl (Or.inr h))
    · exact Or.inl (Or.inr h)
    · exact Or.inr h
/-- reached in k steps -/
def rch (nb : Nat → Nat → Nat) (low : Nat → Bool) : Nat → Nat → Bool
  | 0, _ => false
  | k + 1, c => rch nb low k c || (low c && bes nb (rch nb low k) c)
theorem bes_mono {nb : Nat → Nat → Nat} {W V : Nat → Bool} (h : ∀ x, x < 42 → W x = true → V x = true) {c : Nat} (hb : bes nb W c = true) : bes nb V c = true := by
  obtain ⟨s, hs, q⟩ := bes_iff.mp hb
  exact bes_iff.mpr ⟨s, hs, q.imp id (fun q => ⟨q.1, h _ q.1 q.2⟩)⟩
theorem rch_up {nb : Nat → Nat → Nat} {low : Nat → Bool} {k c : Nat} (h : rch nb low k c = true) : rch nb low (k + 1) c = true := by
  show (rch nb low k c || _) = true
  rw [h]; rfl
theorem rch_le {nb : Nat → Nat → Nat} {low : Nat → Bool} {k c : Nat} (h : rch nb low k c = true) : ∀ m, k ≤ m → rch nb low m c = true := by
  intro m hm
  induction m with
  | zero => rw [show 0 = k by omega]; exact h
  | succ m ih =>
    by_cases e : k ≤ m
    · exact rch_up (ih e)
    · rw [show m + 1 = k by omega]; exact h
/-- the cells in which water stands -/
def FL (nb : Nat → Nat → Nat) (low W : Nat → Bool) : Prop := (∀ c, c < 42 → W c = true → ∃ k, rch nb low k c = true) ∧ ∀ c, c < 42 → low c = true → bes nb W c = true → W c = true
theorem FL.of {nb : Nat → Nat → Nat} {low W : Nat → Bool} (h : FL nb low W) : ∀ k c, c < 42 → rch nb low k c = true → W c = true
  | 0, c, _, q => by cases q
  | k + 1, c, hc, q => by
    have q1 : (rch nb low k c || (low c && bes nb (rch nb low k) c)) = true := q
    rw [Bool.or_eq_true, Bool.and_eq_true] at q1
    rcases q1 with q1 | ⟨q1, q2⟩
    · exact FL.of h k c hc q1
    · exact h.2 c hc q1 (bes_mono (fun x hx z => FL.of h k x hx z) q2)
theorem FL.one {nb : Nat → Nat → Nat} {low W V : Nat → Bool} (h : FL nb low W) (h2 : FL nb low V) : ∀ c, c < 42 → W c = V c := by
  intro c hc
  cases hw : W c
  · cases hv : V c
    · rfl
    · obtain ⟨k, q⟩ := h2.1 c hc hv
      rw [h.of k c hc q] at hw; cases hw
  · obtain ⟨k, q⟩ := h.1 c hc hw
    exact (h2.of k c hc q).symm
/-- a wet cell's neighbour that is low is reached -/
theorem snd_of {nb : Nat → Nat → Nat} {low W : Nat → Bool} (h : ∀ c, c < 42 → W c = true → ∃ k, rch nb low k c = true) {c : Nat} (hl : low c = true) (hb : bes nb W c = true) : ∃ k, rch nb low k c = true := by
  obtain ⟨s, hs, q⟩ := bes_iff.mp hb
  rcases q with q | ⟨q1, q2⟩
  · refine ⟨1, ?_⟩
    show (false || (low c && bes nb (rch nb low 0) c)) = true
    rw [hl, bes_iff.mpr ⟨s, hs, Or.inl q⟩]; rfl
  · obtain ⟨k, hk⟩ := h _ q1 q2
    refine ⟨k + 1, ?_⟩
    show (rch nb low k c || (low c && bes nb (rch nb low k) c)) = true
    rw [hl, bes_iff.mpr ⟨s, hs, Or.inr ⟨q1, hk⟩⟩]; simp
def cB (W : Nat → Bool) (n : Nat) : Nat := sN (fun c => bn (W c)) n
theorem cB_le (W : Nat → Bool) : ∀ n, cB W n ≤ n
  | 0 => Nat.le_refl 0
  | n + 1 => by
    have := cB_le W n
    show cB W n + bn (W n) ≤ n + 1
    have : bn (W n) ≤ 1 := by cases W n <;> decide
    omega
theorem cB_mono {W V : Nat → Bool} : ∀ {n : Nat}, (∀ c, c < n → W c = true → V c = true) → cB W n ≤ cB V n
  | 0, _ => Nat.le_refl 0
  | n + 1, h => by
    have h1 := cB_mono (n := n) (fun c hc => h c (by omega))
    have h2 : bn (W n) ≤ bn (V n) := by
      cases hw : W n
      · exact Nat.zero_le _
      · rw [h n (by omega) hw]
        exact Nat.le_refl _
    show cB W n + bn (W n) ≤ cB V n + bn (V n)
    omega
theorem cB_lt {W V : Nat → Bool} : ∀ {n : Nat}, (∀ c, c < n → W c = true → V c = true) → ∀ {d : Nat}, d < n → W d = false → V d = true → cB W n < cB V n
  | 0, _, _, hd, _, _ => absurd hd (by omega)
  | n + 1, h, d, hd, h1, h2 => by
    show cB W n + bn (W n) < cB V n + bn (V n)
    by_cases e : d = n
    · subst e
      have q := cB_mono (n := d) (fun c hc => h c (by omega))
      rw [h1, h2]
      have e1 : bn false = 0 := rfl
      have e2 : bn true = 1 := rfl
      omega
    · have q := cB_lt (n := n) (fun c hc => h c (by omega)) (d := d) (by omega) h1 h2
      have q2 : bn (W n) ≤ bn (V n) := by
        cases hw : W n
        · exact Nat.zero_le _
        · rw [h n (by omega) hw]
          exact Nat.le_refl _
      omega
theorem cB_full {W : Nat → Bool} : ∀ {n : Nat}, n ≤ cB W n → ∀ c, c < n → W c = true
  | 0, _, c, hc => absurd hc (by omega)
  | n + 1, h, c, hc => by
    have h1 : cB W n + bn (W n) = cB W (n + 1) := rfl
    have h2 := cB_le W n
    have h3 : bn (W n) ≤ 1 := by cases W n <;> decide
    by_cases e : c = n
    · subst e
      cases hw : W c
      · rw [hw] at h1; have e1 : bn false = 0 := rfl; omega
      · rfl
    · exact cB_full (n := n) (by omega) c (by omega)
/-- one cell more -/
def adB (W : Nat → Bool) (d : Nat) : Nat → Bool := fun i => W i || decide (i = d)
theorem adB_at (W : Nat → Bool) (d : Nat) : adB W d d = true := by unfold adB; simp
theorem adB_of {W : Nat → Bool} {d c : Nat} (h : W c = true) : adB W d c = true := by unfold adB; simp [h]
theorem adB_ne {W : Nat → Bool} {d c : Nat} (h : c ≠ d) : adB W d c = W c := by unfold adB; simp [h]
theorem cB_ad {W : Nat → Bool} {d : Nat} (hw : W d = false) : ∀ {n : Nat}, d < n → cB (adB W d) n = cB W n + 1
  | 0, hd => absurd hd (by omega)
  | n + 1, hd => by
    show cB (adB W d) n + bn (adB W d n) = cB W n + bn (W n) + 1
    by_cases e : d = n
    · subst e
      rw [adB_at, hw]
      have : ∀ m, m ≤ d → cB (adB W d) m = cB W m := by
        intro m
        induction m with
        | zero => intro _; rfl
        | succ m ih =>
          intro hm
          show cB (adB W d) m + bn (adB W d m) = cB W m + bn (W m)
          rw [ih (by omega), adB_ne (by omega)]
      rw [this d (Nat.le_refl d)]; rfl
    · rw [adB_ne (fun q => e q.symm), cB_ad hw (n := n) (by omega)]; omega
/-- if all cells are reached, each has a way of at most 42 steps -/
theorem Cn.of {nb : Nat → Nat → Nat} {low W : Nat → Bool} (h : FL nb low W) (hall : ∀ c, c < 42 → W c = true) : Cn nb := by
  -- at 42 steps all are reached
  have hst : ∀ j, (∀ c, c < 42 → rch nb low (j + 1) c = rch nb low j c) → ∀ c, c < 42 → rch nb low j c = true := by
    intro j hj
    have hF : FL nb low (rch nb low j) := ⟨fun c _ q => ⟨j, q⟩, fun c hc hl hb => by
      rw [← hj c hc]
      show (rch nb low j c || (low c && bes nb (rch nb low j) c)) = true
      rw [hl, hb]; simp⟩
    intro c hc
    rw [hF.one h c hc]; exact hall c hc
  have hcnt : ∀ k, k ≤ 42 → k ≤ cB (rch nb low k) 42 ∨ ∀ c, c < 42 → rch nb low k c = true := by
    intro k
    induction k with
    | zero => intro _; exact Or.inl (Nat.zero_le _)
    | succ k ih =>
      intro hk
      rcases ih (by omega) with q | q
      · by_cases e : ∀ c, c < 42 → rch nb low (k + 1) c = rch nb low k c
        · exact Or.inr (fun c hc => rch_up (hst k e c hc))
        · left
          have : ∃ c, c < 42 ∧ rch nb low (k + 1) c ≠ rch nb low k c := Classical.byContradiction (fun z => e (fun c hc => Classical.byContradiction (fun y => z ⟨c, hc, y⟩)))
          obtain ⟨c, hc, hne⟩ := this
          have h0 : rch nb low k c = false := by
            cases hr : rch nb low k c
            · rfl
            · rw [rch_up hr, hr] at hne; exact absurd rfl hne
          have h1 : rch nb low (k + 1) c = true := by
            cases hr : rch nb low (k + 1) c
            · rw [hr, h0] at hne; exact absurd rfl hne
            · rfl
          have := cB_lt (n := 42) (W := rch nb low k) (V := rch nb low (k + 1)) (fun c _ z => rch_up z) hc h0 h1
          omega
      · exact Or.inr (fun c hc => rch_up (q c hc))
  have h42 : ∀ c, c < 42 → rch nb low 42 c = true := by
    rcases hcnt 42 (Nat.le_refl _) with q | q
    · exact cB_full q
    · exact q
  have hex : ∀ c, ∃ k, c < 42 → (k ≤ 42 ∧ rch nb low k c = true ∧ ∀ j, j < k → rch nb low j c = false) := by
    intro c
    by_cases hc : c < 42
    · have key : ∀ n, rch nb low n c = true → ∃ k, k ≤ n ∧ rch nb low k c = true ∧ ∀ j, j < k → rch nb low j c = false := by
        intro n
        induction n with
        | zero => intro q; cases q
        | succ n ih =>
          intro q
          cases hr : rch nb low n c
          · refine ⟨n + 1, Nat.le_refl _, q, fun j hj => ?_⟩
            cases hz : rch nb low j c
            · rfl
            · rw [rch_le hz n (by omega)] at hr; cases hr
          · obtain ⟨k, q1, q2⟩ := ih hr
            exact ⟨k, by omega, q2⟩
      obtain ⟨k, q⟩ := key 42 (h42 c hc)
      exact ⟨k, fun _ => q⟩
    · exact ⟨0, fun z => absurd z hc⟩
  refine ⟨fun c => Classical.choose (hex c), fun c hc => ?_⟩
  obtain ⟨q1, q2, q3⟩ := Classical.choose_spec (hex c) hc
  dsimp only
  refine ⟨q1, ?_⟩
  generalize Classical.choose (hex c) = k at q1 q2 q3 ⊢
  cases k with
  | zero => cases q2
  | succ k =>
    have q4 : (rch nb low k c || (low c && bes nb (rch nb low k) c)) = true := q2
    rw [q3 k (by omega), Bool.false_or, Bool.and_eq_true] at q4
    obtain ⟨s, hs, z⟩ := bes_iff.mp q4.2
    refine ⟨s, hs, ?_⟩
    rcases z with z | ⟨z1, z2⟩
    · exact Or.inl ⟨z, by show 1 ≤ k + 1; omega⟩
    · right
      refine ⟨z1, ?_⟩
      obtain ⟨w1, w2, w3⟩ := Classical.choose_spec (hex (nb c s)) z1
      show Classical.choose (hex (nb c s)) < k + 1
      rcases Nat.lt_or_ge k (Classical.choose (hex (nb c s))) with y | y
      · rw [w3 k y] at z2; cases z2
      · omega
theorem Cn.init : Cn bN := by
  refine ⟨fun c => c / 6 + 1, fun c hc => ⟨by show c / 6 + 1 ≤ 42; omega, 0, by omega, ?_⟩⟩
  by_cases e : c < 6
  · exact Or.inl ⟨by rw [bN0, if_pos e], by show 1 ≤ c / 6 + 1; omega⟩
  · right
    rw [bN0, if_neg e]
    exact ⟨by omega, by show (c - 6) / 6 + 1 < c / 6 + 1; omega⟩
/-- a way that is there stays when a side is opened -/
theorem Cn.wider {nb : Nat → Nat → Nat} (hW : NW nb) (h : Cn nb) {c s : Nat} (hc : c < 42) (hs : s < 4) : Cn (setS nb c s false) := by
  obtain ⟨d, hd⟩ := h
  refine ⟨d, fun i hi => ⟨(hd i hi).1, ?_⟩⟩
  obtain ⟨-, j, hj, q⟩ := hd i hi
  refine ⟨j, hj, ?_⟩
  have e : setS nb c s false i j = nb i j := by
    unfold setS
    split
    · show (if false = true then 43 else bN i j) = nb i j
      rw [if_neg (by decide)]
      rcases (hW i j hi hj).1 with z | z
      · exact z.symm
      · omega
    · rfl
  rw [e]; exact q
theorem FL.congr {nb : Nat → Nat → Nat} {low W V : Nat → Bool} (h : FL nb low W) (e : ∀ c, c < 42 → W c = V c) : FL nb low V := by
  refine ⟨fun c hc q => h.1 c hc ((e c hc).trans q), fun c hc hl hb => ?_⟩
  rw [← e c hc]
  exact h.2 c hc hl (bes_mono (fun x hx z => (e x hx).trans z) hb)
/-- the level's low cells -/
def lowB (h : Nat → Nat) (lv : Nat) : Nat → Bool := fun c => decide (h c < lv)
theorem POK.ad {f : Nat → Int32} {W : Nat → Bool} (h : POK f W) {d : Nat} : POK (upd f d (nI 1)) (adB W d) := by
  intro c hc
  by_cases e : c = d
  · subst e; rw [upd_at, adB_at]; rfl
  · rw [upd_ne e, adB_ne e]; exact h c hc
theorem POK.z {f : Nat → Int32} {W : Nat → Bool} (h : POK f W) {c : Nat} (hc : c < 42) : f c = 0 ↔ W c = false := by
  rw [h c hc]
  cases W c
  · exact ⟨fun _ => rfl, fun _ => rfl⟩
  · exact ⟨fun q => absurd q (by decide), fun q => by cases q⟩
/-- soaking d -/
def skB (h : Nat → Nat) (lv : Nat) (W : Nat → Bool) (d : Nat) : Prop := d < 42 ∧ W d = false ∧ h d < lv
theorem FL.fin {nb : Nat → Nat → Nat} (hN : NB nb) {low W : Nat → Bool} (h1 : ∀ c, c < 42 → W c = true → ∃ k, rch nb low k c = true) (h2 : ∀ c, c < 42 → low c = true → nb c 0 = 42 → W c = true) (h3 : ∀ x s, x < 42 → s < 4 → W x = true → nb x s < 42 → low (nb x s) = true → W (nb x s) = true) : FL nb low W := by
  refine ⟨h1, fun c hc hl hb => ?_⟩
  obtain ⟨s, hs, q⟩ := bes_iff.mp hb
  rcases q with q | ⟨q1, q2⟩
  · rcases hN.cases hc hs with z | z | z
    · omega
    · rw [z.2.1] at q; exact h2 c hc hl q
    · omega
  · rcases hN.cases hc hs with z | z | z
    · omega
    · omega
    · have e := z.2.2.1
      have q3 := h3 (nb c s) (opp s) q1 (opp_lt hs) q2 (by rw [e]; exact hc) (by rw [e]; exact hl)
      rw [e] at q3
      exact q3
