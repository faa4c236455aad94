/-! settling, in numbers: heights h, how often u each cell has toppled, from the heights h0 -/
def lim (pl : Nat → Bool) (c : Nat) : Nat := if pl c then 8 else 4
theorem lim_ge (pl : Nat → Bool) (c : Nat) : 4 ≤ lim pl c ∧ lim pl c ≤ 8 := by unfold lim; split <;> omega
def iN (u : Nat → Nat) : Nat → Int := fun i => (u i : Int)
def addN (h : Nat → Nat) (d k : Nat) : Nat → Nat := fun i => if i = d then h i + k else h i
def setN (h : Nat → Nat) (d x : Nat) : Nat → Nat := fun i => if i = d then x else h i
/-- the heights when c topples k times at once -/
def tp (nb : Nat → Nat → Nat) (h : Nat → Nat) (c k : Nat) : Nat → Nat := addN (addN (addN (addN (setN h c (h c - k * odn nb c 4)) (nb c 0) k) (nb c 1) k) (nb c 2) k) (nb c 3) k
theorem odn4 (nb : Nat → Nat → Nat) (c : Nat) : ((odn nb c 4 : Nat) : Int) = dg nb c := by
  show (((((0 + (if nb c 0 = 43 then 0 else 1)) + (if nb c 1 = 43 then 0 else 1)) + (if nb c 2 = 43 then 0 else 1)) + (if nb c 3 = 43 then 0 else 1) : Nat) : Int) = _
  unfold dg op1
  split <;> split <;> split <;> split <;> rfl
theorem addN_i (h : Nat → Nat) (d k i : Nat) : ((addN h d k i : Nat) : Int) = (h i : Int) + (k : Int) * (if d = i then 1 else 0) := by
  unfold addN
  by_cases e : i = d
  · rw [if_pos e, if_pos e.symm]; omega
  · rw [if_neg e, if_neg (fun q => e q.symm)]; omega
theorem tp_i {nb : Nat → Nat → Nat} {h : Nat → Nat} {c k : Nat} (hk : k * odn nb c 4 ≤ h c) (d : Nat) : ((tp nb h c k d : Nat) : Int) = (h d : Int) - (if d = c then (k : Int) * dg nb c else 0) + (k : Int) * lds nb c d := by
  unfold tp
  rw [addN_i, addN_i, addN_i, addN_i]
  unfold lds ld
  rw [Int.mul_add, Int.mul_add, Int.mul_add]
  have e : ((setN h c (h c - k * odn nb c 4) d : Nat) : Int) = (h d : Int) - (if d = c then (k : Int) * dg nb c else 0) := by
    unfold setN
    by_cases q : d = c
    · subst q
      rw [if_pos rfl, if_pos rfl, ← odn4, Int.ofNat_sub hk]
      push_cast
      rfl
    · rw [if_neg q, if_neg q]; omega
  rw [e]
  omega
/-- what holds all along while h0 settles -/
def SI (nb : Nat → Nat → Nat) (pl : Nat → Bool) (h0 h u : Nat → Nat) : Prop := (∀ c, c < 42 → (h c : Int) = (h0 c : Int) - lap nb (iN u) c) ∧ Lg nb (iN (lim pl)) (iN h0) (iN u)
theorem SI.start {nb : Nat → Nat → Nat} {pl : Nat → Bool} {h0 : Nat → Nat} : SI nb pl h0 h0 (fun _ => 0) := by
  refine ⟨fun c _ => ?_, Lg.start⟩
  have e : lap nb (iN fun _ => 0) c = 0 := by
    unfold lap fw vl iN
    simp
  rw [e]; omega
theorem lds_le {nb : Nat → Nat → Nat} (hN : NB nb) {c : Nat} (hc : c < 42) (d : Nat) : 0 ≤ lds nb c d := by
  unfold lds ld
  split <;> split <;> split <;> split <;> omega
theorem SI.step {nb : Nat → Nat → Nat} (hN : NB nb) {pl : Nat → Bool} {h0 h u : Nat → Nat} (hs : SI nb pl h0 h u) {c k : Nat} (hc : c < 42) (h1 : 1 ≤ k) (hk : lim pl c + (k - 1) * odn nb c 4 ≤ h c) : SI nb pl h0 (tp nb h c k) (addN u c k) := by
  have ho := odn_le nb c 4
  have hl := lim_ge pl c
  have hk2 : k * odn nb c 4 ≤ h c := by
    have : k * odn nb c 4 = (k - 1) * odn nb c 4 + odn nb c 4 := by
      obtain ⟨j, rfl⟩ : ∃ j, k = j + 1 := ⟨k - 1, by omega⟩
      rw [Nat.add_mul, Nat.one_mul]; simp
    omega
  have eu : iN (addN u c k) = up1 (iN u) c k := by
    funext i
    unfold iN addN up1
    split <;> simp
  refine ⟨fun d hd => ?_, ?_⟩
  · rw [tp_i hk2, eu, lap_up1 hN hc hd, hs.1 d hd]
    omega
  · rw [eu]
    refine hs.2.step hc ?_
    have q := hs.1 c hc
    show ((lim pl c : Nat) : Int) ≤ (h0 c : Int) - lap nb (iN u) c - ((k : Int) - 1) * dg nb c
    rw [← q, ← odn4]
    have e2 : ((k : Int) - 1) * ((odn nb c 4 : Nat) : Int) = (((k - 1) * odn nb c 4 : Nat) : Int) := by
      rw [Int.natCast_mul]
      congr 1
      omega
    rw [e2]
    omega
def sN (f : Nat → Nat) : Nat → Nat
  | 0 => 0
  | n + 1 => sN f n + f n
theorem sN_i (f : Nat → Nat) : ∀ n, ((sN f n : Nat) : Int) = sm (iN f) n
  | 0 => rfl
  | n + 1 => by
    show ((sN f n + f n : Nat) : Int) = sm (iN f) n + iN f n
    rw [← sN_i f n]
    rfl
theorem sN_add {f : Nat → Nat} {c k : Nat} : ∀ {n : Nat}, c < n → sN (addN f c k) n = sN f n + k
  | 0, hc => absurd hc (by omega)
  | n + 1, hc => by
    show sN (addN f c k) n + addN f c k n = sN f n + f n + k
    by_cases e : c = n
    · subst e
      have : ∀ m, m ≤ c → sN (addN f c k) m = sN f m := by
        intro m
        induction m with
        | zero => intro _; rfl
        | succ m ih =>
          intro hm
          show sN (addN f c k) m + addN f c k m = sN f m + f m
          rw [ih (by omega)]
          have : addN f c k m = f m := if_neg (by omega)
          omega
      have h2 : addN f c k c = f c + k := if_pos rfl
      rw [this c (Nat.le_refl c), h2]; omega
    · have h2 : addN f c k n = f n := if_neg (fun q => e q.symm)
      rw [sN_add (n := n) (by omega), h2]; omega
theorem sN_one {f : Nat → Nat} : ∀ {n j : Nat}, j < n → f j ≤ sN f n
  | 0, _, hj => absurd hj (by omega)
  | n + 1, j, hj => by
    show f j ≤ sN f n + f n
    by_cases e : j = n
    · subst e; omega
    · have := sN_one (f := f) (n := n) (j := j) (by omega)
      omega
theorem SI.usum {nb : Nat → Nat → Nat} (hN : NB nb) (hC : Cn nb) {pl : Nat → Bool} {h0 h u : Nat → Nat} (hs : SI nb pl h0 h u) : sN u 42 ≤ 1764 * sN h0 42 := by
  have q := usum_le hN (h := iN h0) (u := iN u) (fun c _ => Int.natCast_nonneg _) (fun c _ => Int.natCast_nonneg _) (fun c hc => by
    have := hs.1 c hc
    show 0 ≤ (h0 c : Int) - lap nb (iN u) c
    omega) hC
  rw [← sN_i, ← sN_i] at q
  omega
theorem SI.hb {nb : Nat → Nat → Nat} (hN : NB nb) (hC : Cn nb) {pl : Nat → Bool} {h0 h u : Nat → Nat} (hs : SI nb pl h0 h u) {c : Nat} (hc : c < 42) : h c ≤ 169 * sN h0 42 := by
  have hu := u_le hN (h := iN h0) (u := iN u) (fun c _ => Int.natCast_nonneg _) (fun c _ => Int.natCast_nonneg _) (fun c hc => by
    have := hs.1 c hc
    show 0 ≤ (h0 c : Int) - lap nb (iN u) c
    omega) hC
  have e := hs.1 c hc
  rw [← sN_i] at hu
  have hone := sN_one (f := h0) hc
  have key : ∀ s, s < 4 → -(42 * ((sN h0 42 : Nat) : Int)) ≤ fw nb (iN u) c s := by
    intro s hs4
    unfold fw
    split
    · omega
    · unfold vl
      have p0 : (0 : Int) ≤ iN u c := Int.natCast_nonneg _
      split
      · have := hu _ (by assumption)
        omega
      · omega
  have q0 := key 0 (by omega)
  have q1 := key 1 (by omega)
  have q2 := key 2 (by omega)
  have q3 := key 3 (by omega)
  unfold lap at e
  omega
/-- settled: what the heights become, and how often each cell toppled -/
def Stl (nb : Nat → Nat → Nat) (pl : Nat → Bool) (h0 h u : Nat → Nat) : Prop := SI nb pl h0 h u ∧ ∀ c, c < 42 → h c < lim pl c
theorem Stl.one {nb : Nat → Nat → Nat} {pl : Nat → Bool} {h0 h u h' u' : Nat → Nat} (a : Stl nb pl h0 h u) (b : Stl nb pl h0 h' u') : ∀ c, c < 42 → u c = u' c := by
  intro c hc
  have q := a.1.2.one b.1.2 (fun c _ => Int.natCast_nonneg _) (fun c _ => Int.natCast_nonneg _) (fun c hc => by
    have := a.1.1 c hc
    have := a.2 c hc
    show (h0 c : Int) - lap nb (iN u) c < (lim pl c : Int)
    omega) (fun c hc => by
    have := b.1.1 c hc
    have := b.2 c hc
    show (h0 c : Int) - lap nb (iN u') c < (lim pl c : Int)
    omega) c hc
  exact Int.ofNat.inj q
theorem lap_congr {nb : Nat → Nat → Nat} {u v : Nat → Int} (h : ∀ c, c < 42 → u c = v c) {c : Nat} (hc : c < 42) : lap nb u c = lap nb v c := by
  have key : ∀ s, fw nb u c s = fw nb v c s := by
    intro s
    unfold fw vl
    rw [h c hc]
    split
    · rfl
    · split
      · rw [h _ (by assumption)]
      · rfl
  unfold lap
  rw [key, key, key, key]
theorem Stl.oneH {nb : Nat → Nat → Nat} {pl : Nat → Bool} {h0 h u h' u' : Nat → Nat} (a : Stl nb pl h0 h u) (b : Stl nb pl h0 h' u') : ∀ c, c < 42 → h c = h' c := by
  intro c hc
  have e := a.1.1 c hc
  have e' := b.1.1 c hc
  rw [lap_congr (u := iN u) (v := iN u') (fun d hd => by show (u d : Int) = (u' d : Int); rw [a.one b d hd]) hc] at e
  omega
/-- arrays that hold numbers -/
def HOK (f : Nat → Int32) (h : Nat → Nat) : Prop := ∀ c, c < 42 → f c = nI (h c)
def POK (f : Nat → Int32) (pl : Nat → Bool) : Prop := ∀ c, c < 42 → f c = nI (bn (pl c))
theorem HOK.add {f : Nat → Int32} {h : Nat → Nat} (hf : HOK f h) {d k : Nat} (hd : d ≤ 43) : HOK (addF f 42 (cd d) (nI k)) (addN h d k) := by
  intro c hc
  rw [addF_cd hd]
  unfold addN
  by_cases q : d < 42
  · rw [if_pos q]
    by_cases e : c = d
    · subst e
      rw [upd_at, if_pos rfl, hf c hc, nI_add]
    · rw [upd_ne e, if_neg e, hf c hc]
  · rw [if_neg q, if_neg (by omega), hf c hc]
theorem HOK.set {f : Nat → Int32} {h : Nat → Nat} (hf : HOK f h) {d x : Nat} {v : Int32} (hv : v = nI x) : HOK (upd f d v) (setN h d x) := by
  intro c hc
  unfold setN
  by_cases e : c = d
  · subst e; rw [upd_at, if_pos rfl, hv]
  · rw [upd_ne e, if_neg e, hf c hc]
theorem HOK.add1 {f : Nat → Int32} {h : Nat → Nat} (hf : HOK f h) {d k : Nat} (hd : d < 42) : HOK (upd f d (f d + nI k)) (addN h d k) := by
  intro c hc
  unfold addN
  by_cases e : c = d
  · subst e; rw [upd_at, if_pos rfl, hf c hc, nI_add]
  · rw [upd_ne e, if_neg e, hf c hc]
theorem nI_negmul {a k o : Nat} (h : k * o ≤ a) : nI a + (-(nI k)) * nI o = nI (a - k * o) := by
  have e : nI a = nI (a - k * o) + nI (k * o) := by rw [nI_add]; congr 1; omega
  rw [e, ← pk_mul, Int32.neg_mul, ← Int32.sub_eq_add_neg, Int32.add_sub_cancel]
/-- the number of topplings at once that a cell that is too high needs -/
def oft (nb : Nat → Nat → Nat) (pl : Nat → Bool) (h : Nat → Nat) (c : Nat) : Nat := (h c - lim pl c) / odn nb c 4 + 1
theorem oft_ok {nb : Nat → Nat → Nat} {pl : Nat → Bool} {h : Nat → Nat} {c : Nat} (ho : 0 < odn nb c 4) (hh : lim pl c ≤ h c) : 1 ≤ oft nb pl h c ∧ lim pl c + (oft nb pl h c - 1) * odn nb c 4 ≤ h c ∧ oft nb pl h c * odn nb c 4 ≤ h c ∧ h c - oft nb pl h c * odn nb c 4 < lim pl c := by
  unfold oft
  have h4 := odn_le nb c 4
  have hl := lim_ge pl c
  have q1 : (h c - lim pl c) / odn nb c 4 * odn nb c 4 ≤ h c - lim pl c := Nat.div_mul_le_self _ _
  have q2 : h c - lim pl c < (h c - lim pl c) / odn nb c 4 * odn nb c 4 + odn nb c 4 := by
    have := Nat.lt_div_mul_add (a := h c - lim pl c) ho
    omega
  generalize (h c - lim pl c) / odn nb c 4 = z at q1 q2
  have e : (z + 1) * odn nb c 4 = z * odn nb c 4 + odn nb c 4 := by rw [Nat.add_mul, Nat.one_mul]
  have e2 : z + 1 - 1 = z := by omega
  rw [e, e2]
  exact ⟨by omega, by omega, by omega, by omega⟩
theorem Cn.od {nb : Nat → Nat → Nat} (h : Cn nb) {c : Nat} (hc : c < 42) : 0 < odn nb c 4 := by
  obtain ⟨d, hd⟩ := h
  obtain ⟨-, s, hs, q⟩ := hd c hc
  have hne : nb c s ≠ 43 := by omega
  have e := odn4 nb c
  unfold dg op1 at e
  rcases (show s = 0 ∨ s = 1 ∨ s = 2 ∨ s = 3 by omega) with rfl | rfl | rfl | rfl
  · rw [if_neg hne] at e
    have q1 : (0:Int) ≤ (if nb c 1 = 43 then 0 else 1) := by split <;> omega
    have q2 : (0:Int) ≤ (if nb c 2 = 43 then 0 else 1) := by split <;> omega
    have q3 : (0:Int) ≤ (if nb c 3 = 43 then 0 else 1) := by split <;> omega
    omega
  · rw [if_neg hne] at e
    have q1 : (0:Int) ≤ (if nb c 0 = 43 then 0 else 1) := by split <;> omega
    have q2 : (0:Int) ≤ (if nb c 2 = 43 then 0 else 1) := by split <;> omega
    have q3 : (0:Int) ≤ (if nb c 3 = 43 then 0 else 1) := by split <;> omega
    omega
  · rw [if_neg hne] at e
    have q1 : (0:Int) ≤ (if nb c 0 = 43 then 0 else 1) := by split <;> omega
    have q2 : (0:Int) ≤ (if nb c 1 = 43 then 0 else 1) := by split <;> omega
    have q3 : (0:Int) ≤ (if nb c 3 = 43 then 0 else 1) := by split <;> omega
    omega
  · rw [if_neg hne] at e
    have q1 : (0:Int) ≤ (if nb c 0 = 43 then 0 else 1) := by split <;> omega
    have q2 : (0:Int) ≤ (if nb c 1 = 43 then 0 else 1) := by split <;> omega
    have q3 : (0:Int) ≤ (if nb c 2 = 43 then 0 else 1) := by split <;> omega
    omega
theorem tp_self {nb : Nat → Nat → Nat} (hN : NB nb) {h : Nat → Nat} {c k : Nat} (hc : c < 42) (hk : k * odn nb c 4 ≤ h c) : tp nb h c k c = h c - k * odn nb c 4 := by
  have q := tp_i hk c
  rw [if_pos rfl, lds_self hN hc, ← odn4] at q
  have e : (k : Int) * ((odn nb c 4 : Nat) : Int) = ((k * odn nb c 4 : Nat) : Int) := (Int.natCast_mul _ _).symm
  rw [e] at q
  omega
theorem tp_ge {nb : Nat → Nat → Nat} (hN : NB nb) {h : Nat → Nat} {c k : Nat} (hc : c < 42) (hk : k * odn nb c 4 ≤ h c) {d : Nat} (hd : d ≠ c) : h d ≤ tp nb h c k d := by
  have q := tp_i hk d
  rw [if_neg hd] at q
  have := Int.mul_nonneg (Int.natCast_nonneg k) (lds_le hN hc d)
  omega
theorem tp_far {nb : Nat → Nat → Nat} {h : Nat → Nat} {c k : Nat} {d : Nat} (hd : d ≠ c) (hf : ∀ s, s < 4 → nb c s ≠ d) : tp nb h c k d = h d := by
  unfold tp addN setN
  rw [if_neg (fun q => hf 3 (by omega) q.symm), if_neg (fun q => hf 2 (by omega) q.symm), if_neg (fun q => hf 1 (by omega) q.symm), if_neg (fun q => hf 0 (by omega) q.symm), if_neg hd]
