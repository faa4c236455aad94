/-! rows for the law -/
theorem g_lcmp {Γ : Cxt} {l : Launch} {D : va_G} {tys : List (ClassId × FieldType)} {nL : Nat} {cc : ByteArray} {own : String} {Ts : List Cond} {R : Room} (X : CX Γ l D tys nL cc own Ts R) {k n : Nat} {ws : va_W} {lv : List (Nat × Value)} {pc : Nat} {st : List Value} {x y : Int64} {v : Int32} (hd : decode cc pc = .ok (.lcmp, 1)) (hv : lg_cmp x y = v) (kk : G Γ nL k n ws lv (pc + 1) (.int v :: st)) : G Γ nL k n ws lv pc (.long y :: .long x :: st) := by
  obtain ⟨p, l', e, R', s, m, args, below, meth, c, D', tys', A, Q⟩ := Γ
  obtain ⟨rfl, rfl, rfl, rfl, hx, hb, hml, hown, hts, hK, hA, hlk, hE⟩ := X
  intro H locs ls hP hD hS hh
  subst hv
  exact W.lcmp hx hb hd (kk H locs ls hP hD hS hh)
theorem lg_cmp_self (x : Int64) : lg_cmp x x = nI 0 := by
  unfold lg_cmp
  simp
  try rfl
theorem FlowTo.one {nb : Nat → Nat → Nat} {u v : Nat → Nat} {F A B : Nat → Int32} (a : FlowTo nb u F A) (b : FlowTo nb v F B) (e : ∀ c, c < 42 → u c = v c) : ∀ k, k < 168 → B k = A k := by
  intro k hk
  have q1 := a (k / 4) (k % 4) (by omega) (by omega)
  have q2 := b (k / 4) (k % 4) (by omega) (by omega)
  rw [show k / 4 * 4 + k % 4 = k by omega] at q1 q2
  rw [q1, q2, flI_congr e (by omega)]
theorem HOK.one {f g : Nat → Int32} {h k : Nat → Nat} (a : HOK f h) (b : HOK g k) (e : ∀ c, c < 42 → h c = k c) : ∀ c, c < 42 → g c = f c := fun c hc => by rw [a c hc, b c hc, e c hc]
theorem top_one {T T2 T5 : Nat → Int32} {u v : Nat → Nat} (a : HOK T2 u) (b : ∀ c, c < 42 → T5 c = T c + nI (v c)) (e : ∀ c, c < 42 → u c = v c) : ∀ c, c < 42 → T5 c = (fun j => T j + T2 j) c := fun c hc => by rw [b c hc]; show _ = T c + T2 c; rw [a c hc, e c hc]
theorem POK.one {f g : Nat → Int32} {V : Nat → Bool} (a : POK f V) (b : POK g V) : ∀ c, c < 42 → g c = f c := fun c hc => by rw [a c hc, b c hc]
/-- the script: a cell that is no part of the world -/
def SX (Γ : Cxt) (b L : Nat) (xs : Nat → Int32) : Prop := match Γ with
  | (_, _, _, _, s, _, _, _, _, _, _, _, A, _) => va_X b L xs s s.heap ∧ b < s.heap.size ∧ ¬ A b
theorem g_sldN {Γ : Cxt} {l : Launch} {D : va_G} {tys : List (ClassId × FieldType)} {nL : Nat} {cc : ByteArray} {own : String} {Ts : List Cond} {R : Room} (X : CX Γ l D tys nL cc own Ts R) {k n : Nat} {ws : va_W} {lv : List (Nat × Value)} {pc : Nat} {st : List Value} {b L i : Nat} {xs : Nat → Int32} {v : Int32} (S : SX Γ b L xs) (hd : decode cc pc = .ok (.iaload, 1)) (hi : i < L) (hL : L < 2 ^ 31) (hv : xs i = v) (kk : G Γ nL k n ws lv (pc + 1) (.int v :: st)) : G Γ nL k n ws lv pc (.int (nI i) :: .ref b :: st) := by
  obtain ⟨p, l', e, R', s, m, args, below, meth, c, D', tys', A, Q⟩ := Γ
  obtain ⟨rfl, rfl, rfl, rfl, hx, hb, hml, hown, hts, hK, hA, hlk, hE⟩ := X
  obtain ⟨hX, hbl, hbA⟩ := S
  intro H locs ls hP hD hS hh
  refine va_sld hx hb hX hbl hbA hS (vp_in_nI hi hL) hd ?_
  rw [nI_clamp (Nat.lt_trans hi hL), hv]
  exact kk H locs ls hP hD hS hh
theorem g_slen {Γ : Cxt} {l : Launch} {D : va_G} {tys : List (ClassId × FieldType)} {nL : Nat} {cc : ByteArray} {own : String} {Ts : List Cond} {R : Room} (X : CX Γ l D tys nL cc own Ts R) {k n : Nat} {ws : va_W} {lv : List (Nat × Value)} {pc : Nat} {st : List Value} {b L : Nat} {xs : Nat → Int32} {v : Int32} (S : SX Γ b L xs) (hd : decode cc pc = .ok (.arraylength, 1)) (hv : Int32.ofNat L = v) (kk : G Γ nL k n ws lv (pc + 1) (.int v :: st)) : G Γ nL k n ws lv pc (.ref b :: st) := by
  obtain ⟨p, l', e, R', s, m, args, below, meth, c, D', tys', A, Q⟩ := Γ
  obtain ⟨rfl, rfl, rfl, rfl, hx, hb, hml, hown, hts, hK, hA, hlk, hE⟩ := X
  obtain ⟨hX, hbl, hbA⟩ := S
  intro H locs ls hP hD hS hh
  refine va_slen hx hb hX hbl hbA hS hd ?_
  rw [hv]
  exact kk H locs ls hP hD hS hh
