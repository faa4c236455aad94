/-! G: the kit's judgement W, said of any heap that holds the world ws and any locals that hold lv; so that a point of a walk is data. -/
def nests : List Cond := [.fieldLinkNest "Sandpiper" 102 "Sandpiper$Slide" "times" "LSandpiper$Numbers;" "Sandpiper",
 .fieldLinkNest "Sandpiper" 149 "Sandpiper$Grid" "walls" "I" "Sandpiper",
 .fieldLinkNest "Sandpiper" 181 "Sandpiper$Script" "steps" "I" "Sandpiper",
 .fieldLinkNest "Sandpiper" 193 "Sandpiper$Sands" "inSea" "I" "Sandpiper",
 .fieldLinkNest "Sandpiper" 196 "Sandpiper$Script" "columns" "LSandpiper$Numbers;" "Sandpiper",
 .fieldLinkNest "Sandpiper" 199 "Sandpiper$Script" "energies" "LSandpiper$Numbers;" "Sandpiper",
 .fieldLinkNest "Sandpiper" 202 "Sandpiper$Sands" "carried" "LSandpiper$Numbers;" "Sandpiper",
 .fieldLinkNest "Sandpiper" 205 "Sandpiper$Sands" "flows" "LSandpiper$Numbers;" "Sandpiper",
 .fieldLinkNest "Sandpiper" 211 "Sandpiper$Sands" "toppled" "LSandpiper$Numbers;" "Sandpiper",
 .fieldLinkNest "Sandpiper" 228 "Sandpiper$Flood" "wet" "LSandpiper$Numbers;" "Sandpiper",
 .fieldLinkNest "Sandpiper" 231 "Sandpiper$Sands" "inAll" "I" "Sandpiper",
 .fieldLinkNest "Sandpiper" 254 "Sandpiper$Slide" "heights" "LSandpiper$Numbers;" "Sandpiper",
 .fieldLinkNest "Sandpiper" 61 "Sandpiper$Sands" "heights" "LSandpiper$Numbers;" "Sandpiper",
 .fieldLinkNest "Sandpiper$Sands" 57 "Sandpiper$Slide" "heights" "LSandpiper$Numbers;" "Sandpiper",
 .fieldLinkNest "Sandpiper$Sands" 61 "Sandpiper$Slide" "times" "LSandpiper$Numbers;" "Sandpiper",
 .fieldLinkNest "Sandpiper$Wave" 48 "Sandpiper$Sands" "inSea" "I" "Sandpiper",
 .fieldLinkNest "Sandpiper$Wave" 59 "Sandpiper$Sands" "heights" "LSandpiper$Numbers;" "Sandpiper",
 .methodLinkNest "Sandpiper" 54 yX5_init "Sandpiper",
 .methodLinkNest "Sandpiper$CellQueue" 33 yX8_isCell "Sandpiper",
 .methodLinkNest "Sandpiper$Flood" 22 yX0_init "Sandpiper",
 .methodLinkNest "Sandpiper$Flood" 59 yX8_isCell "Sandpiper",
 .methodLinkNest "Sandpiper$Grid" 20 yX8_placeOf "Sandpiper",
 .methodLinkNest "Sandpiper$Grid" 42 yX8_isCell "Sandpiper",
 .methodLinkNest "Sandpiper$Grid" 46 yX8_opposite "Sandpiper",
 .methodLinkNest "Sandpiper$Sands" 86 yX8_placeOf "Sandpiper",
 .methodLinkNest "Sandpiper$Slide" 25 yX0_init "Sandpiper",
 .methodLinkNest "Sandpiper$Slide" 73 yX8_isCell "Sandpiper",
 .methodLinkNest "Sandpiper$Wave" 37 yX8_numberOf "Sandpiper",
 .castable "java/lang/IndexOutOfBoundsException" "java/lang/IndexOutOfBoundsException",
 .castable "java/lang/IllegalArgumentException" "java/lang/IllegalArgumentException",
 .castable "java/lang/IllegalStateException" "java/lang/IllegalStateException",
 .castable "java/util/NoSuchElementException" "java/util/NoSuchElementException",
 .castable "java/lang/UnsupportedOperationException" "java/lang/UnsupportedOperationException",
 .declares (Bundle.initS "java/lang/RuntimeException"), .declares (Bundle.initS "java/lang/Exception"), .declares (Bundle.initS "java/lang/Throwable")]
/-- a class of exceptions that another's handler doesn't take -/
def ncs : List (String × String) := [("java/lang/IllegalArgumentException", "java/lang/IndexOutOfBoundsException"), ("java/util/NoSuchElementException", "java/lang/IndexOutOfBoundsException"), ("java/util/NoSuchElementException", "java/lang/IllegalArgumentException"), ("java/lang/IllegalStateException", "java/lang/IndexOutOfBoundsException"), ("java/lang/IllegalStateException", "java/lang/IllegalArgumentException"), ("java/lang/UnsupportedOperationException", "java/lang/IndexOutOfBoundsException"), ("java/lang/UnsupportedOperationException", "java/lang/IllegalArgumentException"), ("java/lang/UnsupportedOperationException", "java/lang/IllegalStateException")]
def strs : List (Nat × String) := [(116, "the cell is planted"), (122, "the cell is not planted"), (132, "the side is closed"), (146, "a cell would have no way to the sea"), (156, "there is no wall on this side"), (169, "the least number of grains is not between 1 and 9"), (184, "the storm has 8 steps"), (189, "the number of times is not between 1 and 5"), (191, "the storm has no steps"), (237, "there is no such cell"), (240, "there is no such side"), (242, "there is no such column"), (244, "the number of grains is not between 1 and 60"), (246, "the energy is not between 1 and 60"), (248, "the level is not between 0 and 20"), (90, "the cell has fewer grains")]
/-- what holds of the machine's tables all along: links to nest mates' private members, the texts -/
def EnvS (U : State) : Prop := (∀ w ∈ nests, va_Nw w U) ∧ (∀ q ∈ strs, ∃ a : Nat, vk_R RX8 q.1 q.2 a U) ∧ ∀ q ∈ ncs, va_Nc q.1 q.2 U
def nestOk (w : Cond) : Prop := w.onTables = true ∧ ∀ s U : State, s.WarmedH U.vm → va_Nw w s → va_Nw w U
theorem nestOkF {a : String} {i : Nat} {b n d h : String} : nestOk (.fieldLinkNest a i b n d h) := ⟨rfl, fun _ _ hW hZ => va_Nw.warmF hW hZ⟩
theorem nestOkM {a : String} {i : Nat} {x : MethodName} {h : String} : nestOk (.methodLinkNest a i x h) := ⟨rfl, fun _ _ hW hZ => va_Nw.warmM hW hZ⟩
theorem nestOkC {C T : String} : nestOk (.castable C T) := ⟨rfl, fun _ _ hW hZ => va_Nw.warmC hW hZ⟩
theorem nestOkD {x : MethodName} : nestOk (.declares x) := ⟨rfl, fun s U hW hZ => va_tabs rfl (rfl : (s.setVm U.vm).vm = U.vm) (by rw [Cond.declares_setVm hW.alike]; exact hZ)⟩
theorem nests_ok : ∀ w ∈ nests, nestOk w := by
  intro w hw
  simp only [nests, List.mem_cons, List.not_mem_nil, or_false] at hw
  rcases hw with rfl | rfl | rfl | rfl | rfl | rfl | rfl | rfl | rfl | rfl | rfl | rfl | rfl | rfl | rfl | rfl | rfl | rfl | rfl | rfl | rfl | rfl | rfl | rfl | rfl | rfl | rfl | rfl | rfl | rfl | rfl | rfl | rfl | rfl | rfl | rfl <;> first | exact nestOkF | exact nestOkM | exact nestOkC | exact nestOkD
theorem EnvS.warm {s U : State} (hW : s.WarmedH U.vm) (h : EnvS s) : EnvS U := ⟨fun w hw => (nests_ok w hw).2 s U hW (h.1 w hw), fun q hq => by obtain ⟨a, ha⟩ := h.2.1 q hq; exact ⟨a, vk_R.warm hW ha⟩, fun q hq => (h.2.2 q hq).moved hW.alike⟩
theorem EnvS.same {u U : State} (hv : U.vm = u.vm) (h : EnvS u) : EnvS U := ⟨fun w hw => va_Nw.same (nests_ok w hw).1 hv.symm (h.1 w hw), fun q hq => by obtain ⟨a, ha⟩ := h.2.1 q hq; exact ⟨a, vk_R.same hv ha⟩, fun q hq => (h.2.2 q hq).moved (by rw [hv]; exact Vm.Alike.refl _)⟩
theorem EnvS.nest {U : State} (h : EnvS U) {A : Array Value} (i : Nat) {w : Cond} (hw : nests[i]? = some w) : w.before A U = true := va_Nw.use (nests_ok w (List.mem_of_getElem? hw)).1 (h.1 w (List.mem_of_getElem? hw))
theorem EnvS.nestN {U : State} (h : EnvS U) (i : Nat) {w : Cond} (hw : nests[i]? = some w) : va_Nw w U := h.1 w (List.mem_of_getElem? hw)
/-- the arrays' classes -/
abbrev tY (ai az al : ClassId) : List (ClassId × FieldType) := [(ai, .int), (az, .boolean), (al, .long)]
/-- all that stays the same while a method runs -/
abbrev Cxt : Type := Program × Launch × Env × Room × State × MethodId × Array Value × List Frame × Method × Code × va_G × List (ClassId × FieldType) × (Nat → Prop) × (State → Prop)
def CX (Γ : Cxt) (l : Launch) (D : va_G) (tys : List (ClassId × FieldType)) (nL : Nat) (cc : ByteArray) (own : String) (Ts : List Cond) (R : Room) : Prop :=
  match Γ with
  | (p, l', _, R', s, m, args, _, meth, c, D', tys', A, _) => l' = l ∧ D' = D ∧ tys' = tys ∧ R' = R ∧ p.tables.exec = Jvm.exec ∧ c.code = cc ∧ c.maxLocals = nL ∧ s.vm.findClass own = some m.cls ∧ (∀ w ∈ Ts, w.before args s = true) ∧ va_K D vwCl tys s ∧ (∀ q : Nat, s.heap.size ≤ q → A q) ∧ meth.locks = false ∧ EnvS s
def G (Γ : Cxt) (nL k n : Nat) (ws : va_W) (lv : List (Nat × Value)) (pc : Nat) (st : List Value) : Prop :=
  match Γ with
  | (p, l, e, R, s, m, args, below, meth, c, D, _, A, Q) => ∀ (H : Heap) (locs : List Loc) (ls : Array Slot), va_P D vwCl ws H → va_D A ws → va_S A s.heap H locs → lv_has ls nL lv → W p l e R s m args below meth c H locs k n Q (F0 m pc ls st)

theorem g_iconst {Γ : Cxt} {l : Launch} {D : va_G} {tys : List (ClassId × FieldType)} {nL : Nat} {cc : ByteArray} {own : String} {Ts : List Cond} {R : Room} (X : CX Γ l D tys nL cc own Ts R) {k n : Nat} {ws : va_W} {lv : List (Nat × Value)} {pc : Nat} {st : List Value} {z : Int} {v : Int32} (hd : decode cc pc = .ok (.iconst z, 1)) (hv : Int32.ofInt z = v) (kk : G Γ nL k n ws lv (pc + 1) (.int v :: st)) : G Γ nL k n ws lv pc (st) := by
  obtain ⟨p, l', e, R', s, m, args, below, meth, c, D', tys', A, Q⟩ := Γ
  obtain ⟨rfl, rfl, rfl, rfl, hx, hb, hml, hown, hts, hK, hA, hlk, hE⟩ := X
  intro H locs ls hP hD hS hh
  exact lv_iconst hx hb hd hv (kk H locs ls hP hD hS hh)
theorem g_bipush {Γ : Cxt} {l : Launch} {D : va_G} {tys : List (ClassId × FieldType)} {nL : Nat} {cc : ByteArray} {own : String} {Ts : List Cond} {R : Room} (X : CX Γ l D tys nL cc own Ts R) {k n : Nat} {ws : va_W} {lv : List (Nat × Value)} {pc : Nat} {st : List Value} {z : Int} {v : Int32} (hd : decode cc pc = .ok (.bipush z, 2)) (hv : (Int8.ofInt z).toInt32 = v) (kk : G Γ nL k n ws lv (pc + 2) (.int v :: st)) : G Γ nL k n ws lv pc (st) := by
  obtain ⟨p, l', e, R', s, m, args, below, meth, c, D', tys', A, Q⟩ := Γ
  obtain ⟨rfl, rfl, rfl, rfl, hx, hb, hml, hown, hts, hK, hA, hlk, hE⟩ := X
  intro H locs ls hP hD hS hh
  exact lv_bipush hx hb hd hv (kk H locs ls hP hD hS hh)
theorem g_sipush {Γ : Cxt} {l : Launch} {D : va_G} {tys : List (ClassId × FieldType)} {nL : Nat} {cc : ByteArray} {own : String} {Ts : List Cond} {R : Room} (X : CX Γ l D tys nL cc own Ts R) {k n : Nat} {ws : va_W} {lv : List (Nat × Value)} {pc : Nat} {st : List Value} {z : Int} {v : Int32} (hd : decode cc pc = .ok (.sipush z, 3)) (hv : (Int16.ofInt z).toInt32 = v) (kk : G Γ nL k n ws lv (pc + 3) (.int v :: st)) : G Γ nL k n ws lv pc (st) := by
  obtain ⟨p, l', e, R', s, m, args, below, meth, c, D', tys', A, Q⟩ := Γ
  obtain ⟨rfl, rfl, rfl, rfl, hx, hb, hml, hown, hts, hK, hA, hlk, hE⟩ := X
  intro H locs ls hP hD hS hh
  exact lv_sipush hx hb hd hv (kk H locs ls hP hD hS hh)
theorem g_lconst {Γ : Cxt} {l : Launch} {D : va_G} {tys : List (ClassId × FieldType)} {nL : Nat} {cc : ByteArray} {own : String} {Ts : List Cond} {R : Room} (X : CX Γ l D tys nL cc own Ts R) {k n : Nat} {ws : va_W} {lv : List (Nat × Value)} {pc : Nat} {st : List Value} {z : Fin 2} {v : Int64} (hd : decode cc pc = .ok (.lconst z, 1)) (hv : Int64.ofNat (z : Nat) = v) (kk : G Γ nL k n ws lv (pc + 1) (.long v :: st)) : G Γ nL k n ws lv pc (st) := by
  obtain ⟨p, l', e, R', s, m, args, below, meth, c, D', tys', A, Q⟩ := Γ
  obtain ⟨rfl, rfl, rfl, rfl, hx, hb, hml, hown, hts, hK, hA, hlk, hE⟩ := X
  intro H locs ls hP hD hS hh
  exact lv_lconst hx hb hd hv (kk H locs ls hP hD hS hh)
theorem g_ldc {Γ : Cxt} {l : Launch} {D : va_G} {tys : List (ClassId × FieldType)} {nL : Nat} {cc : ByteArray} {own : String} {Ts : List Cond} {R : Room} (X : CX Γ l D tys nL cc own Ts R) {k n : Nat} {ws : va_W} {lv : List (Nat × Value)} {pc : Nat} {st : List Value} {ix : Nat} {v : Int32} (hd : decode cc pc = .ok (.ldc ix, 2)) (hc : Cond.constant own ix v ∈ Ts) (kk : G Γ nL k n ws lv (pc + 2) (.int v :: st)) : G Γ nL k n ws lv pc (st) := by
  obtain ⟨p, l', e, R', s, m, args, below, meth, c, D', tys', A, Q⟩ := Γ
  obtain ⟨rfl, rfl, rfl, rfl, hx, hb, hml, hown, hts, hK, hA, hlk, hE⟩ := X
  intro H locs ls hP hD hS hh
  exact lv_ldc hx hb hown (hts _ hc) hd (kk H locs ls hP hD hS hh)
theorem g_iload {Γ : Cxt} {l : Launch} {D : va_G} {tys : List (ClassId × FieldType)} {nL : Nat} {cc : ByteArray} {own : String} {Ts : List Cond} {R : Room} (X : CX Γ l D tys nL cc own Ts R) {k n : Nat} {ws : va_W} {lv : List (Nat × Value)} {pc : Nat} {st : List Value} {i : Nat} {x : Int32} (hd : decode cc pc = .ok (.iload i, 2)) (j : Nat) (hl : lv[j]? = some (i, .int x)) (kk : G Γ nL k n ws lv (pc + 2) (.int x :: st)) : G Γ nL k n ws lv pc (st) := by
  obtain ⟨p, l', e, R', s, m, args, below, meth, c, D', tys', A, Q⟩ := Γ
  obtain ⟨rfl, rfl, rfl, rfl, hx, hb, hml, hown, hts, hK, hA, hlk, hE⟩ := X
  intro H locs ls hP hD hS hh
  exact lv_iload hx hb hd (lv_at hh j hl) (kk H locs ls hP hD hS hh)
theorem g_aload {Γ : Cxt} {l : Launch} {D : va_G} {tys : List (ClassId × FieldType)} {nL : Nat} {cc : ByteArray} {own : String} {Ts : List Cond} {R : Room} (X : CX Γ l D tys nL cc own Ts R) {k n : Nat} {ws : va_W} {lv : List (Nat × Value)} {pc : Nat} {st : List Value} {i : Nat} {x : Nat} (hd : decode cc pc = .ok (.aload i, 2)) (j : Nat) (hl : lv[j]? = some (i, .ref x)) (kk : G Γ nL k n ws lv (pc + 2) (.ref x :: st)) : G Γ nL k n ws lv pc (st) := by
  obtain ⟨p, l', e, R', s, m, args, below, meth, c, D', tys', A, Q⟩ := Γ
  obtain ⟨rfl, rfl, rfl, rfl, hx, hb, hml, hown, hts, hK, hA, hlk, hE⟩ := X
  intro H locs ls hP hD hS hh
  exact lv_aload hx hb hd (lv_at hh j hl) (kk H locs ls hP hD hS hh)
theorem g_dload {Γ : Cxt} {l : Launch} {D : va_G} {tys : List (ClassId × FieldType)} {nL : Nat} {cc : ByteArray} {own : String} {Ts : List Cond} {R : Room} (X : CX Γ l D tys nL cc own Ts R) {k n : Nat} {ws : va_W} {lv : List (Nat × Value)} {pc : Nat} {st : List Value} {i : Nat} {x : UInt64} (hd : decode cc pc = .ok (.dload i, 2)) (j : Nat) (hl : lv[j]? = some (i, .double x)) (kk : G Γ nL k n ws lv (pc + 2) (.double x :: st)) : G Γ nL k n ws lv pc (st) := by
  obtain ⟨p, l', e, R', s, m, args, below, meth, c, D', tys', A, Q⟩ := Γ
  obtain ⟨rfl, rfl, rfl, rfl, hx, hb, hml, hown, hts, hK, hA, hlk, hE⟩ := X
  intro H locs ls hP hD hS hh
  exact lv_dload hx hb hd (lv_at hh j hl) (kk H locs ls hP hD hS hh)
theorem g_iload_n {Γ : Cxt} {l : Launch} {D : va_G} {tys : List (ClassId × FieldType)} {nL : Nat} {cc : ByteArray} {own : String} {Ts : List Cond} {R : Room} (X : CX Γ l D tys nL cc own Ts R) {k n : Nat} {ws : va_W} {lv : List (Nat × Value)} {pc : Nat} {st : List Value} {q : Fin 4} {i : Nat} {x : Int32} (hd : decode cc pc = .ok (.iload_n q, 1)) (hi : (q : Nat) = i) (j : Nat) (hl : lv[j]? = some (i, .int x)) (kk : G Γ nL k n ws lv (pc + 1) (.int x :: st)) : G Γ nL k n ws lv pc (st) := by
  obtain ⟨p, l', e, R', s, m, args, below, meth, c, D', tys', A, Q⟩ := Γ
  obtain ⟨rfl, rfl, rfl, rfl, hx, hb, hml, hown, hts, hK, hA, hlk, hE⟩ := X
  intro H locs ls hP hD hS hh
  exact lv_iload_n hx hb hd hi (lv_at hh j hl) (kk H locs ls hP hD hS hh)
theorem g_aload_n {Γ : Cxt} {l : Launch} {D : va_G} {tys : List (ClassId × FieldType)} {nL : Nat} {cc : ByteArray} {own : String} {Ts : List Cond} {R : Room} (X : CX Γ l D tys nL cc own Ts R) {k n : Nat} {ws : va_W} {lv : List (Nat × Value)} {pc : Nat} {st : List Value} {q : Fin 4} {i : Nat} {x : Nat} (hd : decode cc pc = .ok (.aload_n q, 1)) (hi : (q : Nat) = i) (j : Nat) (hl : lv[j]? = some (i, .ref x)) (kk : G Γ nL k n ws lv (pc + 1) (.ref x :: st)) : G Γ nL k n ws lv pc (st) := by
  obtain ⟨p, l', e, R', s, m, args, below, meth, c, D', tys', A, Q⟩ := Γ
  obtain ⟨rfl, rfl, rfl, rfl, hx, hb, hml, hown, hts, hK, hA, hlk, hE⟩ := X
  intro H locs ls hP hD hS hh
  exact lv_aload_n hx hb hd hi (lv_at hh j hl) (kk H locs ls hP hD hS hh)
theorem g_istore {Γ : Cxt} {l : Launch} {D : va_G} {tys : List (ClassId × FieldType)} {nL : Nat} {cc : ByteArray} {own : String} {Ts : List Cond} {R : Room} (X : CX Γ l D tys nL cc own Ts R) {k n : Nat} {ws : va_W} {lv : List (Nat × Value)} {pc : Nat} {st : List Value} {i : Nat} {x : Int32} {lv' : List (Nat × Value)} (hd : decode cc pc = .ok (.istore i, 2)) (hn : i < nL) (hl : (i, Value.int x) :: lv.filter (fun q => !(q.1 == i) && !(q.1 + 1 == i && q.2.category == 2)) = lv') (kk : G Γ nL k n ws lv' (pc + 2) (st)) : G Γ nL k n ws lv pc (Value.int x :: st) := by
  obtain ⟨p, l', e, R', s, m, args, below, meth, c, D', tys', A, Q⟩ := Γ
  obtain ⟨rfl, rfl, rfl, rfl, hx, hb, hml, hown, hts, hK, hA, hlk, hE⟩ := X
  intro H locs ls hP hD hS hh
  exact lv_istore hx hb hd hh hn hl (fun ls hh => kk H locs ls hP hD hS hh)
theorem g_istore_n {Γ : Cxt} {l : Launch} {D : va_G} {tys : List (ClassId × FieldType)} {nL : Nat} {cc : ByteArray} {own : String} {Ts : List Cond} {R : Room} (X : CX Γ l D tys nL cc own Ts R) {k n : Nat} {ws : va_W} {lv : List (Nat × Value)} {pc : Nat} {st : List Value} {q : Fin 4} {i : Nat} {x : Int32} {lv' : List (Nat × Value)} (hd : decode cc pc = .ok (.istore_n q, 1)) (hi : (q : Nat) = i) (hn : i < nL) (hl : (i, Value.int x) :: lv.filter (fun q => !(q.1 == i) && !(q.1 + 1 == i && q.2.category == 2)) = lv') (kk : G Γ nL k n ws lv' (pc + 1) (st)) : G Γ nL k n ws lv pc (Value.int x :: st) := by
  obtain ⟨p, l', e, R', s, m, args, below, meth, c, D', tys', A, Q⟩ := Γ
  obtain ⟨rfl, rfl, rfl, rfl, hx, hb, hml, hown, hts, hK, hA, hlk, hE⟩ := X
  intro H locs ls hP hD hS hh
  exact lv_istore_n hx hb hd hi hh hn hl (fun ls hh => kk H locs ls hP hD hS hh)
theorem g_astore {Γ : Cxt} {l : Launch} {D : va_G} {tys : List (ClassId × FieldType)} {nL : Nat} {cc : ByteArray} {own : String} {Ts : List Cond} {R : Room} (X : CX Γ l D tys nL cc own Ts R) {k n : Nat} {ws : va_W} {lv : List (Nat × Value)} {pc : Nat} {st : List Value} {i : Nat} {x : Nat} {lv' : List (Nat × Value)} (hd : decode cc pc = .ok (.astore i, 2)) (hn : i < nL) (hl : (i, Value.ref x) :: lv.filter (fun q => !(q.1 == i) && !(q.1 + 1 == i && q.2.category == 2)) = lv') (kk : G Γ nL k n ws lv' (pc + 2) (st)) : G Γ nL k n ws lv pc (Value.ref x :: st) := by
  obtain ⟨p, l', e, R', s, m, args, below, meth, c, D', tys', A, Q⟩ := Γ
  obtain ⟨rfl, rfl, rfl, rfl, hx, hb, hml, hown, hts, hK, hA, hlk, hE⟩ := X
  intro H locs ls hP hD hS hh
  exact lv_astore hx hb hd hh hn hl (fun ls hh => kk H locs ls hP hD hS hh)
theorem g_astore_n {Γ : Cxt} {l : Launch} {D : va_G} {tys : List (ClassId × FieldType)} {nL : Nat} {cc : ByteArray} {own : String} {Ts : List Cond} {R : Room} (X : CX Γ l D tys nL cc own Ts R) {k n : Nat} {ws : va_W} {lv : List (Nat × Value)} {pc : Nat} {st : List Value} {q : Fin 4} {i : Nat} {x : Nat} {lv' : List (Nat × Value)} (hd : decode cc pc = .ok (.astore_n q, 1)) (hi : (q : Nat) = i) (hn : i < nL) (hl : (i, Value.ref x) :: lv.filter (fun q => !(q.1 == i) && !(q.1 + 1 == i && q.2.category == 2)) = lv') (kk : G Γ nL k n ws lv' (pc + 1) (st)) : G Γ nL k n ws lv pc (Value.ref x :: st) := by
  obtain ⟨p, l', e, R', s, m, args, below, meth, c, D', tys', A, Q⟩ := Γ
  obtain ⟨rfl, rfl, rfl, rfl, hx, hb, hml, hown, hts, hK, hA, hlk, hE⟩ := X
  intro H locs ls hP hD hS hh
  exact lv_astore_n hx hb hd hi hh hn hl (fun ls hh => kk H locs ls hP hD hS hh)
theorem g_dstore {Γ : Cxt} {l : Launch} {D : va_G} {tys : List (ClassId × FieldType)} {nL : Nat} {cc : ByteArray} {own : String} {Ts : List Cond} {R : Room} (X : CX Γ l D tys nL cc own Ts R) {k n : Nat} {ws : va_W} {lv : List (Nat × Value)} {pc : Nat} {st : List Value} {i : Nat} {x : UInt64} {lv' : List (Nat × Value)} (hd : decode cc pc = .ok (.dstore i, 2)) (hn : i + 1 < nL) (hl : (i, Value.double x) :: lv.filter (fun q => !(q.1 == i) && (!(q.1 == i + 1) && !(q.1 + 1 == i && q.2.category == 2))) = lv') (kk : G Γ nL k n ws lv' (pc + 2) (st)) : G Γ nL k n ws lv pc (Value.double x :: st) := by
  obtain ⟨p, l', e, R', s, m, args, below, meth, c, D', tys', A, Q⟩ := Γ
  obtain ⟨rfl, rfl, rfl, rfl, hx, hb, hml, hown, hts, hK, hA, hlk, hE⟩ := X
  intro H locs ls hP hD hS hh
  exact lv_dstore hx hb hd hh hn hl (fun ls hh => kk H locs ls hP hD hS hh)
theorem g_iinc {Γ : Cxt} {l : Launch} {D : va_G} {tys : List (ClassId × FieldType)} {nL : Nat} {cc : ByteArray} {own : String} {Ts : List Cond} {R : Room} (X : CX Γ l D tys nL cc own Ts R) {k n : Nat} {ws : va_W} {lv : List (Nat × Value)} {pc : Nat} {st : List Value} {i : Nat} {z : Int} {x v : Int32} {lv' : List (Nat × Value)} (hd : decode cc pc = .ok (.iinc i z, 3)) (j : Nat) (hk : lv[j]? = some (i, .int x)) (hv : x + Int32.ofInt z = v) (hn : i < nL) (hl : (i, Value.int v) :: lv.filter (fun q => !(q.1 == i) && !(q.1 + 1 == i && q.2.category == 2)) = lv') (kk : G Γ nL k n ws lv' (pc + 3) (st)) : G Γ nL k n ws lv pc (st) := by
  obtain ⟨p, l', e, R', s, m, args, below, meth, c, D', tys', A, Q⟩ := Γ
  obtain ⟨rfl, rfl, rfl, rfl, hx, hb, hml, hown, hts, hK, hA, hlk, hE⟩ := X
  intro H locs ls hP hD hS hh
  exact lv_iinc hx hb hd hh (k := j) hk hv hn hl (fun ls hh => kk H locs ls hP hD hS hh)
theorem g_iadd {Γ : Cxt} {l : Launch} {D : va_G} {tys : List (ClassId × FieldType)} {nL : Nat} {cc : ByteArray} {own : String} {Ts : List Cond} {R : Room} (X : CX Γ l D tys nL cc own Ts R) {k n : Nat} {ws : va_W} {lv : List (Nat × Value)} {pc : Nat} {st : List Value} {x y v : Int32} (hd : decode cc pc = .ok (.iadd, 1)) (hv : x + y = v) (kk : G Γ nL k n ws lv (pc + 1) (.int v :: st)) : G Γ nL k n ws lv pc (.int y :: .int x :: st) := by
  obtain ⟨p, l', e, R', s, m, args, below, meth, c, D', tys', A, Q⟩ := Γ
  obtain ⟨rfl, rfl, rfl, rfl, hx, hb, hml, hown, hts, hK, hA, hlk, hE⟩ := X
  intro H locs ls hP hD hS hh
  subst hv
  exact lv_iadd hx hb hd (kk H locs ls hP hD hS hh)
theorem g_isub {Γ : Cxt} {l : Launch} {D : va_G} {tys : List (ClassId × FieldType)} {nL : Nat} {cc : ByteArray} {own : String} {Ts : List Cond} {R : Room} (X : CX Γ l D tys nL cc own Ts R) {k n : Nat} {ws : va_W} {lv : List (Nat × Value)} {pc : Nat} {st : List Value} {x y v : Int32} (hd : decode cc pc = .ok (.isub, 1)) (hv : x - y = v) (kk : G Γ nL k n ws lv (pc + 1) (.int v :: st)) : G Γ nL k n ws lv pc (.int y :: .int x :: st) := by
  obtain ⟨p, l', e, R', s, m, args, below, meth, c, D', tys', A, Q⟩ := Γ
  obtain ⟨rfl, rfl, rfl, rfl, hx, hb, hml, hown, hts, hK, hA, hlk, hE⟩ := X
  intro H locs ls hP hD hS hh
  subst hv
  exact lv_isub hx hb hd (kk H locs ls hP hD hS hh)
theorem g_imul {Γ : Cxt} {l : Launch} {D : va_G} {tys : List (ClassId × FieldType)} {nL : Nat} {cc : ByteArray} {own : String} {Ts : List Cond} {R : Room} (X : CX Γ l D tys nL cc own Ts R) {k n : Nat} {ws : va_W} {lv : List (Nat × Value)} {pc : Nat} {st : List Value} {x y v : Int32} (hd : decode cc pc = .ok (.imul, 1)) (hv : x * y = v) (kk : G Γ nL k n ws lv (pc + 1) (.int v :: st)) : G Γ nL k n ws lv pc (.int y :: .int x :: st) := by
  obtain ⟨p, l', e, R', s, m, args, below, meth, c, D', tys', A, Q⟩ := Γ
  obtain ⟨rfl, rfl, rfl, rfl, hx, hb, hml, hown, hts, hK, hA, hlk, hE⟩ := X
  intro H locs ls hP hD hS hh
  subst hv
  exact lv_imul hx hb hd (kk H locs ls hP hD hS hh)
theorem g_iand {Γ : Cxt} {l : Launch} {D : va_G} {tys : List (ClassId × FieldType)} {nL : Nat} {cc : ByteArray} {own : String} {Ts : List Cond} {R : Room} (X : CX Γ l D tys nL cc own Ts R) {k n : Nat} {ws : va_W} {lv : List (Nat × Value)} {pc : Nat} {st : List Value} {x y v : Int32} (hd : decode cc pc = .ok (.iand, 1)) (hv : x &&& y = v) (kk : G Γ nL k n ws lv (pc + 1) (.int v :: st)) : G Γ nL k n ws lv pc (.int y :: .int x :: st) := by
  obtain ⟨p, l', e, R', s, m, args, below, meth, c, D', tys', A, Q⟩ := Γ
  obtain ⟨rfl, rfl, rfl, rfl, hx, hb, hml, hown, hts, hK, hA, hlk, hE⟩ := X
  intro H locs ls hP hD hS hh
  subst hv
  exact lv_iand hx hb hd (kk H locs ls hP hD hS hh)
theorem g_ixor {Γ : Cxt} {l : Launch} {D : va_G} {tys : List (ClassId × FieldType)} {nL : Nat} {cc : ByteArray} {own : String} {Ts : List Cond} {R : Room} (X : CX Γ l D tys nL cc own Ts R) {k n : Nat} {ws : va_W} {lv : List (Nat × Value)} {pc : Nat} {st : List Value} {x y v : Int32} (hd : decode cc pc = .ok (.ixor, 1)) (hv : x ^^^ y = v) (kk : G Γ nL k n ws lv (pc + 1) (.int v :: st)) : G Γ nL k n ws lv pc (.int y :: .int x :: st) := by
  obtain ⟨p, l', e, R', s, m, args, below, meth, c, D', tys', A, Q⟩ := Γ
  obtain ⟨rfl, rfl, rfl, rfl, hx, hb, hml, hown, hts, hK, hA, hlk, hE⟩ := X
  intro H locs ls hP hD hS hh
  subst hv
  exact lv_ixor hx hb hd (kk H locs ls hP hD hS hh)
theorem g_idiv {Γ : Cxt} {l : Launch} {D : va_G} {tys : List (ClassId × FieldType)} {nL : Nat} {cc : ByteArray} {own : String} {Ts : List Cond} {R : Room} (X : CX Γ l D tys nL cc own Ts R) {k n : Nat} {ws : va_W} {lv : List (Nat × Value)} {pc : Nat} {st : List Value} {x y v : Int32} (hd : decode cc pc = .ok (.idiv, 1)) (hne : ¬ y = 0) (hv : x / y = v) (kk : G Γ nL k n ws lv (pc + 1) (.int v :: st)) : G Γ nL k n ws lv pc (.int y :: .int x :: st) := by
  obtain ⟨p, l', e, R', s, m, args, below, meth, c, D', tys', A, Q⟩ := Γ
  obtain ⟨rfl, rfl, rfl, rfl, hx, hb, hml, hown, hts, hK, hA, hlk, hE⟩ := X
  intro H locs ls hP hD hS hh
  subst hv
  exact lv_idiv hx hb hd hne (kk H locs ls hP hD hS hh)
theorem g_irem {Γ : Cxt} {l : Launch} {D : va_G} {tys : List (ClassId × FieldType)} {nL : Nat} {cc : ByteArray} {own : String} {Ts : List Cond} {R : Room} (X : CX Γ l D tys nL cc own Ts R) {k n : Nat} {ws : va_W} {lv : List (Nat × Value)} {pc : Nat} {st : List Value} {x y v : Int32} (hd : decode cc pc = .ok (.irem, 1)) (hne : ¬ y = 0) (hv : x - x / y * y = v) (kk : G Γ nL k n ws lv (pc + 1) (.int v :: st)) : G Γ nL k n ws lv pc (.int y :: .int x :: st) := by
  obtain ⟨p, l', e, R', s, m, args, below, meth, c, D', tys', A, Q⟩ := Γ
  obtain ⟨rfl, rfl, rfl, rfl, hx, hb, hml, hown, hts, hK, hA, hlk, hE⟩ := X
  intro H locs ls hP hD hS hh
  subst hv
  exact lv_irem hx hb hd hne (kk H locs ls hP hD hS hh)
theorem g_ineg {Γ : Cxt} {l : Launch} {D : va_G} {tys : List (ClassId × FieldType)} {nL : Nat} {cc : ByteArray} {own : String} {Ts : List Cond} {R : Room} (X : CX Γ l D tys nL cc own Ts R) {k n : Nat} {ws : va_W} {lv : List (Nat × Value)} {pc : Nat} {st : List Value} {x v : Int32} (hd : decode cc pc = .ok (.ineg, 1)) (hv : -x = v) (kk : G Γ nL k n ws lv (pc + 1) (.int v :: st)) : G Γ nL k n ws lv pc (.int x :: st) := by
  obtain ⟨p, l', e, R', s, m, args, below, meth, c, D', tys', A, Q⟩ := Γ
  obtain ⟨rfl, rfl, rfl, rfl, hx, hb, hml, hown, hts, hK, hA, hlk, hE⟩ := X
  intro H locs ls hP hD hS hh
  subst hv
  exact lv_ineg hx hb hd (kk H locs ls hP hD hS hh)
theorem g_i2l {Γ : Cxt} {l : Launch} {D : va_G} {tys : List (ClassId × FieldType)} {nL : Nat} {cc : ByteArray} {own : String} {Ts : List Cond} {R : Room} (X : CX Γ l D tys nL cc own Ts R) {k n : Nat} {ws : va_W} {lv : List (Nat × Value)} {pc : Nat} {st : List Value} {x : Int32} (hd : decode cc pc = .ok (.i2l, 1)) (kk : G Γ nL k n ws lv (pc + 1) (.long x.toInt64 :: st)) : G Γ nL k n ws lv pc (.int x :: st) := by
  obtain ⟨p, l', e, R', s, m, args, below, meth, c, D', tys', A, Q⟩ := Γ
  obtain ⟨rfl, rfl, rfl, rfl, hx, hb, hml, hown, hts, hK, hA, hlk, hE⟩ := X
  intro H locs ls hP hD hS hh
  exact lv_i2l hx hb hd rfl (kk H locs ls hP hD hS hh)
theorem g_i2c {Γ : Cxt} {l : Launch} {D : va_G} {tys : List (ClassId × FieldType)} {nL : Nat} {cc : ByteArray} {own : String} {Ts : List Cond} {R : Room} (X : CX Γ l D tys nL cc own Ts R) {k n : Nat} {ws : va_W} {lv : List (Nat × Value)} {pc : Nat} {st : List Value} {x v : Int32} (hd : decode cc pc = .ok (.i2c, 1)) (hv : (x.toUInt32 % 65536).toInt32 = v) (kk : G Γ nL k n ws lv (pc + 1) (.int v :: st)) : G Γ nL k n ws lv pc (.int x :: st) := by
  obtain ⟨p, l', e, R', s, m, args, below, meth, c, D', tys', A, Q⟩ := Γ
  obtain ⟨rfl, rfl, rfl, rfl, hx, hb, hml, hown, hts, hK, hA, hlk, hE⟩ := X
  intro H locs ls hP hD hS hh
  exact lv_i2c hx hb hd hv (kk H locs ls hP hD hS hh)
theorem g_i2f {Γ : Cxt} {l : Launch} {D : va_G} {tys : List (ClassId × FieldType)} {nL : Nat} {cc : ByteArray} {own : String} {Ts : List Cond} {R : Room} (X : CX Γ l D tys nL cc own Ts R) {k n : Nat} {ws : va_W} {lv : List (Nat × Value)} {pc : Nat} {st : List Value} {x : Int32} (hd : decode cc pc = .ok (.i2f, 1)) (kk : G Γ nL k n ws lv (pc + 1) (.float (FP.i2f x) :: st)) : G Γ nL k n ws lv pc (.int x :: st) := by
  obtain ⟨p, l', e, R', s, m, args, below, meth, c, D', tys', A, Q⟩ := Γ
  obtain ⟨rfl, rfl, rfl, rfl, hx, hb, hml, hown, hts, hK, hA, hlk, hE⟩ := X
  intro H locs ls hP hD hS hh
  exact lv_i2f hx hb hd (kk H locs ls hP hD hS hh)
theorem g_fdiv {Γ : Cxt} {l : Launch} {D : va_G} {tys : List (ClassId × FieldType)} {nL : Nat} {cc : ByteArray} {own : String} {Ts : List Cond} {R : Room} (X : CX Γ l D tys nL cc own Ts R) {k n : Nat} {ws : va_W} {lv : List (Nat × Value)} {pc : Nat} {st : List Value} {x y : UInt32} (hd : decode cc pc = .ok (.fdiv, 1)) (hne : vf_n32 (FP.fdiv x y)) (kk : G Γ nL k n ws lv (pc + 1) (.float (FP.fdiv x y) :: st)) : G Γ nL k n ws lv pc (.float y :: .float x :: st) := by
  obtain ⟨p, l', e, R', s, m, args, below, meth, c, D', tys', A, Q⟩ := Γ
  obtain ⟨rfl, rfl, rfl, rfl, hx, hb, hml, hown, hts, hK, hA, hlk, hE⟩ := X
  intro H locs ls hP hD hS hh
  exact lv_fdiv hx hb hd hne (kk H locs ls hP hD hS hh)
theorem g_f2d {Γ : Cxt} {l : Launch} {D : va_G} {tys : List (ClassId × FieldType)} {nL : Nat} {cc : ByteArray} {own : String} {Ts : List Cond} {R : Room} (X : CX Γ l D tys nL cc own Ts R) {k n : Nat} {ws : va_W} {lv : List (Nat × Value)} {pc : Nat} {st : List Value} {x : UInt32} (hd : decode cc pc = .ok (.f2d, 1)) (hne : vf_n64 (FP.f2d x)) (kk : G Γ nL k n ws lv (pc + 1) (.double (FP.f2d x) :: st)) : G Γ nL k n ws lv pc (.float x :: st) := by
  obtain ⟨p, l', e, R', s, m, args, below, meth, c, D', tys', A, Q⟩ := Γ
  obtain ⟨rfl, rfl, rfl, rfl, hx, hb, hml, hown, hts, hK, hA, hlk, hE⟩ := X
  intro H locs ls hP hD hS hh
  exact lv_f2d hx hb hd hne (kk H locs ls hP hD hS hh)
theorem g_dcmp {Γ : Cxt} {l : Launch} {D : va_G} {tys : List (ClassId × FieldType)} {nL : Nat} {cc : ByteArray} {own : String} {Ts : List Cond} {R : Room} (X : CX Γ l D tys nL cc own Ts R) {k n : Nat} {ws : va_W} {lv : List (Nat × Value)} {pc : Nat} {st : List Value} {x y : UInt64} {op : CmpOp} {v : Int32} (hd : decode cc pc = .ok (.dcmp op, 1)) (hv : Op.cmpValue (FP.dcmp x y) op = v) (kk : G Γ nL k n ws lv (pc + 1) (.int v :: st)) : G Γ nL k n ws lv pc (.double y :: .double x :: st) := by
  obtain ⟨p, l', e, R', s, m, args, below, meth, c, D', tys', A, Q⟩ := Γ
  obtain ⟨rfl, rfl, rfl, rfl, hx, hb, hml, hown, hts, hK, hA, hlk, hE⟩ := X
  intro H locs ls hP hD hS hh
  subst hv
  exact lv_dcmp hx hb hd (kk H locs ls hP hD hS hh)
theorem g_dup {Γ : Cxt} {l : Launch} {D : va_G} {tys : List (ClassId × FieldType)} {nL : Nat} {cc : ByteArray} {own : String} {Ts : List Cond} {R : Room} (X : CX Γ l D tys nL cc own Ts R) {k n : Nat} {ws : va_W} {lv : List (Nat × Value)} {pc : Nat} {st : List Value} {va : Value} (hd : decode cc pc = .ok (.dup, 1)) (hva : va.category = 1) (kk : G Γ nL k n ws lv (pc + 1) (va :: va :: st)) : G Γ nL k n ws lv pc (va :: st) := by
  obtain ⟨p, l', e, R', s, m, args, below, meth, c, D', tys', A, Q⟩ := Γ
  obtain ⟨rfl, rfl, rfl, rfl, hx, hb, hml, hown, hts, hK, hA, hlk, hE⟩ := X
  intro H locs ls hP hD hS hh
  exact lv_dup hx hb hd hva (kk H locs ls hP hD hS hh)
theorem g_dup2 {Γ : Cxt} {l : Launch} {D : va_G} {tys : List (ClassId × FieldType)} {nL : Nat} {cc : ByteArray} {own : String} {Ts : List Cond} {R : Room} (X : CX Γ l D tys nL cc own Ts R) {k n : Nat} {ws : va_W} {lv : List (Nat × Value)} {pc : Nat} {st : List Value} {va vb : Value} (hd : decode cc pc = .ok (.dup2, 1)) (hva : va.category = 1) (hvb : vb.category = 1) (kk : G Γ nL k n ws lv (pc + 1) (va :: vb :: va :: vb :: st)) : G Γ nL k n ws lv pc (va :: vb :: st) := by
  obtain ⟨p, l', e, R', s, m, args, below, meth, c, D', tys', A, Q⟩ := Γ
  obtain ⟨rfl, rfl, rfl, rfl, hx, hb, hml, hown, hts, hK, hA, hlk, hE⟩ := X
  intro H locs ls hP hD hS hh
  exact lv_dup2_11 hx hb hd hva hvb (kk H locs ls hP hD hS hh)
theorem g_pop {Γ : Cxt} {l : Launch} {D : va_G} {tys : List (ClassId × FieldType)} {nL : Nat} {cc : ByteArray} {own : String} {Ts : List Cond} {R : Room} (X : CX Γ l D tys nL cc own Ts R) {k n : Nat} {ws : va_W} {lv : List (Nat × Value)} {pc : Nat} {st : List Value} {va : Value} (hd : decode cc pc = .ok (.pop, 1)) (hva : va.category = 1) (kk : G Γ nL k n ws lv (pc + 1) (st)) : G Γ nL k n ws lv pc (va :: st) := by
  obtain ⟨p, l', e, R', s, m, args, below, meth, c, D', tys', A, Q⟩ := Γ
  obtain ⟨rfl, rfl, rfl, rfl, hx, hb, hml, hown, hts, hK, hA, hlk, hE⟩ := X
  intro H locs ls hP hD hS hh
  exact lv_pop hx hb hd hva (kk H locs ls hP hD hS hh)
theorem g_if_eq {Γ : Cxt} {l : Launch} {D : va_G} {tys : List (ClassId × FieldType)} {nL : Nat} {cc : ByteArray} {own : String} {Ts : List Cond} {R : Room} (X : CX Γ l D tys nL cc own Ts R) {k n : Nat} {ws : va_W} {lv : List (Nat × Value)} {pc : Nat} {st : List Value} {x : Int32} {off : Int} {tgt : Nat} (hd : decode cc pc = .ok (.ifCond .eq off, 3)) (ht : (pc : Int) + off = (tgt : Int)) (kt : x = 0 → G Γ nL k n ws lv tgt (st)) (kf : ¬ (x = 0) → G Γ nL k n ws lv (pc + 3) (st)) : G Γ nL k n ws lv pc (.int x :: st) := by
  obtain ⟨p, l', e, R', s, m, args, below, meth, c, D', tys', A, Q⟩ := Γ
  obtain ⟨rfl, rfl, rfl, rfl, hx, hb, hml, hown, hts, hK, hA, hlk, hE⟩ := X
  intro H locs ls hP hD hS hh
  exact lv_if_eq hx hb hd ht (fun h => kt h H locs ls hP hD hS hh) (fun h => kf h H locs ls hP hD hS hh)
theorem g_if_ne {Γ : Cxt} {l : Launch} {D : va_G} {tys : List (ClassId × FieldType)} {nL : Nat} {cc : ByteArray} {own : String} {Ts : List Cond} {R : Room} (X : CX Γ l D tys nL cc own Ts R) {k n : Nat} {ws : va_W} {lv : List (Nat × Value)} {pc : Nat} {st : List Value} {x : Int32} {off : Int} {tgt : Nat} (hd : decode cc pc = .ok (.ifCond .ne off, 3)) (ht : (pc : Int) + off = (tgt : Int)) (kt : ¬ x = 0 → G Γ nL k n ws lv tgt (st)) (kf : x = 0 → G Γ nL k n ws lv (pc + 3) (st)) : G Γ nL k n ws lv pc (.int x :: st) := by
  obtain ⟨p, l', e, R', s, m, args, below, meth, c, D', tys', A, Q⟩ := Γ
  obtain ⟨rfl, rfl, rfl, rfl, hx, hb, hml, hown, hts, hK, hA, hlk, hE⟩ := X
  intro H locs ls hP hD hS hh
  exact lv_if_ne hx hb hd ht (fun h => kt h H locs ls hP hD hS hh) (fun h => kf h H locs ls hP hD hS hh)
theorem g_if_lt {Γ : Cxt} {l : Launch} {D : va_G} {tys : List (ClassId × FieldType)} {nL : Nat} {cc : ByteArray} {own : String} {Ts : List Cond} {R : Room} (X : CX Γ l D tys nL cc own Ts R) {k n : Nat} {ws : va_W} {lv : List (Nat × Value)} {pc : Nat} {st : List Value} {x : Int32} {off : Int} {tgt : Nat} (hd : decode cc pc = .ok (.ifCond .lt off, 3)) (ht : (pc : Int) + off = (tgt : Int)) (kt : x < 0 → G Γ nL k n ws lv tgt (st)) (kf : ¬ (x < 0) → G Γ nL k n ws lv (pc + 3) (st)) : G Γ nL k n ws lv pc (.int x :: st) := by
  obtain ⟨p, l', e, R', s, m, args, below, meth, c, D', tys', A, Q⟩ := Γ
  obtain ⟨rfl, rfl, rfl, rfl, hx, hb, hml, hown, hts, hK, hA, hlk, hE⟩ := X
  intro H locs ls hP hD hS hh
  exact lv_if_lt hx hb hd ht (fun h => kt h H locs ls hP hD hS hh) (fun h => kf h H locs ls hP hD hS hh)
theorem g_if_ge {Γ : Cxt} {l : Launch} {D : va_G} {tys : List (ClassId × FieldType)} {nL : Nat} {cc : ByteArray} {own : String} {Ts : List Cond} {R : Room} (X : CX Γ l D tys nL cc own Ts R) {k n : Nat} {ws : va_W} {lv : List (Nat × Value)} {pc : Nat} {st : List Value} {x : Int32} {off : Int} {tgt : Nat} (hd : decode cc pc = .ok (.ifCond .ge off, 3)) (ht : (pc : Int) + off = (tgt : Int)) (kt : 0 ≤ x → G Γ nL k n ws lv tgt (st)) (kf : ¬ (0 ≤ x) → G Γ nL k n ws lv (pc + 3) (st)) : G Γ nL k n ws lv pc (.int x :: st) := by
  obtain ⟨p, l', e, R', s, m, args, below, meth, c, D', tys', A, Q⟩ := Γ
  obtain ⟨rfl, rfl, rfl, rfl, hx, hb, hml, hown, hts, hK, hA, hlk, hE⟩ := X
  intro H locs ls hP hD hS hh
  exact lv_if_ge hx hb hd ht (fun h => kt h H locs ls hP hD hS hh) (fun h => kf h H locs ls hP hD hS hh)
theorem g_if_gt {Γ : Cxt} {l : Launch} {D : va_G} {tys : List (ClassId × FieldType)} {nL : Nat} {cc : ByteArray} {own : String} {Ts : List Cond} {R : Room} (X : CX Γ l D tys nL cc own Ts R) {k n : Nat} {ws : va_W} {lv : List (Nat × Value)} {pc : Nat} {st : List Value} {x : Int32} {off : Int} {tgt : Nat} (hd : decode cc pc = .ok (.ifCond .gt off, 3)) (ht : (pc : Int) + off = (tgt : Int)) (kt : 0 < x → G Γ nL k n ws lv tgt (st)) (kf : ¬ (0 < x) → G Γ nL k n ws lv (pc + 3) (st)) : G Γ nL k n ws lv pc (.int x :: st) := by
  obtain ⟨p, l', e, R', s, m, args, below, meth, c, D', tys', A, Q⟩ := Γ
  obtain ⟨rfl, rfl, rfl, rfl, hx, hb, hml, hown, hts, hK, hA, hlk, hE⟩ := X
  intro H locs ls hP hD hS hh
  exact lv_if_gt hx hb hd ht (fun h => kt h H locs ls hP hD hS hh) (fun h => kf h H locs ls hP hD hS hh)
theorem g_if_le {Γ : Cxt} {l : Launch} {D : va_G} {tys : List (ClassId × FieldType)} {nL : Nat} {cc : ByteArray} {own : String} {Ts : List Cond} {R : Room} (X : CX Γ l D tys nL cc own Ts R) {k n : Nat} {ws : va_W} {lv : List (Nat × Value)} {pc : Nat} {st : List Value} {x : Int32} {off : Int} {tgt : Nat} (hd : decode cc pc = .ok (.ifCond .le off, 3)) (ht : (pc : Int) + off = (tgt : Int)) (kt : x ≤ 0 → G Γ nL k n ws lv tgt (st)) (kf : ¬ (x ≤ 0) → G Γ nL k n ws lv (pc + 3) (st)) : G Γ nL k n ws lv pc (.int x :: st) := by
  obtain ⟨p, l', e, R', s, m, args, below, meth, c, D', tys', A, Q⟩ := Γ
  obtain ⟨rfl, rfl, rfl, rfl, hx, hb, hml, hown, hts, hK, hA, hlk, hE⟩ := X
  intro H locs ls hP hD hS hh
  exact lv_if_le hx hb hd ht (fun h => kt h H locs ls hP hD hS hh) (fun h => kf h H locs ls hP hD hS hh)
theorem g_icmp_eq {Γ : Cxt} {l : Launch} {D : va_G} {tys : List (ClassId × FieldType)} {nL : Nat} {cc : ByteArray} {own : String} {Ts : List Cond} {R : Room} (X : CX Γ l D tys nL cc own Ts R) {k n : Nat} {ws : va_W} {lv : List (Nat × Value)} {pc : Nat} {st : List Value} {x y : Int32} {off : Int} {tgt : Nat} (hd : decode cc pc = .ok (.if_icmp .eq off, 3)) (ht : (pc : Int) + off = (tgt : Int)) (kt : x = y → G Γ nL k n ws lv tgt (st)) (kf : ¬ (x = y) → G Γ nL k n ws lv (pc + 3) (st)) : G Γ nL k n ws lv pc (.int y :: .int x :: st) := by
  obtain ⟨p, l', e, R', s, m, args, below, meth, c, D', tys', A, Q⟩ := Γ
  obtain ⟨rfl, rfl, rfl, rfl, hx, hb, hml, hown, hts, hK, hA, hlk, hE⟩ := X
  intro H locs ls hP hD hS hh
  exact lv_icmp_eq hx hb hd ht (fun h => kt h H locs ls hP hD hS hh) (fun h => kf h H locs ls hP hD hS hh)
theorem g_icmp_ne {Γ : Cxt} {l : Launch} {D : va_G} {tys : List (ClassId × FieldType)} {nL : Nat} {cc : ByteArray} {own : String} {Ts : List Cond} {R : Room} (X : CX Γ l D tys nL cc own Ts R) {k n : Nat} {ws : va_W} {lv : List (Nat × Value)} {pc : Nat} {st : List Value} {x y : Int32} {off : Int} {tgt : Nat} (hd : decode cc pc = .ok (.if_icmp .ne off, 3)) (ht : (pc : Int) + off = (tgt : Int)) (kt : ¬ x = y → G Γ nL k n ws lv tgt (st)) (kf : x = y → G Γ nL k n ws lv (pc + 3) (st)) : G Γ nL k n ws lv pc (.int y :: .int x :: st) := by
  obtain ⟨p, l', e, R', s, m, args, below, meth, c, D', tys', A, Q⟩ := Γ
  obtain ⟨rfl, rfl, rfl, rfl, hx, hb, hml, hown, hts, hK, hA, hlk, hE⟩ := X
  intro H locs ls hP hD hS hh
  exact lv_icmp_ne hx hb hd ht (fun h => kt h H locs ls hP hD hS hh) (fun h => kf h H locs ls hP hD hS hh)
theorem g_icmp_lt {Γ : Cxt} {l : Launch} {D : va_G} {tys : List (ClassId × FieldType)} {nL : Nat} {cc : ByteArray} {own : String} {Ts : List Cond} {R : Room} (X : CX Γ l D tys nL cc own Ts R) {k n : Nat} {ws : va_W} {lv : List (Nat × Value)} {pc : Nat} {st : List Value} {x y : Int32} {off : Int} {tgt : Nat} (hd : decode cc pc = .ok (.if_icmp .lt off, 3)) (ht : (pc : Int) + off = (tgt : Int)) (kt : x < y → G Γ nL k n ws lv tgt (st)) (kf : ¬ (x < y) → G Γ nL k n ws lv (pc + 3) (st)) : G Γ nL k n ws lv pc (.int y :: .int x :: st) := by
  obtain ⟨p, l', e, R', s, m, args, below, meth, c, D', tys', A, Q⟩ := Γ
  obtain ⟨rfl, rfl, rfl, rfl, hx, hb, hml, hown, hts, hK, hA, hlk, hE⟩ := X
  intro H locs ls hP hD hS hh
  exact lv_icmp_lt hx hb hd ht (fun h => kt h H locs ls hP hD hS hh) (fun h => kf h H locs ls hP hD hS hh)
theorem g_icmp_ge {Γ : Cxt} {l : Launch} {D : va_G} {tys : List (ClassId × FieldType)} {nL : Nat} {cc : ByteArray} {own : String} {Ts : List Cond} {R : Room} (X : CX Γ l D tys nL cc own Ts R) {k n : Nat} {ws : va_W} {lv : List (Nat × Value)} {pc : Nat} {st : List Value} {x y : Int32} {off : Int} {tgt : Nat} (hd : decode cc pc = .ok (.if_icmp .ge off, 3)) (ht : (pc : Int) + off = (tgt : Int)) (kt : y ≤ x → G Γ nL k n ws lv tgt (st)) (kf : ¬ (y ≤ x) → G Γ nL k n ws lv (pc + 3) (st)) : G Γ nL k n ws lv pc (.int y :: .int x :: st) := by
  obtain ⟨p, l', e, R', s, m, args, below, meth, c, D', tys', A, Q⟩ := Γ
  obtain ⟨rfl, rfl, rfl, rfl, hx, hb, hml, hown, hts, hK, hA, hlk, hE⟩ := X
  intro H locs ls hP hD hS hh
  exact lv_icmp_ge hx hb hd ht (fun h => kt h H locs ls hP hD hS hh) (fun h => kf h H locs ls hP hD hS hh)
theorem g_icmp_gt {Γ : Cxt} {l : Launch} {D : va_G} {tys : List (ClassId × FieldType)} {nL : Nat} {cc : ByteArray} {own : String} {Ts : List Cond} {R : Room} (X : CX Γ l D tys nL cc own Ts R) {k n : Nat} {ws : va_W} {lv : List (Nat × Value)} {pc : Nat} {st : List Value} {x y : Int32} {off : Int} {tgt : Nat} (hd : decode cc pc = .ok (.if_icmp .gt off, 3)) (ht : (pc : Int) + off = (tgt : Int)) (kt : y < x → G Γ nL k n ws lv tgt (st)) (kf : ¬ (y < x) → G Γ nL k n ws lv (pc + 3) (st)) : G Γ nL k n ws lv pc (.int y :: .int x :: st) := by
  obtain ⟨p, l', e, R', s, m, args, below, meth, c, D', tys', A, Q⟩ := Γ
  obtain ⟨rfl, rfl, rfl, rfl, hx, hb, hml, hown, hts, hK, hA, hlk, hE⟩ := X
  intro H locs ls hP hD hS hh
  exact lv_icmp_gt hx hb hd ht (fun h => kt h H locs ls hP hD hS hh) (fun h => kf h H locs ls hP hD hS hh)
theorem g_icmp_le {Γ : Cxt} {l : Launch} {D : va_G} {tys : List (ClassId × FieldType)} {nL : Nat} {cc : ByteArray} {own : String} {Ts : List Cond} {R : Room} (X : CX Γ l D tys nL cc own Ts R) {k n : Nat} {ws : va_W} {lv : List (Nat × Value)} {pc : Nat} {st : List Value} {x y : Int32} {off : Int} {tgt : Nat} (hd : decode cc pc = .ok (.if_icmp .le off, 3)) (ht : (pc : Int) + off = (tgt : Int)) (kt : x ≤ y → G Γ nL k n ws lv tgt (st)) (kf : ¬ (x ≤ y) → G Γ nL k n ws lv (pc + 3) (st)) : G Γ nL k n ws lv pc (.int y :: .int x :: st) := by
  obtain ⟨p, l', e, R', s, m, args, below, meth, c, D', tys', A, Q⟩ := Γ
  obtain ⟨rfl, rfl, rfl, rfl, hx, hb, hml, hown, hts, hK, hA, hlk, hE⟩ := X
  intro H locs ls hP hD hS hh
  exact lv_icmp_le hx hb hd ht (fun h => kt h H locs ls hP hD hS hh) (fun h => kf h H locs ls hP hD hS hh)
theorem g_goto {Γ : Cxt} {l : Launch} {D : va_G} {tys : List (ClassId × FieldType)} {nL : Nat} {cc : ByteArray} {own : String} {Ts : List Cond} {R : Room} (X : CX Γ l D tys nL cc own Ts R) {k n : Nat} {ws : va_W} {lv : List (Nat × Value)} {pc : Nat} {st : List Value} {off : Int} {tgt : Nat} (hd : decode cc pc = .ok (.goto off, 3)) (ht : (pc : Int) + off = (tgt : Int)) (kk : G Γ nL k n ws lv tgt (st)) : G Γ nL k n ws lv pc (st) := by
  obtain ⟨p, l', e, R', s, m, args, below, meth, c, D', tys', A, Q⟩ := Γ
  obtain ⟨rfl, rfl, rfl, rfl, hx, hb, hml, hown, hts, hK, hA, hlk, hE⟩ := X
  intro H locs ls hP hD hS hh
  exact lv_goto hx hb hd ht (kk H locs ls hP hD hS hh)
theorem g_tableIn {Γ : Cxt} {l : Launch} {D : va_G} {tys : List (ClassId × FieldType)} {nL : Nat} {cc : ByteArray} {own : String} {Ts : List Cond} {R : Room} (X : CX Γ l D tys nL cc own Ts R) {k n : Nat} {ws : va_W} {lv : List (Nat × Value)} {pc : Nat} {st : List Value} {dflt lo hi : Int} {offs : Array Int} {len : Nat} {x : Int32} {off : Int} {tgt : Nat} (hd : decode cc pc = .ok (.tableswitch dflt lo hi offs, len)) (h1 : ¬ x.toInt < lo) (h2 : ¬ hi < x.toInt) (ho : offs[(x.toInt - lo).toNat]? = some off) (ht : (pc : Int) + off = (tgt : Int)) (kk : G Γ nL k n ws lv tgt (st)) : G Γ nL k n ws lv pc (.int x :: st) := by
  obtain ⟨p, l', e, R', s, m, args, below, meth, c, D', tys', A, Q⟩ := Γ
  obtain ⟨rfl, rfl, rfl, rfl, hx, hb, hml, hown, hts, hK, hA, hlk, hE⟩ := X
  intro H locs ls hP hD hS hh
  exact lv_tableIn hx hb hd h1 h2 ho ht (kk H locs ls hP hD hS hh)
theorem g_tableOut {Γ : Cxt} {l : Launch} {D : va_G} {tys : List (ClassId × FieldType)} {nL : Nat} {cc : ByteArray} {own : String} {Ts : List Cond} {R : Room} (X : CX Γ l D tys nL cc own Ts R) {k n : Nat} {ws : va_W} {lv : List (Nat × Value)} {pc : Nat} {st : List Value} {dflt lo hi : Int} {offs : Array Int} {len : Nat} {x : Int32} {tgt : Nat} (hd : decode cc pc = .ok (.tableswitch dflt lo hi offs, len)) (h1 : x.toInt < lo ∨ hi < x.toInt) (ht : (pc : Int) + dflt = (tgt : Int)) (kk : G Γ nL k n ws lv tgt (st)) : G Γ nL k n ws lv pc (.int x :: st) := by
  obtain ⟨p, l', e, R', s, m, args, below, meth, c, D', tys', A, Q⟩ := Γ
  obtain ⟨rfl, rfl, rfl, rfl, hx, hb, hml, hown, hts, hK, hA, hlk, hE⟩ := X
  intro H locs ls hP hD hS hh
  exact lv_tableOut hx hb hd h1 ht (kk H locs ls hP hD hS hh)
theorem g_getf {Γ : Cxt} {l : Launch} {D : va_G} {tys : List (ClassId × FieldType)} {nL : Nat} {cc : ByteArray} {own : String} {Ts : List Cond} {R : Room} (X : CX Γ l D tys nL cc own Ts R) {k n : Nat} {ws : va_W} {lv : List (Nat × Value)} {pc : Nat} {st : List Value} {C ref : String} {T : u_T} {N ci ix : Nat} {a : Nat} {fs : List Value} {v : Value} (hd : decode cc pc = .ok (.getfield ix, 3)) (q0 : Nat) (he : ws[q0]? = some (a, .inr (ci, fs))) (hc : vwCl[ci]? = some (C, T, N)) (hin : ∀ w ∈ u_ws C T N, w ∈ Ts) (f : Nat) (hf : f < N) (hlink : (Cond.fieldLink own ix ref (T f).2.1 (T f).2.2.1) ∈ Ts) (href : (T f).1 = ref) (hv : fs[f]? = some v) (kk : G Γ nL k n ws lv (pc + 3) (v :: st)) : G Γ nL k n ws lv pc (.ref a :: st) := by
  obtain ⟨p, l', e, R', s, m, args, below, meth, c, D', tys', A, Q⟩ := Γ
  obtain ⟨rfl, rfl, rfl, rfl, hx, hb, hml, hown, hts, hK, hA, hlk, hE⟩ := X
  intro H locs ls hP hD hS hh
  exact va_get (C := C) (T := T) (N := N) (ref := ref) hx hb hts hin hown hK hP q0 he hc f hf (hts _ hlink) (fun x hx9 => by rw [href] at hx9; exact hx9) hv hd (kk H locs ls hP hD hS hh)
theorem g_getfN {Γ : Cxt} {l : Launch} {D : va_G} {tys : List (ClassId × FieldType)} {nL : Nat} {cc : ByteArray} {own : String} {Ts : List Cond} {R : Room} (X : CX Γ l D tys nL cc own Ts R) {k n : Nat} {ws : va_W} {lv : List (Nat × Value)} {pc : Nat} {st : List Value} {C ref : String} {T : u_T} {N ci ix : Nat} {a : Nat} {fs : List Value} {v : Value} (hd : decode cc pc = .ok (.getfield ix, 3)) (q0 : Nat) (he : ws[q0]? = some (a, .inr (ci, fs))) (hc : vwCl[ci]? = some (C, T, N)) (hin : ∀ w ∈ u_ws C T N, w ∈ Ts) (f : Nat) (hf : f < N) {host : String} (i0 : Nat) (hlink : nests[i0]? = some (Cond.fieldLinkNest own ix ref (T f).2.1 (T f).2.2.1 host)) (href : (T f).1 = ref) (hv : fs[f]? = some v) (kk : G Γ nL k n ws lv (pc + 3) (v :: st)) : G Γ nL k n ws lv pc (.ref a :: st) := by
  obtain ⟨p, l', e, R', s, m, args, below, meth, c, D', tys', A, Q⟩ := Γ
  obtain ⟨rfl, rfl, rfl, rfl, hx, hb, hml, hown, hts, hK, hA, hlk, hE⟩ := X
  intro H locs ls hP hD hS hh
  exact va_getN (C := C) (T := T) (N := N) (ref := ref) hx hb hts hin hown hK hP q0 he hc f hf (hE.nest i0 hlink) (fun x hx9 => by rw [href] at hx9; exact hx9) hv hd (kk H locs ls hP hD hS hh)
theorem g_putf {Γ : Cxt} {l : Launch} {D : va_G} {tys : List (ClassId × FieldType)} {nL : Nat} {cc : ByteArray} {own : String} {Ts : List Cond} {R : Room} (X : CX Γ l D tys nL cc own Ts R) {k n : Nat} {ws : va_W} {lv : List (Nat × Value)} {pc : Nat} {st : List Value} {C ref : String} {T : u_T} {N ci ix : Nat} {a : Nat} {fs : List Value} {v : Value} {ty : FieldType} {ws' : va_W} (hd : decode cc pc = .ok (.putfield ix, 3)) (q0 : Nat) (he : ws[q0]? = some (a, .inr (ci, fs))) (hc : vwCl[ci]? = some (C, T, N)) (hin : ∀ w ∈ u_ws C T N, w ∈ Ts) (ty0 : Nat → FieldType) (hty : ∀ k, k < N → parseFieldDescriptor (T k).2.2.1 = some (ty0 k)) (hnm : ∀ a, a < N → ∀ b, b < N → a ≠ b → (T a).2.1 ≠ (T b).2.1) (f : Nat) (hf : f < N) (hlink : (Cond.fieldLink own ix ref (T f).2.1 (T f).2.2.1) ∈ Ts) (href : (T f).1 = ref) (hfin : (T f).2.2.2 = false)  (hpd : parseFieldDescriptor (T f).2.2.1 = some ty) (hn : narrow ty v = v) (hfit : fits ty v = true) (hfl : f < fs.length) (hw : ws.set q0 (a, .inr (ci, fs.set f v)) = ws') (kk : G Γ nL k n ws' lv (pc + 3) (st)) : G Γ nL k n ws lv pc (v :: .ref a :: st) := by
  obtain ⟨p, l', e, R', s, m, args, below, meth, c, D', tys', A, Q⟩ := Γ
  obtain ⟨rfl, rfl, rfl, rfl, hx, hb, hml, hown, hts, hK, hA, hlk, hE⟩ := X
  intro H locs ls hP hD hS hh
  subst hw
  exact va_put (C := C) (T := T) (N := N) (ref := ref) hx hb hts hin ty0 hty hnm hown hK hP hD hS q0 he hc f hf (hts _ hlink) (fun x hx9 => by rw [href] at hx9; exact hx9) hfin hpd hn hfit hfl hd (fun H locs hP hD hS => kk H locs ls hP hD hS hh)
theorem g_putfN {Γ : Cxt} {l : Launch} {D : va_G} {tys : List (ClassId × FieldType)} {nL : Nat} {cc : ByteArray} {own : String} {Ts : List Cond} {R : Room} (X : CX Γ l D tys nL cc own Ts R) {k n : Nat} {ws : va_W} {lv : List (Nat × Value)} {pc : Nat} {st : List Value} {C ref : String} {T : u_T} {N ci ix : Nat} {a : Nat} {fs : List Value} {v : Value} {ty : FieldType} {ws' : va_W} (hd : decode cc pc = .ok (.putfield ix, 3)) (q0 : Nat) (he : ws[q0]? = some (a, .inr (ci, fs))) (hc : vwCl[ci]? = some (C, T, N)) (hin : ∀ w ∈ u_ws C T N, w ∈ Ts) (ty0 : Nat → FieldType) (hty : ∀ k, k < N → parseFieldDescriptor (T k).2.2.1 = some (ty0 k)) (hnm : ∀ a, a < N → ∀ b, b < N → a ≠ b → (T a).2.1 ≠ (T b).2.1) (f : Nat) (hf : f < N) {host : String} (i0 : Nat) (hlink : nests[i0]? = some (Cond.fieldLinkNest own ix ref (T f).2.1 (T f).2.2.1 host)) (href : (T f).1 = ref) (hfin : (T f).2.2.2 = false)  (hpd : parseFieldDescriptor (T f).2.2.1 = some ty) (hn : narrow ty v = v) (hfit : fits ty v = true) (hfl : f < fs.length) (hw : ws.set q0 (a, .inr (ci, fs.set f v)) = ws') (kk : G Γ nL k n ws' lv (pc + 3) (st)) : G Γ nL k n ws lv pc (v :: .ref a :: st) := by
  obtain ⟨p, l', e, R', s, m, args, below, meth, c, D', tys', A, Q⟩ := Γ
  obtain ⟨rfl, rfl, rfl, rfl, hx, hb, hml, hown, hts, hK, hA, hlk, hE⟩ := X
  intro H locs ls hP hD hS hh
  subst hw
  exact va_putN (C := C) (T := T) (N := N) (ref := ref) hx hb hts hin ty0 hty hnm hown hK hP hD hS q0 he hc f hf (hE.nest i0 hlink) (fun x hx9 => by rw [href] at hx9; exact hx9) hfin hpd hn hfit hfl hd (fun H locs hP hD hS => kk H locs ls hP hD hS hh)
def isInit (Γ : Cxt) : Prop := match Γ with | (_, _, _, _, _, _, _, _, meth, _, _, _, _, _) => meth.name = "<init>"
theorem g_putfF {Γ : Cxt} {l : Launch} {D : va_G} {tys : List (ClassId × FieldType)} {nL : Nat} {cc : ByteArray} {own : String} {Ts : List Cond} {R : Room} (X : CX Γ l D tys nL cc own Ts R) {k n : Nat} {ws : va_W} {lv : List (Nat × Value)} {pc : Nat} {st : List Value} {C ref : String} {T : u_T} {N ci ix : Nat} {a : Nat} {fs : List Value} {v : Value} {ty : FieldType} {ws' : va_W} (hd : decode cc pc = .ok (.putfield ix, 3)) (q0 : Nat) (he : ws[q0]? = some (a, .inr (ci, fs))) (hc : vwCl[ci]? = some (C, T, N)) (hin : ∀ w ∈ u_ws C T N, w ∈ Ts) (ty0 : Nat → FieldType) (hty : ∀ k, k < N → parseFieldDescriptor (T k).2.2.1 = some (ty0 k)) (hnm : ∀ a, a < N → ∀ b, b < N → a ≠ b → (T a).2.1 ≠ (T b).2.1) (f : Nat) (hf : f < N) (hlink : (Cond.fieldLink own ix ref (T f).2.1 (T f).2.2.1) ∈ Ts) (href : (T f).1 = ref) (hfin : (T f).2.2.2 = true) (hin2 : isInit Γ) (hdecl : (T f).1 = own) (hpd : parseFieldDescriptor (T f).2.2.1 = some ty) (hn : narrow ty v = v) (hfit : fits ty v = true) (hfl : f < fs.length) (hw : ws.set q0 (a, .inr (ci, fs.set f v)) = ws') (kk : G Γ nL k n ws' lv (pc + 3) (st)) : G Γ nL k n ws lv pc (v :: .ref a :: st) := by
  obtain ⟨p, l', e, R', s, m, args, below, meth, c, D', tys', A, Q⟩ := Γ
  obtain ⟨rfl, rfl, rfl, rfl, hx, hb, hml, hown, hts, hK, hA, hlk, hE⟩ := X
  intro H locs ls hP hD hS hh
  subst hw
  exact va_putF (C := C) (T := T) (N := N) (ref := ref) hx hb hts hin ty0 hty hnm hown hK hP hD hS q0 he hc f hf (hts _ hlink) (fun x hx9 => by rw [href] at hx9; exact hx9) hfin hin2 hdecl hpd hn hfit hfl hd (fun H locs hP hD hS => kk H locs ls hP hD hS hh)
theorem g_iald {Γ : Cxt} {l : Launch} {D : va_G} {tys : List (ClassId × FieldType)} {nL : Nat} {cc : ByteArray} {own : String} {Ts : List Cond} {R : Room} (X : CX Γ l D tys nL cc own Ts R) {k n : Nat} {ws : va_W} {lv : List (Nat × Value)} {pc : Nat} {st : List Value} {a : Nat} {cA : ClassId} {N : Nat} {g : Nat → Int32} {i : Int32} {v : Int32} (hd : decode cc pc = .ok (.iaload, 1)) (q0 t0 : Nat) (ha : ws[q0]? = some (a, .inl (cA, N, .inl g))) (ht : tys[t0]? = some (cA, .int)) (hin : vp_in i N) (hv : g i.toNatClampNeg = v) (kk : G Γ nL k n ws lv (pc + 1) (.int v :: st)) : G Γ nL k n ws lv pc (.int i :: .ref a :: st) := by
  obtain ⟨p, l', e, R', s, m, args, below, meth, c, D', tys', A, Q⟩ := Γ
  obtain ⟨rfl, rfl, rfl, rfl, hx, hb, hml, hown, hts, hK, hA, hlk, hE⟩ := X
  intro H locs ls hP hD hS hh
  subst hv
  exact va_iald hx hb hK hP q0 t0 ha ht hin hd (kk H locs ls hP hD hS hh)
theorem g_zald {Γ : Cxt} {l : Launch} {D : va_G} {tys : List (ClassId × FieldType)} {nL : Nat} {cc : ByteArray} {own : String} {Ts : List Cond} {R : Room} (X : CX Γ l D tys nL cc own Ts R) {k n : Nat} {ws : va_W} {lv : List (Nat × Value)} {pc : Nat} {st : List Value} {a : Nat} {cA : ClassId} {N : Nat} {g : Nat → Int32} {i : Int32} {v : Int32} (hd : decode cc pc = .ok (.baload, 1)) (q0 t0 : Nat) (ha : ws[q0]? = some (a, .inl (cA, N, .inl g))) (ht : tys[t0]? = some (cA, .boolean)) (hin : vp_in i N) (hv : g i.toNatClampNeg = v) (kk : G Γ nL k n ws lv (pc + 1) (.int v :: st)) : G Γ nL k n ws lv pc (.int i :: .ref a :: st) := by
  obtain ⟨p, l', e, R', s, m, args, below, meth, c, D', tys', A, Q⟩ := Γ
  obtain ⟨rfl, rfl, rfl, rfl, hx, hb, hml, hown, hts, hK, hA, hlk, hE⟩ := X
  intro H locs ls hP hD hS hh
  subst hv
  exact va_zald hx hb hK hP q0 t0 ha ht hin hd (kk H locs ls hP hD hS hh)
theorem g_lald {Γ : Cxt} {l : Launch} {D : va_G} {tys : List (ClassId × FieldType)} {nL : Nat} {cc : ByteArray} {own : String} {Ts : List Cond} {R : Room} (X : CX Γ l D tys nL cc own Ts R) {k n : Nat} {ws : va_W} {lv : List (Nat × Value)} {pc : Nat} {st : List Value} {a : Nat} {cA : ClassId} {N : Nat} {g : Nat → Int64} {i : Int32} {v : Int64} (hd : decode cc pc = .ok (.laload, 1)) (q0 t0 : Nat) (ha : ws[q0]? = some (a, .inl (cA, N, .inr (.inl g)))) (ht : tys[t0]? = some (cA, .long)) (hin : vp_in i N) (hv : g i.toNatClampNeg = v) (kk : G Γ nL k n ws lv (pc + 1) (.long v :: st)) : G Γ nL k n ws lv pc (.int i :: .ref a :: st) := by
  obtain ⟨p, l', e, R', s, m, args, below, meth, c, D', tys', A, Q⟩ := Γ
  obtain ⟨rfl, rfl, rfl, rfl, hx, hb, hml, hown, hts, hK, hA, hlk, hE⟩ := X
  intro H locs ls hP hD hS hh
  subst hv
  exact va_lald hx hb hK hP q0 t0 ha ht hin hd (kk H locs ls hP hD hS hh)
theorem g_iast {Γ : Cxt} {l : Launch} {D : va_G} {tys : List (ClassId × FieldType)} {nL : Nat} {cc : ByteArray} {own : String} {Ts : List Cond} {R : Room} (X : CX Γ l D tys nL cc own Ts R) {k n : Nat} {ws : va_W} {lv : List (Nat × Value)} {pc : Nat} {st : List Value} {a : Nat} {cA : ClassId} {N : Nat} {g g' : Nat → Int32} {i x : Int32} {ws' : va_W} (hd : decode cc pc = .ok (.iastore, 1)) (q0 t0 : Nat) (ha : ws[q0]? = some (a, .inl (cA, N, .inl g))) (ht : tys[t0]? = some (cA, .int)) (hin : vp_in i N) (hg : upd g i.toNatClampNeg x = g') (hw : ws.set q0 (a, .inl (cA, N, .inl g')) = ws') (kk : G Γ nL k n ws' lv (pc + 1) (st)) : G Γ nL k n ws lv pc (.int x :: .int i :: .ref a :: st) := by
  obtain ⟨p, l', e, R', s, m, args, below, meth, c, D', tys', A, Q⟩ := Γ
  obtain ⟨rfl, rfl, rfl, rfl, hx, hb, hml, hown, hts, hK, hA, hlk, hE⟩ := X
  intro H locs ls hP hD hS hh
  subst hg
  subst hw
  exact va_iast hx hb hK hP hD hS q0 t0 ha ht hin hd (fun H locs hP hD hS => kk H locs ls hP hD hS hh)
theorem g_zast {Γ : Cxt} {l : Launch} {D : va_G} {tys : List (ClassId × FieldType)} {nL : Nat} {cc : ByteArray} {own : String} {Ts : List Cond} {R : Room} (X : CX Γ l D tys nL cc own Ts R) {k n : Nat} {ws : va_W} {lv : List (Nat × Value)} {pc : Nat} {st : List Value} {a : Nat} {cA : ClassId} {N : Nat} {g g' : Nat → Int32} {i x : Int32} {ws' : va_W} (hd : decode cc pc = .ok (.bastore, 1)) (q0 t0 : Nat) (ha : ws[q0]? = some (a, .inl (cA, N, .inl g))) (ht : tys[t0]? = some (cA, .boolean)) (hin : vp_in i N) (hx1 : vp_nar .boolean x = x) (hg : upd g i.toNatClampNeg x = g') (hw : ws.set q0 (a, .inl (cA, N, .inl g')) = ws') (kk : G Γ nL k n ws' lv (pc + 1) (st)) : G Γ nL k n ws lv pc (.int x :: .int i :: .ref a :: st) := by
  obtain ⟨p, l', e, R', s, m, args, below, meth, c, D', tys', A, Q⟩ := Γ
  obtain ⟨rfl, rfl, rfl, rfl, hx, hb, hml, hown, hts, hK, hA, hlk, hE⟩ := X
  intro H locs ls hP hD hS hh
  subst hg
  subst hw
  exact va_zast hx hb hK hP hD hS q0 t0 ha ht hin hd (fun H locs hP hD hS => by rw [hx1] at hP hD; exact kk H locs ls hP hD hS hh)
theorem g_last {Γ : Cxt} {l : Launch} {D : va_G} {tys : List (ClassId × FieldType)} {nL : Nat} {cc : ByteArray} {own : String} {Ts : List Cond} {R : Room} (X : CX Γ l D tys nL cc own Ts R) {k n : Nat} {ws : va_W} {lv : List (Nat × Value)} {pc : Nat} {st : List Value} {a : Nat} {cA : ClassId} {N : Nat} {g g' : Nat → Int64} {i : Int32} {x : Int64} {ws' : va_W} (hd : decode cc pc = .ok (.lastore, 1)) (q0 t0 : Nat) (ha : ws[q0]? = some (a, .inl (cA, N, .inr (.inl g)))) (ht : tys[t0]? = some (cA, .long)) (hin : vp_in i N) (hg : vp_updL g i.toNatClampNeg x = g') (hw : ws.set q0 (a, .inl (cA, N, .inr (.inl g'))) = ws') (kk : G Γ nL k n ws' lv (pc + 1) (st)) : G Γ nL k n ws lv pc (.long x :: .int i :: .ref a :: st) := by
  obtain ⟨p, l', e, R', s, m, args, below, meth, c, D', tys', A, Q⟩ := Γ
  obtain ⟨rfl, rfl, rfl, rfl, hx, hb, hml, hown, hts, hK, hA, hlk, hE⟩ := X
  intro H locs ls hP hD hS hh
  subst hg
  subst hw
  exact va_last hx hb hK hP hD hS q0 t0 ha ht hin hd (fun H locs hP hD hS => kk H locs ls hP hD hS hh)
theorem g_alen {Γ : Cxt} {l : Launch} {D : va_G} {tys : List (ClassId × FieldType)} {nL : Nat} {cc : ByteArray} {own : String} {Ts : List Cond} {R : Room} (X : CX Γ l D tys nL cc own Ts R) {k n : Nat} {ws : va_W} {lv : List (Nat × Value)} {pc : Nat} {st : List Value} {a : Nat} {cA : ClassId} {x : vp_A} {ty : FieldType} {v : Int32} (hd : decode cc pc = .ok (.arraylength, 1)) (q0 t0 : Nat) (ha : ws[q0]? = some (a, .inl (cA, x))) (ht : tys[t0]? = some (cA, ty)) (hv : Int32.ofNat x.1 = v) (kk : G Γ nL k n ws lv (pc + 1) (.int v :: st)) : G Γ nL k n ws lv pc (.ref a :: st) := by
  obtain ⟨p, l', e, R', s, m, args, below, meth, c, D', tys', A, Q⟩ := Γ
  obtain ⟨rfl, rfl, rfl, rfl, hx, hb, hml, hown, hts, hK, hA, hlk, hE⟩ := X
  intro H locs ls hP hD hS hh
  exact va_alen hx hb hK hP q0 t0 ha ht hv hd (kk H locs ls hP hD hS hh)
theorem g_new {Γ : Cxt} {l : Launch} {D : va_G} {tys : List (ClassId × FieldType)} {nL : Nat} {cc : ByteArray} {own : String} {Ts : List Cond} {R : Room} (X : CX Γ l D tys nL cc own Ts R) {k n : Nat} {ws : va_W} {lv : List (Nat × Value)} {pc : Nat} {st : List Value} {C : String} {T : u_T} {N ci ix : Nat} {fs : List Value} (hd : decode cc pc = .ok (.new ix, 3)) (hc : vwCl[ci]? = some (C, T, N)) (hin : ∀ w ∈ u_ws C T N, w ∈ Ts) (ty0 : Nat → FieldType) (hty : ∀ k, k < N → parseFieldDescriptor (T k).2.2.1 = some (ty0 k)) (h1 : Cond.classLink own ix C ∈ Ts) (h2 : Cond.instantiable C N ∈ Ts) (h3 : Cond.initialized C ∈ Ts) (hfs : ∀ j, j < N → defaultValue (ty0 j) = vp_V fs j) (hcells : k + 1 ≤ R.cells) (hslots : n + N ≤ R.slots) (kk : ∀ q : Nat, G Γ nL (k + 1) (n + N) (ws ++ [(q, .inr (ci, fs))]) lv (pc + 3) (.ref q :: st)) : G Γ nL k n ws lv pc (st) := by
  obtain ⟨p, l', e, R', s, m, args, below, meth, c, D', tys', A, Q⟩ := Γ
  obtain ⟨rfl, rfl, rfl, rfl, hx, hb, hml, hown, hts, hK, hA, hlk, hE⟩ := X
  intro H locs ls hP hD hS hh
  exact va_new hx hb hts hin ty0 hty hown (hts _ h1) (hts _ h2) (hts _ h3) hK hP hD hS hA hc hfs hcells hslots hd (fun q H hP hD hS => kk q H locs ls hP hD hS hh)
/-- two names of one array class are one -/
theorem va_RA.one {U : State} {c1 c2 : ClassId} {ty : FieldType} (h1 : va_RA U c1 ty) (h2 : va_RA U c2 ty) (hp : ∀ C, ty ≠ .object C) : c1 = c2 := by
  cases ty with
  | object C => exact absurd rfl (hp C)
  | _ => exact Option.some.inj (h1.symm.trans h2)
theorem g_newa {Γ : Cxt} {l : Launch} {D : va_G} {tys : List (ClassId × FieldType)} {nL : Nat} {cc : ByteArray} {own : String} {Ts : List Cond} {R : Room} (X : CX Γ l D tys nL cc own Ts R) {k n : Nat} {ws : va_W} {lv : List (Nat × Value)} {pc : Nat} {st : List Value} {atype : ArrayType} {ty : FieldType} {z : Int32} {N : Nat} {a0 : vp_A} {cA : ClassId} (hd : decode cc pc = .ok (.newarray atype, 2)) (harr : Cond.arrayClass (newarray.typeOf atype) ∈ Ts) (hty : newarray.typeOf atype = ty) (hp : ∀ C, ty ≠ .object C) (t0 : Nat) (ht : tys[t0]? = some (cA, ty)) (ha : ∀ cA : ClassId, vp_cell cA a0 = arrV cA N (fun _ => defaultValue ty)) (hn : ¬ z < 0) (hN : z.toNatClampNeg = N) (hbytes : N * componentBytes ty ≤ 536870912) (hcells : k + 1 ≤ R.cells) (hslots : n + N ≤ R.slots) (kk : ∀ q : Nat, G Γ nL (k + 1) (n + N) (ws ++ [(q, .inl (cA, a0))]) lv (pc + 2) (.ref q :: st)) : G Γ nL k n ws lv pc (.int z :: st) := by
  obtain ⟨p, l', e, R', s, m, args, below, meth, c, D', tys', A, Q⟩ := Γ
  obtain ⟨rfl, rfl, rfl, rfl, hx, hb, hml, hown, hts, hK, hA, hlk, hE⟩ := X
  intro H locs ls hP hD hS hh
  refine va_newa hx hb (hts _ harr) hty hK hP hD hS hA ha hn hN hbytes hcells hslots hd (fun q cB H hK2 hP hD hS => ?_)
  have e1 : cB = cA := va_RA.one (hK2.2 tys'.length (cB, ty) (by simp)).2 (hK.2 t0 _ ht).2 hp
  subst e1
  exact kk q H locs ls hP hD hS hh
theorem g_objInit {Γ : Cxt} {l : Launch} {D : va_G} {tys : List (ClassId × FieldType)} {nL : Nat} {cc : ByteArray} {own : String} {Ts : List Cond} {R : Room} (X : CX Γ l D tys nL cc own Ts R) {k n : Nat} {ws : va_W} {lv : List (Nat × Value)} {pc : Nat} {st : List Value} {a : Nat} {ix : Nat} (hd : decode cc pc = .ok (.invokespecial ix, 3)) (h1 : Cond.methodLink own ix objectInit ∈ Ts) (h2 : Cond.instanceMethod objectInit ∈ Ts) (h3 : Cond.code objectInit ⟨#[0xb1]⟩ 1 none ∈ Ts) (hf : 1 ≤ R.frames) (hlo : (st.map fun v => v.category).sum + 12 ≤ R.locals) (kk : G Γ nL k n ws lv (pc + 3) (st)) : G Γ nL k n ws lv pc (.ref a :: st) := by
  obtain ⟨p, l', e, R', s, m, args, below, meth, c, D', tys', A, Q⟩ := Γ
  obtain ⟨rfl, rfl, rfl, rfl, hx, hb, hml, hown, hts, hK, hA, hlk, hE⟩ := X
  intro H locs ls hP hD hS hh
  refine W.objInit hx hb hown (hts _ h1) (hts _ h2) (hts _ h3) rfl (hh.1.trans hml.symm) rfl hd hf (by show 2 * 0 + _ + 12 ≤ _; omega) ?_
  exact kk H locs ls hP hD hS hh
theorem g_widen {Γ : Cxt} {nL k n k' n' : Nat} {ws : va_W} {lv : List (Nat × Value)} {pc : Nat} {st : List Value} (h1 : k ≤ k') (h2 : n ≤ n') (kk : G Γ nL k' n' ws lv pc st) : G Γ nL k n ws lv pc st := by
  obtain ⟨p, l', e, R', s, m, args, below, meth, c, D', tys', A, Q⟩ := Γ
  intro H locs ls hP hD hS hh
  exact W.widen h1 h2 (kk H locs ls hP hD hS hh)
/-- the world by other rows -/
theorem g_world {Γ : Cxt} {nL k n : Nat} {ws ws' : va_W} {lv : List (Nat × Value)} {pc : Nat} {st : List Value} (h : ws = ws') (kk : G Γ nL k n ws' lv pc st) : G Γ nL k n ws lv pc st := by rw [h]; exact kk
theorem g_sub {Γ : Cxt} {nL k n : Nat} {ws ws' : va_W} {lv : List (Nat × Value)} {pc : Nat} {st : List Value} (is : List Nat) (hn : va_nd is = true) (hs : is.map (fun i => ws[i]?) = ws'.map some) (kk : G Γ nL k n ws' lv pc st) : G Γ nL k n ws lv pc st := by
  obtain ⟨p, l', e, R', s, m, args, below, meth, c, D', tys', A, Q⟩ := Γ
  intro H locs ls hP hD hS hh
  exact kk H locs ls (hP.sub is (by
    have h9 : is.filterMap (fun i => ws[i]?) = (is.map (fun i => ws[i]?)).filterMap id := by rw [List.filterMap_map]; rfl
    rw [h9, hs, List.filterMap_map]
    simp)) (hD.sub is hn hs) hS hh
theorem g_lv {Γ : Cxt} {nL k n : Nat} {ws : va_W} {lv lv' : List (Nat × Value)} {pc : Nat} {st : List Value} (is : List Nat) (hs : lv_pick lv is = lv') (kk : G Γ nL k n ws lv' pc st) : G Γ nL k n ws lv pc st := by
  obtain ⟨p, l', e, R', s, m, args, below, meth, c, D', tys', A, Q⟩ := Γ
  intro H locs ls hP hD hS hh
  exact kk H locs ls hP hD hS (lv_sub hh is hs)
/-! CONTRACTS over worlds: CI an int (boolean), CV nothing, CF a float; XI, XV the same, or a throw; and how calls go on. -/
def PreC (D : va_G) (tys : List (ClassId × FieldType)) (As : List Value) (w : va_W) (sz : Nat) : Array Value → State → Prop := va_Pc As (fun U => U.heap.size = sz ∧ va_P D vwCl w U.heap ∧ va_K D vwCl tys U ∧ va_D (fun _ => True) w ∧ EnvS U)
def BC (D : va_G) (tys : List (ClassId × FieldType)) (A : Nat → Prop) {S : Type} (w' : S → va_W) : S → State → Prop := fun u t => va_P D vwCl (w' u) t.heap ∧ va_K D vwCl tys t ∧ va_D A (w' u)
def CI (l : Launch) (D : va_G) (tys : List (ClassId × FieldType)) (y : MethodName) (wsy : List Cond) (rm : Room) (As : List Value) (w : va_W) {S : Type} (post : Int32 → S → Prop) (w' : S → va_W) : Prop :=
  ∀ sz : Nat, Met l y wsy rm (PreC D tys As w sz) (va_Qi post (BC D tys (va_A w sz) w') (va_A w sz)) rm.cells rm.slots (va_A w sz)
def CV (l : Launch) (D : va_G) (tys : List (ClassId × FieldType)) (y : MethodName) (wsy : List Cond) (rm : Room) (As : List Value) (w : va_W) {S : Type} (post : S → Prop) (w' : S → va_W) : Prop :=
  ∀ sz : Nat, Met l y wsy rm (PreC D tys As w sz) (va_Qv post (BC D tys (va_A w sz) w') (va_A w sz)) rm.cells rm.slots (va_A w sz)
def CF (l : Launch) (D : va_G) (tys : List (ClassId × FieldType)) (y : MethodName) (wsy : List Cond) (rm : Room) (As : List Value) (w : va_W) {S : Type} (post : UInt32 → S → Prop) (w' : S → va_W) : Prop :=
  ∀ sz : Nat, Met l y wsy rm (PreC D tys As w sz) (va_Qf post (BC D tys (va_A w sz) w') (va_A w sz)) rm.cells rm.slots (va_A w sz)
theorem PreC.blind {D : va_G} {tys : List (ClassId × FieldType)} {As : List Value} {w : va_W} {sz : Nat} : FrameBlind (PreC D tys As w sz) := fun a U g mk q => by
  obtain ⟨q0, q1, qP, qK, qD, qE⟩ := q
  exact ⟨q0, q1, qP, va_K.moved (u := U) (U := U.calling g mk a) (Vm.Alike.refl U.vm) qK, qD, EnvS.same (u := U) (U := U.calling g mk a) rfl qE⟩
/-- what the end of a method owes -/
def EI (Γ : Cxt) (ret : Option FieldType) {S : Type} (post : Int32 → S → Prop) (w' : S → va_W) : Prop := match Γ with
  | (_, _, _, R, s, _, args, below, meth, _, D, tys, A, Q) => meth.sig.returnType = ret ∧ Q = MQ below (va_Qi post (BC D tys A w') A) args s R.cells R.slots A
def EV (Γ : Cxt) {S : Type} (post : S → Prop) (w' : S → va_W) : Prop := match Γ with
  | (_, _, _, R, s, _, args, below, meth, _, D, tys, A, Q) => meth.sig.returnType = none ∧ Q = MQ below (va_Qv post (BC D tys A w') A) args s R.cells R.slots A
def EF (Γ : Cxt) {S : Type} (post : UInt32 → S → Prop) (w' : S → va_W) : Prop := match Γ with
  | (_, _, _, R, s, _, args, below, meth, _, D, tys, A, Q) => meth.sig.returnType = some .float ∧ Q = MQ below (va_Qf post (BC D tys A w') A) args s R.cells R.slots A
section OFG
variable {l : Launch} {D : va_G} {tys : List (ClassId × FieldType)} {nL : Nat} {cc : ByteArray} {y : MethodName} {wsy ws' : List Cond} {rm : Room} {As : List Value} {w : va_W} {S : Type} {lv0 : List (Nat × Value)}
theorem ofG_I {post : Int32 → S → Prop} {w' : S → va_W} {ret : Option FieldType} (hy : plainName y.cls = true) (hw : wsy = Cond.code y cc nL ret :: ws') (hlen : (lg_sl As).length ≤ nL) (hlv : lv_args 0 As = lv0)
    (body : ∀ Γ : Cxt, CX Γ l D tys nL cc y.cls wsy rm → EI Γ ret post w' → G Γ nL 0 0 w lv0 0 []) : CI l D tys y wsy rm As w post w' := by
  subst hlv
  intro sz
  refine Met.ofW (cc := cc) (maxL := nL) (ret := ret) hy hw ?_
  intro p e s m args below meth c s₁ B hml hv
  obtain ⟨rfl, hsz, hP, hK, hD0, hE⟩ := hv
  subst hsz
  have hl := lv_entry As (n := nL) hlen
  rw [lg_entry_eq]
  exact body (p, l, e, rm, s, m, As.toArray, below, meth, c, D, tys, va_A w s.heap.size, _) ⟨rfl, rfl, rfl, rfl, B.exec, B.bytes, hml, findClass_of_methodNamed B.named, atoms_spec (ws := wsy) B.pre, hK, fun q h => Or.inr h, B.notSynchronized, hE⟩ ⟨B.returns, rfl⟩ s.heap [] _ hP hD0.self va_S.rf hl
theorem ofG_V {post : S → Prop} {w' : S → va_W} (hy : plainName y.cls = true) (hw : wsy = Cond.code y cc nL none :: ws') (hlen : (lg_sl As).length ≤ nL) (hlv : lv_args 0 As = lv0)
    (body : ∀ Γ : Cxt, CX Γ l D tys nL cc y.cls wsy rm → EV Γ post w' → (y.name = "<init>" → isInit Γ) → G Γ nL 0 0 w lv0 0 []) : CV l D tys y wsy rm As w post w' := by
  subst hlv
  intro sz
  refine Met.ofW (cc := cc) (maxL := nL) (ret := none) hy hw ?_
  intro p e s m args below meth c s₁ B hml hv
  obtain ⟨rfl, hsz, hP, hK, hD0, hE⟩ := hv
  subst hsz
  have hl := lv_entry As (n := nL) hlen
  rw [lg_entry_eq]
  exact body (p, l, e, rm, s, m, As.toArray, below, meth, c, D, tys, va_A w s.heap.size, _) ⟨rfl, rfl, rfl, rfl, B.exec, B.bytes, hml, findClass_of_methodNamed B.named, atoms_spec (ws := wsy) B.pre, hK, fun q h => Or.inr h, B.notSynchronized, hE⟩ ⟨B.returns, rfl⟩ (fun h => (name_of_methodNamed B.named B.method).1.trans h) s.heap [] _ hP hD0.self va_S.rf hl
theorem ofG_F {post : UInt32 → S → Prop} {w' : S → va_W} (hy : plainName y.cls = true) (hw : wsy = Cond.code y cc nL (some .float) :: ws') (hlen : (lg_sl As).length ≤ nL) (hlv : lv_args 0 As = lv0)
    (body : ∀ Γ : Cxt, CX Γ l D tys nL cc y.cls wsy rm → EF Γ post w' → G Γ nL 0 0 w lv0 0 []) : CF l D tys y wsy rm As w post w' := by
  subst hlv
  intro sz
  refine Met.ofW (cc := cc) (maxL := nL) (ret := some .float) hy hw ?_
  intro p e s m args below meth c s₁ B hml hv
  obtain ⟨rfl, hsz, hP, hK, hD0, hE⟩ := hv
  subst hsz
  have hl := lv_entry As (n := nL) hlen
  rw [lg_entry_eq]
  exact body (p, l, e, rm, s, m, As.toArray, below, meth, c, D, tys, va_A w s.heap.size, _) ⟨rfl, rfl, rfl, rfl, B.exec, B.bytes, hml, findClass_of_methodNamed B.named, atoms_spec (ws := wsy) B.pre, hK, fun q h => Or.inr h, B.notSynchronized, hE⟩ ⟨B.returns, rfl⟩ s.heap [] _ hP hD0.self va_S.rf hl
end OFG
section ROWS
variable {Γ : Cxt} {l : Launch} {D : va_G} {tys : List (ClassId × FieldType)} {nL : Nat} {cc : ByteArray} {own : String} {Ts : List Cond} {R : Room} {k n : Nat} {ws : va_W} {lv : List (Nat × Value)} {pc : Nat} {st : List Value}
theorem g_iret (X : CX Γ l D tys nL cc own Ts R) {S : Type} {post : Int32 → S → Prop} {w' : S → va_W} (E : EI Γ (some .int) post w') {v : Int32} (hd : decode cc pc = .ok (.ireturn, 1)) (u : S) (hw : w' u = ws) (hk : k ≤ R.cells) (hn : n ≤ R.slots) (hp : post v u) : G Γ nL k n ws lv pc [.int v] := by
  obtain ⟨p, l', e, R', s, m, args, below, meth, c, D', tys', A, Q⟩ := Γ
  obtain ⟨rfl, rfl, rfl, rfl, hx, hb, hml, hown, hts, hK, hA, hlk, hE⟩ := X
  obtain ⟨hr, rfl⟩ := E
  subst hw
  intro H locs ls hP hD hS hh
  refine W.widen hk hn ?_
  exact W.iret (v := v) hx hb hr (fun t ht hW => ⟨⟨v, u, rfl, hp, by rw [ht]; exact hP, va_K.moved hW.alike hK, hD⟩, hS.F ht⟩) hS.2.2 hd hlk
theorem g_zret (X : CX Γ l D tys nL cc own Ts R) {S : Type} {post : Int32 → S → Prop} {w' : S → va_W} (E : EI Γ (some .boolean) post w') {v : Int32} (hd : decode cc pc = .ok (.ireturn, 1)) (u : S) (hw : w' u = ws) (hk : k ≤ R.cells) (hn : n ≤ R.slots) (hv : narrow .boolean (.int v) = .int v) (hp : post v u) : G Γ nL k n ws lv pc [.int v] := by
  obtain ⟨p, l', e, R', s, m, args, below, meth, c, D', tys', A, Q⟩ := Γ
  obtain ⟨rfl, rfl, rfl, rfl, hx, hb, hml, hown, hts, hK, hA, hlk, hE⟩ := X
  obtain ⟨hr, rfl⟩ := E
  subst hw
  intro H locs ls hP hD hS hh
  refine W.widen hk hn ?_
  exact W.zret (v := v) hx hb hr hv (fun t ht hW => ⟨⟨v, u, rfl, hp, by rw [ht]; exact hP, va_K.moved hW.alike hK, hD⟩, hS.F ht⟩) hS.2.2 hd hlk
theorem g_vret (X : CX Γ l D tys nL cc own Ts R) {S : Type} {post : S → Prop} {w' : S → va_W} (E : EV Γ post w') (hd : decode cc pc = .ok (.return_, 1)) (u : S) (hw : w' u = ws) (hk : k ≤ R.cells) (hn : n ≤ R.slots) (hp : post u) : G Γ nL k n ws lv pc [] := by
  obtain ⟨p, l', e, R', s, m, args, below, meth, c, D', tys', A, Q⟩ := Γ
  obtain ⟨rfl, rfl, rfl, rfl, hx, hb, hml, hown, hts, hK, hA, hlk, hE⟩ := X
  obtain ⟨hr, rfl⟩ := E
  subst hw
  intro H locs ls hP hD hS hh
  refine W.widen hk hn ?_
  exact W.vret hx hb hr (fun t ht hW => ⟨⟨u, rfl, hp, by rw [ht]; exact hP, va_K.moved hW.alike hK, hD⟩, hS.F ht⟩) hS.2.2 hd hlk
theorem g_fret (X : CX Γ l D tys nL cc own Ts R) {S : Type} {post : UInt32 → S → Prop} {w' : S → va_W} (E : EF Γ post w') {v : UInt32} (hd : decode cc pc = .ok (.freturn, 1)) (u : S) (hw : w' u = ws) (hk : k ≤ R.cells) (hn : n ≤ R.slots) (hp : post v u) : G Γ nL k n ws lv pc [.float v] := by
  obtain ⟨p, l', e, R', s, m, args, below, meth, c, D', tys', A, Q⟩ := Γ
  obtain ⟨rfl, rfl, rfl, rfl, hx, hb, hml, hown, hts, hK, hA, hlk, hE⟩ := X
  obtain ⟨hr, rfl⟩ := E
  subst hw
  intro H locs ls hP hD hS hh
  refine W.widen hk hn ?_
  exact W.fret (v := v) hx hb hr (fun t ht hW => ⟨⟨v, u, rfl, hp, by rw [ht]; exact hP, va_K.moved hW.alike hK, hD⟩, hS.F ht⟩) hS.2.2 hd hlk
/-- a name that no class of method handles bears, and its count of parameters -/
abbrev okName (y : MethodName) (nA : Nat) : Prop := y.cls ≠ "java/lang/invoke/MethodHandle" ∧ y.cls ≠ "java/lang/invoke/VarHandle" ∧ (parseMethodDescriptor y.desc).map (fun d => d.parameters.length) = some nA
abbrev roomOk (rm R : Room) (maxL : Nat) : Prop := rm.frames + 1 ≤ R.frames ∧ 8 + (maxL + 11) + rm.locals ≤ R.locals
theorem preC_here {D : va_G} {tys : List (ClassId × FieldType)} {As : List Value} {w : va_W} {s : State} {H : Heap} {A : Nat → Prop} (hP : va_P D vwCl w H) (hK : va_K D vwCl tys s) (hD : va_D A w) (hE : EnvS s) : ∀ U : State, U.heap = H → s.WarmedH U.vm → PreC D tys As w H.size As.toArray U :=
  fun U hU hW => ⟨rfl, by rw [hU], by rw [hU]; exact hP, va_K.moved hW.alike hK, hD.weaken (fun _ _ _ _ => trivial), hE.warm hW⟩
theorem filt_of {α : Type} {ws wc : List α} {is : List Nat} (h : is.map (fun i => ws[i]?) = wc.map some) : is.filterMap (fun i => ws[i]?) = wc := by
  have h9 : is.filterMap (fun i => ws[i]?) = (is.map (fun i => ws[i]?)).filterMap id := by rw [List.filterMap_map]; rfl
  rw [h9, h, List.filterMap_map]
  simp
/-- how a call's cells are cut out of the world: the places of the callee's, the places of the rest -/
abbrev cut (ws w wr : va_W) (isC isR : List Nat) : Prop := isC.map (fun i => ws[i]?) = w.map some ∧ va_nd isC = true ∧ isR.map (fun i => ws[i]?) = wr.map some ∧ va_nd isR = true ∧ ∀ i ∈ isR, i ∉ isC
theorem g_after {p : Program} {l : Launch} {e : Env} {R : Room} {s : State} {m : MethodId} {args : Array Value} {below : List Frame} {meth : Method} {c : Code} {D : va_G} {tys : List (ClassId × FieldType)} {A : Nat → Prop} {Q : State → Prop} {w wr : va_W} {isC isR : List Nat} {H H1 : Heap} {t : State} {st : List Value} {ls : Array Slot} {locs : List Loc} {S : Type} {w' : S → va_W} {u : S}
    (hcut : cut ws w wr isC isR) (hP : va_P D vwCl ws H) (hD : va_D A ws) (hF : ∀ q, va_A w H.size q → A q) (ht : t.heap = H1) (hB : BC D tys (va_A w H.size) w' u t) (hk1 : ∀ q : Nat, q < H.size → ¬ va_A w H.size q → H1[q]? = H[q]?) (hS : va_S A s.heap H1 locs) (hh : lv_has ls nL lv)
    (kk : G (p, l, e, R, s, m, args, below, meth, c, D, tys, A, Q) nL k n (wr ++ w' u) lv pc st) : W p l e R s m args below meth c H1 locs k n Q (F0 m pc ls st) := by
  obtain ⟨hC, hnC, hR, hnR, hdis⟩ := hcut
  obtain ⟨hP1, hK1, hD1⟩ := hB
  rw [ht] at hP1
  obtain ⟨hP2, hD2⟩ := va_join hP hD isC isR hC hR hnR hdis hk1 hF hP1 hD1
  exact kk H1 locs ls hP2 hD2 hS hh
theorem g_callVi (X : CX Γ l D tys nL cc own Ts R) {C : String} {y : MethodName} {bytes : ByteArray} {maxL nA index b ci : Nat} {ret : Option FieldType} {wsy wsy' : List Cond} {rm : Room} {As rest : List Value} {w wr : va_W} {S : Type} {post : Int32 → S → Prop} {w' : S → va_W} {fs : List Value} {q : vw_C}
    (hd : decode cc pc = .ok (.invokevirtual index, 3)) (hM : CI l D tys y wsy rm (.ref b :: As) w post w') (hG : GoodIn Ts (wsV own index C y wsy)) (hw : wsy = Cond.code y bytes maxL ret :: wsy') (hyC : y.cls = C) (hy : okName y nA) (hnA : As.length = nA) (hst : As.reverse ++ .ref b :: rest = st) (hR : roomOk rm R maxL) (hkc : k + rm.cells ≤ R.cells ∧ n + rm.slots ≤ R.slots) (hcat : (rest.map fun v => v.category).sum ≤ 8)
    (isC isR : List Nat) (hcut : cut ws w wr isC isR) (r0 : Nat) (hrc : vwCl[ci]? = some q) (hrw : w[r0]? = some (b, .inr (ci, fs))) (hrC : q.1 = C)
    (kk : ∀ (r : Int32) (u : S), post r u → G Γ nL (k + rm.cells) (n + rm.slots) (wr ++ w' u) lv (pc + 3) (.int r :: rest)) : G Γ nL k n ws lv pc st := by
  obtain ⟨p, l', e, R', s, m, args, below, meth, c, D', tys', A, Q⟩ := Γ
  obtain ⟨rfl, rfl, rfl, rfl, hx, hb, hml, hown, hts, hK, hA, hlk, hE⟩ := X
  subst hst
  subst hrC
  intro H locs ls hP hD hS hh
  have hPc := hP.sub isC (filt_of hcut.1)
  have hDc := hD.sub isC hcut.2.1 hcut.1
  have hF := va_free (wc := w) hD hS hA isC hcut.1
  refine va_calli (va_runV (As := As) (rest := rest) ⟨hx, hb, hml, hown, hts⟩ (hM H.size) (cwV nA hts hG hw rfl rfl ⟨hyC, hy⟩ hR) ⟨PreC.blind, va_recv hK hPc hrc hrw, preC_here hPc hK hDc hE⟩ rfl hnA hh.1 rfl (lv_room hcat) hd hkc) hS (fun q _ h => hF q h) hF (fun r u t H1 locs1 ht hvm hp hB hz1 hk1 hS1 => ?_)
  exact g_after hcut hP hD hF ht hB hk1 hS1 hh (kk r u hp)
theorem g_callVv (X : CX Γ l D tys nL cc own Ts R) {C : String} {y : MethodName} {bytes : ByteArray} {maxL nA index b ci : Nat} {ret : Option FieldType} {wsy wsy' : List Cond} {rm : Room} {As rest : List Value} {w wr : va_W} {S : Type} {post : S → Prop} {w' : S → va_W} {fs : List Value} {q : vw_C}
    (hd : decode cc pc = .ok (.invokevirtual index, 3)) (hM : CV l D tys y wsy rm (.ref b :: As) w post w') (hG : GoodIn Ts (wsV own index C y wsy)) (hw : wsy = Cond.code y bytes maxL ret :: wsy') (hyC : y.cls = C) (hy : okName y nA) (hnA : As.length = nA) (hst : As.reverse ++ .ref b :: rest = st) (hR : roomOk rm R maxL) (hkc : k + rm.cells ≤ R.cells ∧ n + rm.slots ≤ R.slots) (hcat : (rest.map fun v => v.category).sum ≤ 8)
    (isC isR : List Nat) (hcut : cut ws w wr isC isR) (r0 : Nat) (hrc : vwCl[ci]? = some q) (hrw : w[r0]? = some (b, .inr (ci, fs))) (hrC : q.1 = C)
    (kk : ∀ (u : S), post u → G Γ nL (k + rm.cells) (n + rm.slots) (wr ++ w' u) lv (pc + 3) rest) : G Γ nL k n ws lv pc st := by
  obtain ⟨p, l', e, R', s, m, args, below, meth, c, D', tys', A, Q⟩ := Γ
  obtain ⟨rfl, rfl, rfl, rfl, hx, hb, hml, hown, hts, hK, hA, hlk, hE⟩ := X
  subst hst
  subst hrC
  intro H locs ls hP hD hS hh
  have hPc := hP.sub isC (filt_of hcut.1)
  have hDc := hD.sub isC hcut.2.1 hcut.1
  have hF := va_free (wc := w) hD hS hA isC hcut.1
  refine va_callv (va_runV (As := As) (rest := rest) ⟨hx, hb, hml, hown, hts⟩ (hM H.size) (cwV nA hts hG hw rfl rfl ⟨hyC, hy⟩ hR) ⟨PreC.blind, va_recv hK hPc hrc hrw, preC_here hPc hK hDc hE⟩ rfl hnA hh.1 rfl (lv_room hcat) hd hkc) hS (fun q _ h => hF q h) hF (fun u t H1 locs1 ht hvm hp hB hz1 hk1 hS1 => ?_)
  exact g_after hcut hP hD hF ht hB hk1 hS1 hh (kk u hp)
theorem g_callVf (X : CX Γ l D tys nL cc own Ts R) {C : String} {y : MethodName} {bytes : ByteArray} {maxL nA index b ci : Nat} {ret : Option FieldType} {wsy wsy' : List Cond} {rm : Room} {As rest : List Value} {w wr : va_W} {S : Type} {post : UInt32 → S → Prop} {w' : S → va_W} {fs : List Value} {q : vw_C}
    (hd : decode cc pc = .ok (.invokevirtual index, 3)) (hM : CF l D tys y wsy rm (.ref b :: As) w post w') (hG : GoodIn Ts (wsV own index C y wsy)) (hw : wsy = Cond.code y bytes maxL ret :: wsy') (hyC : y.cls = C) (hy : okName y nA) (hnA : As.length = nA) (hst : As.reverse ++ .ref b :: rest = st) (hR : roomOk rm R maxL) (hkc : k + rm.cells ≤ R.cells ∧ n + rm.slots ≤ R.slots) (hcat : (rest.map fun v => v.category).sum ≤ 8)
    (isC isR : List Nat) (hcut : cut ws w wr isC isR) (r0 : Nat) (hrc : vwCl[ci]? = some q) (hrw : w[r0]? = some (b, .inr (ci, fs))) (hrC : q.1 = C)
    (kk : ∀ (r : UInt32) (u : S), post r u → G Γ nL (k + rm.cells) (n + rm.slots) (wr ++ w' u) lv (pc + 3) (.float r :: rest)) : G Γ nL k n ws lv pc st := by
  obtain ⟨p, l', e, R', s, m, args, below, meth, c, D', tys', A, Q⟩ := Γ
  obtain ⟨rfl, rfl, rfl, rfl, hx, hb, hml, hown, hts, hK, hA, hlk, hE⟩ := X
  subst hst
  subst hrC
  intro H locs ls hP hD hS hh
  have hPc := hP.sub isC (filt_of hcut.1)
  have hDc := hD.sub isC hcut.2.1 hcut.1
  have hF := va_free (wc := w) hD hS hA isC hcut.1
  refine va_callf (va_runV (As := As) (rest := rest) ⟨hx, hb, hml, hown, hts⟩ (hM H.size) (cwV nA hts hG hw rfl rfl ⟨hyC, hy⟩ hR) ⟨PreC.blind, va_recv hK hPc hrc hrw, preC_here hPc hK hDc hE⟩ rfl hnA hh.1 rfl (lv_room hcat) hd hkc) hS (fun q _ h => hF q h) hF (fun r u t H1 locs1 ht hvm hp hB hz1 hk1 hS1 => ?_)
  exact g_after hcut hP hD hF ht hB hk1 hS1 hh (kk r u hp)
theorem g_callSi (X : CX Γ l D tys nL cc own Ts R) {y : MethodName} {bytes : ByteArray} {maxL nA index : Nat} {ret : Option FieldType} {wsy wsy' : List Cond} {rm : Room} {As rest : List Value} {w wr : va_W} {S : Type} {post : Int32 → S → Prop} {w' : S → va_W}
    (hd : decode cc pc = .ok (.invokestatic index, 3)) (hM : CI l D tys y wsy rm As w post w') (hG : GoodIn Ts (va_wsS own index y wsy)) (hw : wsy = Cond.code y bytes maxL ret :: wsy') (hyC : y.cls = own) (hy : okName y nA) (hnA : As.length = nA) (hst : As.reverse ++ rest = st) (hR : roomOk rm R maxL) (hkc : k + rm.cells ≤ R.cells ∧ n + rm.slots ≤ R.slots) (hcat : (rest.map fun v => v.category).sum ≤ 8)
    (isC isR : List Nat) (hcut : cut ws w wr isC isR)
    (kk : ∀ (r : Int32) (u : S), post r u → G Γ nL (k + rm.cells) (n + rm.slots) (wr ++ w' u) lv (pc + 3) (.int r :: rest)) : G Γ nL k n ws lv pc st := by
  obtain ⟨p, l', e, R', s, m, args, below, meth, c, D', tys', A, Q⟩ := Γ
  obtain ⟨rfl, rfl, rfl, rfl, hx, hb, hml, hown, hts, hK, hA, hlk, hE⟩ := X
  subst hst
  subst hyC
  intro H locs ls hP hD hS hh
  have hPc := hP.sub isC (filt_of hcut.1)
  have hDc := hD.sub isC hcut.2.1 hcut.1
  have hF := va_free (wc := w) hD hS hA isC hcut.1
  refine va_calli (va_runS (As := As) (rest := rest) ⟨hx, hb, hml, hown, hts⟩ (hM H.size) (cwS nA hts hG hw rfl rfl ⟨rfl, hy⟩ hR) ⟨PreC.blind, preC_here hPc hK hDc hE⟩ rfl hnA hh.1 rfl (lv_room hcat) hd hkc) hS (fun q _ h => hF q h) hF (fun r u t H1 locs1 ht hvm hp hB hz1 hk1 hS1 => ?_)
  exact g_after hcut hP hD hF ht hB hk1 hS1 hh (kk r u hp)
/-- a nest mate's private static method: its link is the i0-th of 'nests' -/
theorem g_callNi (X : CX Γ l D tys nL cc own Ts R) {y : MethodName} {host : String} {bytes : ByteArray} {maxL nA index : Nat} {ret : Option FieldType} {wsy wsy' : List Cond} {rm : Room} {As rest : List Value} {w wr : va_W} {S : Type} {post : Int32 → S → Prop} {w' : S → va_W}
    (hd : decode cc pc = .ok (.invokestatic index, 3)) (hM : CI l D tys y wsy rm As w post w') (hG : GoodIn Ts wsy) (hw : wsy = Cond.code y bytes maxL ret :: wsy') (i0 : Nat) (hi0 : nests[i0]? = some (.methodLinkNest own index y host)) (hin : Cond.initialized y.cls ∈ Ts) (hstc : Cond.static y ∈ Ts) (hy : okName y nA) (hnA : As.length = nA) (hst : As.reverse ++ rest = st) (hR : roomOk rm R maxL) (hkc : k + rm.cells ≤ R.cells ∧ n + rm.slots ≤ R.slots) (hcat : (rest.map fun v => v.category).sum ≤ 8)
    (isC isR : List Nat) (hcut : cut ws w wr isC isR)
    (kk : ∀ (r : Int32) (u : S), post r u → G Γ nL (k + rm.cells) (n + rm.slots) (wr ++ w' u) lv (pc + 3) (.int r :: rest)) : G Γ nL k n ws lv pc st := by
  obtain ⟨p, l', e, R', s, m, args, below, meth, c, D', tys', A, Q⟩ := Γ
  obtain ⟨rfl, rfl, rfl, rfl, hx, hb, hml, hown, hts, hK, hA, hlk, hE⟩ := X
  subst hst
  intro H locs ls hP hD hS hh
  have hPc := hP.sub isC (filt_of hcut.1)
  have hDc := hD.sub isC hcut.2.1 hcut.1
  have hF := va_free (wc := w) hD hS hA isC hcut.1
  refine va_calli (va_runSN (As := As) (rest := rest) ⟨hx, hb, hml, hown, hts⟩ (hM H.size) ⟨va_cnB nA hts hG hw rfl rfl (hE.nestN i0 hi0) (hts _ hin) hy hR, hts _ hstc, trivial⟩ ⟨PreC.blind, preC_here hPc hK hDc hE⟩ rfl hnA hh.1 rfl (lv_room hcat) hd hkc) hS (fun q _ h => hF q h) hF (fun r u t H1 locs1 ht hvm hp hB hz1 hk1 hS1 => ?_)
  exact g_after hcut hP hD hF ht hB hk1 hS1 hh (kk r u hp)
/-- a constructor -/
theorem g_callI (X : CX Γ l D tys nL cc own Ts R) {y : MethodName} {bytes : ByteArray} {maxL nA index b : Nat} {wsy wsy' : List Cond} {rm : Room} {As rest : List Value} {w wr : va_W} {S : Type} {post : S → Prop} {w' : S → va_W}
    (hd : decode cc pc = .ok (.invokespecial index, 3)) (hM : CV l D tys y wsy rm (.ref b :: As) w post w') (hG : GoodIn Ts wsy) (hw : wsy = Cond.code y bytes maxL none :: wsy') (hin : Cond.initialized y.cls ∈ Ts) (hln : Cond.methodLink own index y ∈ Ts) (him : Cond.instanceMethod y ∈ Ts) (hyn : y.name = "<init>") (hy : okName y nA) (hnA : As.length = nA) (hst : As.reverse ++ .ref b :: rest = st) (hR : roomOk rm R maxL) (hkc : k + rm.cells ≤ R.cells ∧ n + rm.slots ≤ R.slots) (hcat : (rest.map fun v => v.category).sum ≤ 8)
    (isC isR : List Nat) (hcut : cut ws w wr isC isR)
    (kk : ∀ (u : S), post u → G Γ nL (k + rm.cells) (n + rm.slots) (wr ++ w' u) lv (pc + 3) rest) : G Γ nL k n ws lv pc st := by
  obtain ⟨p, l', e, R', s, m, args, below, meth, c, D', tys', A, Q⟩ := Γ
  obtain ⟨rfl, rfl, rfl, rfl, hx, hb, hml, hown, hts, hK, hA, hlk, hE⟩ := X
  subst hst
  intro H locs ls hP hD hS hh
  have hPc := hP.sub isC (filt_of hcut.1)
  have hDc := hD.sub isC hcut.2.1 hcut.1
  have hF := va_free (wc := w) hD hS hA isC hcut.1
  refine va_callv (va_runI (As := As) (rest := rest) ⟨hx, hb, hml, hown, hts⟩ (hM H.size) (cwI nA hts hG hw rfl rfl (hts _ hin) (hts _ hln) (hts _ him) hyn hy hR) ⟨PreC.blind, preC_here hPc hK hDc hE⟩ rfl hnA hh.1 rfl (lv_room hcat) hd hkc) hS (fun q _ h => hF q h) hF (fun u t H1 locs1 ht hvm hp hB hz1 hk1 hS1 => ?_)
  exact g_after hcut hP hD hF ht hB hk1 hS1 hh (kk u hp)
/-- a nest mate's private constructor -/
theorem g_callIN (X : CX Γ l D tys nL cc own Ts R) {y : MethodName} {host : String} {bytes : ByteArray} {maxL nA index b : Nat} {wsy wsy' : List Cond} {rm : Room} {As rest : List Value} {w wr : va_W} {S : Type} {post : S → Prop} {w' : S → va_W}
    (hd : decode cc pc = .ok (.invokespecial index, 3)) (hM : CV l D tys y wsy rm (.ref b :: As) w post w') (hG : GoodIn Ts wsy) (hw : wsy = Cond.code y bytes maxL none :: wsy') (i0 : Nat) (hi0 : nests[i0]? = some (.methodLinkNest own index y host)) (hin : Cond.initialized y.cls ∈ Ts) (him : Cond.instanceMethod y ∈ Ts) (hyn : y.name = "<init>") (hy : okName y nA) (hnA : As.length = nA) (hst : As.reverse ++ .ref b :: rest = st) (hR : roomOk rm R maxL) (hkc : k + rm.cells ≤ R.cells ∧ n + rm.slots ≤ R.slots) (hcat : (rest.map fun v => v.category).sum ≤ 8)
    (isC isR : List Nat) (hcut : cut ws w wr isC isR)
    (kk : ∀ (u : S), post u → G Γ nL (k + rm.cells) (n + rm.slots) (wr ++ w' u) lv (pc + 3) rest) : G Γ nL k n ws lv pc st := by
  obtain ⟨p, l', e, R', s, m, args, below, meth, c, D', tys', A, Q⟩ := Γ
  obtain ⟨rfl, rfl, rfl, rfl, hx, hb, hml, hown, hts, hK, hA, hlk, hE⟩ := X
  subst hst
  intro H locs ls hP hD hS hh
  have hPc := hP.sub isC (filt_of hcut.1)
  have hDc := hD.sub isC hcut.2.1 hcut.1
  have hF := va_free (wc := w) hD hS hA isC hcut.1
  refine va_callv (va_runIN (As := As) (rest := rest) ⟨hx, hb, hml, hown, hts⟩ (hM H.size) ⟨va_cnB nA hts hG hw rfl rfl (hE.nestN i0 hi0) (hts _ hin) hy hR, hyn, hts _ him⟩ ⟨PreC.blind, preC_here hPc hK hDc hE⟩ rfl hnA hh.1 rfl (lv_room hcat) hd hkc) hS (fun q _ h => hF q h) hF (fun u t H1 locs1 ht hvm hp hB hz1 hk1 hS1 => ?_)
  exact g_after hcut hP hD hF ht hB hk1 hS1 hh (kk u hp)
end ROWS
theorem g_icmp_geN {Γ : Cxt} {l : Launch} {D : va_G} {tys : List (ClassId × FieldType)} {nL : Nat} {cc : ByteArray} {own : String} {Ts : List Cond} {R : Room} (X : CX Γ l D tys nL cc own Ts R) {k n : Nat} {ws : va_W} {lv : List (Nat × Value)} {pc : Nat} {st : List Value} {a b : Nat} {off : Int} {tgt : Nat} (hd : decode cc pc = .ok (.if_icmp .ge off, 3)) (ht : (pc : Int) + off = (tgt : Int)) (ha : a < 2 ^ 31) (hb : b < 2 ^ 31) (kt : b ≤ a → G Γ nL k n ws lv tgt (st)) (kf : a < b → G Γ nL k n ws lv (pc + 3) (st)) : G Γ nL k n ws lv pc (.int (nI b) :: .int (nI a) :: st) := g_icmp_ge X hd ht (fun h => kt ((nI_leI hb ha).mp h)) (fun h => kf (Nat.lt_of_not_le (fun q => h ((nI_leI hb ha).mpr q))))
theorem g_icmp_ltN {Γ : Cxt} {l : Launch} {D : va_G} {tys : List (ClassId × FieldType)} {nL : Nat} {cc : ByteArray} {own : String} {Ts : List Cond} {R : Room} (X : CX Γ l D tys nL cc own Ts R) {k n : Nat} {ws : va_W} {lv : List (Nat × Value)} {pc : Nat} {st : List Value} {a b : Nat} {off : Int} {tgt : Nat} (hd : decode cc pc = .ok (.if_icmp .lt off, 3)) (ht : (pc : Int) + off = (tgt : Int)) (ha : a < 2 ^ 31) (hb : b < 2 ^ 31) (kt : a < b → G Γ nL k n ws lv tgt (st)) (kf : b ≤ a → G Γ nL k n ws lv (pc + 3) (st)) : G Γ nL k n ws lv pc (.int (nI b) :: .int (nI a) :: st) := g_icmp_lt X hd ht (fun h => kt ((nI_ltI ha hb).mp h)) (fun h => kf (Nat.le_of_not_lt (fun q => h ((nI_ltI ha hb).mpr q))))
theorem g_icmp_gtN {Γ : Cxt} {l : Launch} {D : va_G} {tys : List (ClassId × FieldType)} {nL : Nat} {cc : ByteArray} {own : String} {Ts : List Cond} {R : Room} (X : CX Γ l D tys nL cc own Ts R) {k n : Nat} {ws : va_W} {lv : List (Nat × Value)} {pc : Nat} {st : List Value} {a b : Nat} {off : Int} {tgt : Nat} (hd : decode cc pc = .ok (.if_icmp .gt off, 3)) (ht : (pc : Int) + off = (tgt : Int)) (ha : a < 2 ^ 31) (hb : b < 2 ^ 31) (kt : b < a → G Γ nL k n ws lv tgt (st)) (kf : a ≤ b → G Γ nL k n ws lv (pc + 3) (st)) : G Γ nL k n ws lv pc (.int (nI b) :: .int (nI a) :: st) := g_icmp_gt X hd ht (fun h => kt ((nI_ltI hb ha).mp h)) (fun h => kf (Nat.le_of_not_lt (fun q => h ((nI_ltI hb ha).mpr q))))
theorem g_icmp_leN {Γ : Cxt} {l : Launch} {D : va_G} {tys : List (ClassId × FieldType)} {nL : Nat} {cc : ByteArray} {own : String} {Ts : List Cond} {R : Room} (X : CX Γ l D tys nL cc own Ts R) {k n : Nat} {ws : va_W} {lv : List (Nat × Value)} {pc : Nat} {st : List Value} {a b : Nat} {off : Int} {tgt : Nat} (hd : decode cc pc = .ok (.if_icmp .le off, 3)) (ht : (pc : Int) + off = (tgt : Int)) (ha : a < 2 ^ 31) (hb : b < 2 ^ 31) (kt : a ≤ b → G Γ nL k n ws lv tgt (st)) (kf : b < a → G Γ nL k n ws lv (pc + 3) (st)) : G Γ nL k n ws lv pc (.int (nI b) :: .int (nI a) :: st) := g_icmp_le X hd ht (fun h => kt ((nI_leI ha hb).mp h)) (fun h => kf (Nat.lt_of_not_le (fun q => h ((nI_leI ha hb).mpr q))))
theorem g_icmp_eqN {Γ : Cxt} {l : Launch} {D : va_G} {tys : List (ClassId × FieldType)} {nL : Nat} {cc : ByteArray} {own : String} {Ts : List Cond} {R : Room} (X : CX Γ l D tys nL cc own Ts R) {k n : Nat} {ws : va_W} {lv : List (Nat × Value)} {pc : Nat} {st : List Value} {a b : Nat} {off : Int} {tgt : Nat} (hd : decode cc pc = .ok (.if_icmp .eq off, 3)) (ht : (pc : Int) + off = (tgt : Int)) (ha : a < 2 ^ 31) (hb : b < 2 ^ 31) (kt : a = b → G Γ nL k n ws lv tgt (st)) (kf : a ≠ b → G Γ nL k n ws lv (pc + 3) (st)) : G Γ nL k n ws lv pc (.int (nI b) :: .int (nI a) :: st) := g_icmp_eq X hd ht (fun h => kt ((nI_eq ha hb).mp h)) (fun h => kf (fun q => h ((nI_eq ha hb).mpr q)))
theorem g_icmp_neN {Γ : Cxt} {l : Launch} {D : va_G} {tys : List (ClassId × FieldType)} {nL : Nat} {cc : ByteArray} {own : String} {Ts : List Cond} {R : Room} (X : CX Γ l D tys nL cc own Ts R) {k n : Nat} {ws : va_W} {lv : List (Nat × Value)} {pc : Nat} {st : List Value} {a b : Nat} {off : Int} {tgt : Nat} (hd : decode cc pc = .ok (.if_icmp .ne off, 3)) (ht : (pc : Int) + off = (tgt : Int)) (ha : a < 2 ^ 31) (hb : b < 2 ^ 31) (kt : a ≠ b → G Γ nL k n ws lv tgt (st)) (kf : a = b → G Γ nL k n ws lv (pc + 3) (st)) : G Γ nL k n ws lv pc (.int (nI b) :: .int (nI a) :: st) := g_icmp_ne X hd ht (fun h => kt (fun q => h ((nI_eq ha hb).mpr q))) (fun h => kf ((nI_eq ha hb).mp h))
theorem g_if_eqN {Γ : Cxt} {l : Launch} {D : va_G} {tys : List (ClassId × FieldType)} {nL : Nat} {cc : ByteArray} {own : String} {Ts : List Cond} {R : Room} (X : CX Γ l D tys nL cc own Ts R) {k n : Nat} {ws : va_W} {lv : List (Nat × Value)} {pc : Nat} {st : List Value} {a : Nat} {off : Int} {tgt : Nat} (hd : decode cc pc = .ok (.ifCond .eq off, 3)) (ht : (pc : Int) + off = (tgt : Int)) (ha : a < 2 ^ 31) (kt : a = 0 → G Γ nL k n ws lv tgt (st)) (kf : a ≠ 0 → G Γ nL k n ws lv (pc + 3) (st)) : G Γ nL k n ws lv pc (.int (nI a) :: st) := g_if_eq X hd ht (fun h => kt ((show nI a = nI 0 ↔ a = 0 from nI_eq ha (by decide)).mp h)) (fun h => kf (fun q => h ((show nI a = nI 0 ↔ a = 0 from nI_eq ha (by decide)).mpr q)))
theorem g_if_neN {Γ : Cxt} {l : Launch} {D : va_G} {tys : List (ClassId × FieldType)} {nL : Nat} {cc : ByteArray} {own : String} {Ts : List Cond} {R : Room} (X : CX Γ l D tys nL cc own Ts R) {k n : Nat} {ws : va_W} {lv : List (Nat × Value)} {pc : Nat} {st : List Value} {a : Nat} {off : Int} {tgt : Nat} (hd : decode cc pc = .ok (.ifCond .ne off, 3)) (ht : (pc : Int) + off = (tgt : Int)) (ha : a < 2 ^ 31) (kt : a ≠ 0 → G Γ nL k n ws lv tgt (st)) (kf : a = 0 → G Γ nL k n ws lv (pc + 3) (st)) : G Γ nL k n ws lv pc (.int (nI a) :: st) := g_if_ne X hd ht (fun h => kt (fun q => h ((show nI a = nI 0 ↔ a = 0 from nI_eq ha (by decide)).mpr q))) (fun h => kf ((show nI a = nI 0 ↔ a = 0 from nI_eq ha (by decide)).mp h))
theorem g_if_ltN {Γ : Cxt} {l : Launch} {D : va_G} {tys : List (ClassId × FieldType)} {nL : Nat} {cc : ByteArray} {own : String} {Ts : List Cond} {R : Room} (X : CX Γ l D tys nL cc own Ts R) {k n : Nat} {ws : va_W} {lv : List (Nat × Value)} {pc : Nat} {st : List Value} {a : Nat} {off : Int} {tgt : Nat} (hd : decode cc pc = .ok (.ifCond .lt off, 3)) (ht : (pc : Int) + off = (tgt : Int)) (ha : a < 2 ^ 31) (kt : False → G Γ nL k n ws lv tgt (st)) (kf : True → G Γ nL k n ws lv (pc + 3) (st)) : G Γ nL k n ws lv pc (.int (nI a) :: st) := g_if_lt X hd ht (fun h => kt (nI_pos ha h)) (fun h => kf (trivial))
theorem g_if_geN {Γ : Cxt} {l : Launch} {D : va_G} {tys : List (ClassId × FieldType)} {nL : Nat} {cc : ByteArray} {own : String} {Ts : List Cond} {R : Room} (X : CX Γ l D tys nL cc own Ts R) {k n : Nat} {ws : va_W} {lv : List (Nat × Value)} {pc : Nat} {st : List Value} {a : Nat} {off : Int} {tgt : Nat} (hd : decode cc pc = .ok (.ifCond .ge off, 3)) (ht : (pc : Int) + off = (tgt : Int)) (ha : a < 2 ^ 31) (kt : True → G Γ nL k n ws lv tgt (st)) (kf : False → G Γ nL k n ws lv (pc + 3) (st)) : G Γ nL k n ws lv pc (.int (nI a) :: st) := g_if_ge X hd ht (fun h => kt (trivial)) (fun h => kf (h (nI_pos' ha)))
theorem g_if_gtN {Γ : Cxt} {l : Launch} {D : va_G} {tys : List (ClassId × FieldType)} {nL : Nat} {cc : ByteArray} {own : String} {Ts : List Cond} {R : Room} (X : CX Γ l D tys nL cc own Ts R) {k n : Nat} {ws : va_W} {lv : List (Nat × Value)} {pc : Nat} {st : List Value} {a : Nat} {off : Int} {tgt : Nat} (hd : decode cc pc = .ok (.ifCond .gt off, 3)) (ht : (pc : Int) + off = (tgt : Int)) (ha : a < 2 ^ 31) (kt : 0 < a → G Γ nL k n ws lv tgt (st)) (kf : a = 0 → G Γ nL k n ws lv (pc + 3) (st)) : G Γ nL k n ws lv pc (.int (nI a) :: st) := g_if_gt X hd ht (fun h => kt (Nat.pos_of_ne_zero (fun q => by rw [q] at h; exact absurd h (by decide)))) (fun h => kf (Nat.eq_zero_of_not_pos (fun q => h ((nI_ltI (a := 0) (b := a) (by decide) ha).mpr q))))
theorem g_if_leN {Γ : Cxt} {l : Launch} {D : va_G} {tys : List (ClassId × FieldType)} {nL : Nat} {cc : ByteArray} {own : String} {Ts : List Cond} {R : Room} (X : CX Γ l D tys nL cc own Ts R) {k n : Nat} {ws : va_W} {lv : List (Nat × Value)} {pc : Nat} {st : List Value} {a : Nat} {off : Int} {tgt : Nat} (hd : decode cc pc = .ok (.ifCond .le off, 3)) (ht : (pc : Int) + off = (tgt : Int)) (ha : a < 2 ^ 31) (kt : a = 0 → G Γ nL k n ws lv tgt (st)) (kf : 0 < a → G Γ nL k n ws lv (pc + 3) (st)) : G Γ nL k n ws lv pc (.int (nI a) :: st) := g_if_le X hd ht (fun h => kt (Nat.eq_zero_of_not_pos (fun q => nI_nle q ha h))) (fun h => kf (Nat.pos_of_ne_zero (fun q => h (by rw [q]; decide))))
theorem g_ialdN {Γ : Cxt} {l : Launch} {D : va_G} {tys : List (ClassId × FieldType)} {nL : Nat} {cc : ByteArray} {own : String} {Ts : List Cond} {R : Room} (X : CX Γ l D tys nL cc own Ts R) {k n : Nat} {ws : va_W} {lv : List (Nat × Value)} {pc : Nat} {st : List Value} {a : Nat} {cA : ClassId} {N c : Nat} {g : Nat → Int32} {v : Int32} (hd : decode cc pc = .ok (.iaload, 1)) (q0 t0 : Nat) (ha : ws[q0]? = some (a, .inl (cA, N, .inl g))) (ht : tys[t0]? = some (cA, .int)) (hc : c < N) (hN : N < 2 ^ 31) (hv : g c = v) (kk : G Γ nL k n ws lv (pc + 1) (.int v :: st)) : G Γ nL k n ws lv pc (.int (nI c) :: .ref a :: st) := g_iald X hd q0 t0 ha ht (vp_in_nI hc hN) (by rw [nI_clamp (Nat.lt_trans hc hN)]; exact hv) kk
theorem g_zaldN {Γ : Cxt} {l : Launch} {D : va_G} {tys : List (ClassId × FieldType)} {nL : Nat} {cc : ByteArray} {own : String} {Ts : List Cond} {R : Room} (X : CX Γ l D tys nL cc own Ts R) {k n : Nat} {ws : va_W} {lv : List (Nat × Value)} {pc : Nat} {st : List Value} {a : Nat} {cA : ClassId} {N c : Nat} {g : Nat → Int32} {v : Int32} (hd : decode cc pc = .ok (.baload, 1)) (q0 t0 : Nat) (ha : ws[q0]? = some (a, .inl (cA, N, .inl g))) (ht : tys[t0]? = some (cA, .boolean)) (hc : c < N) (hN : N < 2 ^ 31) (hv : g c = v) (kk : G Γ nL k n ws lv (pc + 1) (.int v :: st)) : G Γ nL k n ws lv pc (.int (nI c) :: .ref a :: st) := g_zald X hd q0 t0 ha ht (vp_in_nI hc hN) (by rw [nI_clamp (Nat.lt_trans hc hN)]; exact hv) kk
theorem g_laldN {Γ : Cxt} {l : Launch} {D : va_G} {tys : List (ClassId × FieldType)} {nL : Nat} {cc : ByteArray} {own : String} {Ts : List Cond} {R : Room} (X : CX Γ l D tys nL cc own Ts R) {k n : Nat} {ws : va_W} {lv : List (Nat × Value)} {pc : Nat} {st : List Value} {a : Nat} {cA : ClassId} {N c : Nat} {g : Nat → Int64} {v : Int64} (hd : decode cc pc = .ok (.laload, 1)) (q0 t0 : Nat) (ha : ws[q0]? = some (a, .inl (cA, N, .inr (.inl g)))) (ht : tys[t0]? = some (cA, .long)) (hc : c < N) (hN : N < 2 ^ 31) (hv : g c = v) (kk : G Γ nL k n ws lv (pc + 1) (.long v :: st)) : G Γ nL k n ws lv pc (.int (nI c) :: .ref a :: st) := g_lald X hd q0 t0 ha ht (vp_in_nI hc hN) (by rw [nI_clamp (Nat.lt_trans hc hN)]; exact hv) kk
theorem g_iastN {Γ : Cxt} {l : Launch} {D : va_G} {tys : List (ClassId × FieldType)} {nL : Nat} {cc : ByteArray} {own : String} {Ts : List Cond} {R : Room} (X : CX Γ l D tys nL cc own Ts R) {k n : Nat} {ws : va_W} {lv : List (Nat × Value)} {pc : Nat} {st : List Value} {a : Nat} {cA : ClassId} {N c : Nat} {g g' : Nat → Int32} {x : Int32} {ws' : va_W} (hd : decode cc pc = .ok (.iastore, 1)) (q0 t0 : Nat) (ha : ws[q0]? = some (a, .inl (cA, N, .inl g))) (ht : tys[t0]? = some (cA, .int)) (hc : c < N) (hN : N < 2 ^ 31) (hg : upd g c x = g') (hw : ws.set q0 (a, .inl (cA, N, .inl g')) = ws') (kk : G Γ nL k n ws' lv (pc + 1) (st)) : G Γ nL k n ws lv pc (.int x :: .int (nI c) :: .ref a :: st) := g_iast X hd q0 t0 ha ht (vp_in_nI hc hN) (by rw [nI_clamp (Nat.lt_trans hc hN)]; exact hg) hw kk
theorem g_zastN {Γ : Cxt} {l : Launch} {D : va_G} {tys : List (ClassId × FieldType)} {nL : Nat} {cc : ByteArray} {own : String} {Ts : List Cond} {R : Room} (X : CX Γ l D tys nL cc own Ts R) {k n : Nat} {ws : va_W} {lv : List (Nat × Value)} {pc : Nat} {st : List Value} {a : Nat} {cA : ClassId} {N c : Nat} {g g' : Nat → Int32} {x : Int32} {ws' : va_W} (hd : decode cc pc = .ok (.bastore, 1)) (q0 t0 : Nat) (ha : ws[q0]? = some (a, .inl (cA, N, .inl g))) (ht : tys[t0]? = some (cA, .boolean)) (hc : c < N) (hN : N < 2 ^ 31) (hx1 : vp_nar .boolean x = x) (hg : upd g c x = g') (hw : ws.set q0 (a, .inl (cA, N, .inl g')) = ws') (kk : G Γ nL k n ws' lv (pc + 1) (st)) : G Γ nL k n ws lv pc (.int x :: .int (nI c) :: .ref a :: st) := g_zast X hd q0 t0 ha ht (vp_in_nI hc hN) hx1 (by rw [nI_clamp (Nat.lt_trans hc hN)]; exact hg) hw kk
theorem g_lastN {Γ : Cxt} {l : Launch} {D : va_G} {tys : List (ClassId × FieldType)} {nL : Nat} {cc : ByteArray} {own : String} {Ts : List Cond} {R : Room} (X : CX Γ l D tys nL cc own Ts R) {k n : Nat} {ws : va_W} {lv : List (Nat × Value)} {pc : Nat} {st : List Value} {a : Nat} {cA : ClassId} {N c : Nat} {g g' : Nat → Int64} {x : Int64} {ws' : va_W} (hd : decode cc pc = .ok (.lastore, 1)) (q0 t0 : Nat) (ha : ws[q0]? = some (a, .inl (cA, N, .inr (.inl g)))) (ht : tys[t0]? = some (cA, .long)) (hc : c < N) (hN : N < 2 ^ 31) (hg : vp_updL g c x = g') (hw : ws.set q0 (a, .inl (cA, N, .inr (.inl g'))) = ws') (kk : G Γ nL k n ws' lv (pc + 1) (st)) : G Γ nL k n ws lv pc (.long x :: .int (nI c) :: .ref a :: st) := g_last X hd q0 t0 ha ht (vp_in_nI hc hN) (by rw [nI_clamp (Nat.lt_trans hc hN)]; exact hg) hw kk
theorem nI_inc (a : Nat) : nI a + Int32.ofInt 1 = nI (a + 1) := nI_1 a
theorem nI_incn (a z : Nat) (h : Int32.ofInt (z : Int) = nI z) : nI a + Int32.ofInt (z : Int) = nI (a + z) := by rw [h]; exact nI_add a z
abbrev chr_ (x : Int32) : Int32 := (x.toUInt32 % 65536).toInt32
theorem fs_X0 (j : Nat) (hj : j < 4) : defaultValue (tyX0 j) = vp_V [.null, .null, .int (nI 0), .int (nI 0)] j := by
  rcases (show j = 0 ∨ j = 1 ∨ j = 2 ∨ j = 3 by omega) with rfl | rfl | rfl | rfl <;> rfl
theorem fs_X1 (j : Nat) (hj : j < 4) : defaultValue (tyX1 j) = vp_V [.null, .null, .null, .null] j := by
  rcases (show j = 0 ∨ j = 1 ∨ j = 2 ∨ j = 3 by omega) with rfl | rfl | rfl | rfl <;> rfl
theorem fs_X2 (j : Nat) (hj : j < 2) : defaultValue (tyX2 j) = vp_V [.null, .int (nI 0)] j := by
  rcases (show j = 0 ∨ j = 1 by omega) with rfl | rfl <;> rfl
theorem fs_X3 (j : Nat) (hj : j < 1) : defaultValue (tyX3 j) = vp_V [.null] j := by
  rcases (show j = 0 by omega) with rfl <;> rfl
theorem fs_X4 (j : Nat) (hj : j < 8) : defaultValue (tyX4 j) = vp_V [.null, .null, .null, .null, .null, .null, .int (nI 0), .int (nI 0)] j := by
  rcases (show j = 0 ∨ j = 1 ∨ j = 2 ∨ j = 3 ∨ j = 4 ∨ j = 5 ∨ j = 6 ∨ j = 7 by omega) with rfl | rfl | rfl | rfl | rfl | rfl | rfl | rfl <;> rfl
theorem fs_X5 (j : Nat) (hj : j < 3) : defaultValue (tyX5 j) = vp_V [.null, .null, .int (nI 0)] j := by
  rcases (show j = 0 ∨ j = 1 ∨ j = 2 by omega) with rfl | rfl | rfl <;> rfl
theorem fs_X6 (j : Nat) (hj : j < 5) : defaultValue (tyX6 j) = vp_V [.null, .null, .null, .null, .null] j := by
  rcases (show j = 0 ∨ j = 1 ∨ j = 2 ∨ j = 3 ∨ j = 4 by omega) with rfl | rfl | rfl | rfl | rfl <;> rfl
theorem fs_X7 (j : Nat) (hj : j < 6) : defaultValue (tyX7 j) = vp_V [.null, .null, .null, .int (nI 0), .int (nI 0), .int (nI 0)] j := by
  rcases (show j = 0 ∨ j = 1 ∨ j = 2 ∨ j = 3 ∨ j = 4 ∨ j = 5 by omega) with rfl | rfl | rfl | rfl | rfl | rfl <;> rfl
theorem fs_X8 (j : Nat) (hj : j < 7) : defaultValue (tyX8 j) = vp_V [.null, .null, .null, .null, .null, .null, .null] j := by
  rcases (show j = 0 ∨ j = 1 ∨ j = 2 ∨ j = 3 ∨ j = 4 ∨ j = 5 ∨ j = 6 by omega) with rfl | rfl | rfl | rfl | rfl | rfl | rfl <;> rfl
theorem fs_X9 (j : Nat) (hj : j < 21) : defaultValue (tyX9 j) = vp_V [.null, .null, .null, .null, .null, .null, .null, .null, .null, .null, .null, .null, .null, .null, .int (nI 0), .int (nI 0), .int (nI 0), .int (nI 0), .int (nI 0), .int (nI 0), .int (nI 0)] j := by
  rcases (show j = 0 ∨ j = 1 ∨ j = 2 ∨ j = 3 ∨ j = 4 ∨ j = 5 ∨ j = 6 ∨ j = 7 ∨ j = 8 ∨ j = 9 ∨ j = 10 ∨ j = 11 ∨ j = 12 ∨ j = 13 ∨ j = 14 ∨ j = 15 ∨ j = 16 ∨ j = 17 ∨ j = 18 ∨ j = 19 ∨ j = 20 by omega) with rfl | rfl | rfl | rfl | rfl | rfl | rfl | rfl | rfl | rfl | rfl | rfl | rfl | rfl | rfl | rfl | rfl | rfl | rfl | rfl | rfl <;> rfl
/-- an array's content, by another that agrees with it in the array's places -/
theorem vp_cell_agree {cA : ClassId} {N : Nat} {f g : Nat → Int32} (h : ∀ j, j < N → f j = g j) : vp_cell cA (N, .inl f) = vp_cell cA (N, .inl g) := by
  show arrV cA N (fun j => Value.int (f j)) = arrV cA N (fun j => Value.int (g j))
  unfold arrV
  congr 1
  apply Array.ext
  · rw [Array.size_ofFn, Array.size_ofFn]
  · intro i h1 h2
    rw [Array.getElem_ofFn, Array.getElem_ofFn]
    rw [Array.size_ofFn] at h1
    show Value.int (f i) = Value.int (g i)
    rw [h i h1]
theorem g_arr {Γ : Cxt} {nL k n : Nat} {ws ws' : va_W} {lv : List (Nat × Value)} {pc : Nat} {st : List Value} (q0 : Nat) {a N : Nat} {cA : ClassId} {f g : Nat → Int32} (he : ws[q0]? = some (a, .inl (cA, N, .inl f))) (h : ∀ j, j < N → f j = g j) (hw : ws.set q0 (a, .inl (cA, N, .inl g)) = ws') (kk : G Γ nL k n ws' lv pc st) : G Γ nL k n ws lv pc st := by
  subst hw
  obtain ⟨p, l', e, R', s, m, args, below, meth, c, D', tys', A, Q⟩ := Γ
  intro H locs ls hP hD hS hh
  refine kk H locs ls (hP.set hD he ?_ (fun _ _ => rfl)) (hD.set he) hS hh
  have h1 := hP q0 _ he
  show H[a]? = some (vp_cell cA (N, .inl g))
  rw [← vp_cell_agree h]
  exact h1
theorem met_imp {l : Launch} {y : MethodName} {ws : List Cond} {rm : Room} {Pc : Array Value → State → Prop} {Qc Qd : Array Value → State → Outcome → State → Prop} {mc ms : Nat} {free : Addr → Prop} (h : Met l y ws rm Pc Qc mc ms free) (hq : ∀ a s o t, Qc a s o t → Qd a s o t) : Met l y ws rm Pc Qd mc ms free := by
  intro p e ha hc hk s m args below hf happ hP hK
  obtain ⟨n, o, h1, h2, h3, h4, h5⟩ := h p e ha hc hk s m args below hf happ hP hK
  exact ⟨n, o, h1, h2, h3, hq _ _ _ _ h4, h5⟩
theorem CI.imp {l : Launch} {D : va_G} {tys : List (ClassId × FieldType)} {y : MethodName} {wsy : List Cond} {rm : Room} {As : List Value} {w : va_W} {S S2 : Type} {post : Int32 → S → Prop} {w' : S → va_W} {post2 : Int32 → S2 → Prop} {w2 : S2 → va_W} (h : CI l D tys y wsy rm As w post w') (hi : ∀ r u, post r u → ∃ u2, post2 r u2 ∧ w2 u2 = w' u) : CI l D tys y wsy rm As w post2 w2 := by
  intro sz
  refine met_imp (h sz) ?_
  intro a st o t ⟨⟨r, u, e1, e2, e3⟩, hF⟩
  obtain ⟨u2, q1, q2⟩ := hi r u e2
  exact ⟨⟨r, u2, e1, q1, by show BC D tys _ w2 u2 t; unfold BC; rw [q2]; exact e3⟩, hF⟩
theorem CV.imp {l : Launch} {D : va_G} {tys : List (ClassId × FieldType)} {y : MethodName} {wsy : List Cond} {rm : Room} {As : List Value} {w : va_W} {S S2 : Type} {post : S → Prop} {w' : S → va_W} {post2 : S2 → Prop} {w2 : S2 → va_W} (h : CV l D tys y wsy rm As w post w') (hi : ∀ u, post u → ∃ u2, post2 u2 ∧ w2 u2 = w' u) : CV l D tys y wsy rm As w post2 w2 := by
  intro sz
  refine met_imp (h sz) ?_
  intro a st o t ⟨⟨u, e1, e2, e3⟩, hF⟩
  obtain ⟨u2, q1, q2⟩ := hi u e2
  exact ⟨⟨u2, e1, q1, by show BC D tys _ w2 u2 t; unfold BC; rw [q2]; exact e3⟩, hF⟩
/-! METHODS THAT MAY THROW -/
def EnvZ (A : Nat → Prop) (U : State) (H : Heap) : Prop := vx_Zq Bundle.tN "UNASSIGNED_STACK" Bundle.steD A U H ∧ vx_Zq Bundle.tN "SUPPRESSED_SENTINEL" Bundle.listD A U H
theorem EnvZ.moved {A : Nat → Prop} {u U : State} {H : Heap} (hvm : u.vm.Alike U.vm) (h : EnvZ A u H) : EnvZ A U H := ⟨vx_Zq.moved hvm h.1, vx_Zq.moved hvm h.2⟩
theorem EnvZ.kept {A : Nat → Prop} {U : State} {H H1 : Heap} (h : EnvZ A U H) (hq : ∀ a : Nat, a < H.size → ¬ A a → H1[a]? = H[a]?) : EnvZ A U H1 := ⟨h.1.kept hq, h.2.kept hq⟩
theorem EnvZ.narrow {A B : Nat → Prop} {U : State} {H : Heap} (h : EnvZ A U H) (hAB : ∀ q, B q → A q) : EnvZ B U H := ⟨h.1.narrow hAB, h.2.narrow hAB⟩
def PreX (D : va_G) (tys : List (ClassId × FieldType)) (As : List Value) (w : va_W) (sz : Nat) : Array Value → State → Prop := va_Pc As (fun U => U.heap.size = sz ∧ va_P D vwCl w U.heap ∧ va_K D vwCl tys U ∧ va_D (fun _ => True) w ∧ EnvS U ∧ EnvZ (va_A w sz) U U.heap)
def BX (D : va_G) (tys : List (ClassId × FieldType)) (A : Nat → Prop) {SX : Type} (pe : String → SX → Prop) (wx : SX → va_W) : String → SX → State → Prop := fun E u t => pe E u ∧ BC D tys A wx u t
def XI (l : Launch) (D : va_G) (tys : List (ClassId × FieldType)) (y : MethodName) (wsy : List Cond) (rm : Room) (As : List Value) (w : va_W) {S SX : Type} (post : Int32 → S → Prop) (w' : S → va_W) (pe : String → SX → Prop) (wx : SX → va_W) : Prop :=
  ∀ sz : Nat, vx_Met l y wsy rm (PreX D tys As w sz) (va_Qi post (BC D tys (va_A w sz) w') (va_A w sz)) (vx_X (fun _ => True) (BX D tys (va_A w sz) pe wx) (va_A w sz)) rm.cells rm.slots (va_A w sz)
def XV (l : Launch) (D : va_G) (tys : List (ClassId × FieldType)) (y : MethodName) (wsy : List Cond) (rm : Room) (As : List Value) (w : va_W) {S SX : Type} (post : S → Prop) (w' : S → va_W) (pe : String → SX → Prop) (wx : SX → va_W) : Prop :=
  ∀ sz : Nat, vx_Met l y wsy rm (PreX D tys As w sz) (va_Qv post (BC D tys (va_A w sz) w') (va_A w sz)) (vx_X (fun _ => True) (BX D tys (va_A w sz) pe wx) (va_A w sz)) rm.cells rm.slots (va_A w sz)
theorem PreX.blind {D : va_G} {tys : List (ClassId × FieldType)} {As : List Value} {w : va_W} {sz : Nat} : FrameBlind (PreX D tys As w sz) := fun a U g mk q => by
  obtain ⟨q0, q1, qP, qK, qD, qE, qZ⟩ := q
  exact ⟨q0, q1, qP, va_K.moved (u := U) (U := U.calling g mk a) (Vm.Alike.refl U.vm) qK, qD, EnvS.same (u := U) (U := U.calling g mk a) rfl qE, EnvZ.moved (u := U) (U := U.calling g mk a) (Vm.Alike.refl U.vm) qZ⟩
def EXI (Γ : Cxt) (ret : Option FieldType) {S SX : Type} (post : Int32 → S → Prop) (w' : S → va_W) (pe : String → SX → Prop) (wx : SX → va_W) : Prop := match Γ with
  | (_, l, _, R, s, _, args, below, meth, c, D, tys, A, Q) => meth.sig.returnType = ret ∧ (∀ x ∈ c.exceptionTable.toList, False) ∧ EnvZ A s s.heap ∧ l.stackTraces = false ∧ Q = vx_MQ below (va_Qi post (BC D tys A w') A) (vx_X (fun _ => True) (BX D tys A pe wx) A) args s R.cells R.slots A
def EXV (Γ : Cxt) {S SX : Type} (post : S → Prop) (w' : S → va_W) (pe : String → SX → Prop) (wx : SX → va_W) : Prop := match Γ with
  | (_, l, _, R, s, _, args, below, meth, c, D, tys, A, Q) => meth.sig.returnType = none ∧ (∀ x ∈ c.exceptionTable.toList, False) ∧ EnvZ A s s.heap ∧ l.stackTraces = false ∧ Q = vx_MQ below (va_Qv post (BC D tys A w') A) (vx_X (fun _ => True) (BX D tys A pe wx) A) args s R.cells R.slots A
/-- where a method throws to: its end by a throw of the class E in the world ws -/
def TX (Γ : Cxt) {SX : Type} (pe : String → SX → Prop) (wx : SX → va_W) : Prop := match Γ with
  | (_, l, _, R, s, _, args, below, _, c, D, tys, A, Q) => (∀ x ∈ c.exceptionTable.toList, False) ∧ EnvZ A s s.heap ∧ l.stackTraces = false ∧ ∃ Qc, Q = vx_MQ below Qc (vx_X (fun _ => True) (BX D tys A pe wx) A) args s R.cells R.slots A
theorem EXI.tx {Γ : Cxt} {ret : Option FieldType} {S SX : Type} {post : Int32 → S → Prop} {w' : S → va_W} {pe : String → SX → Prop} {wx : SX → va_W} (h : EXI Γ ret post w' pe wx) : TX Γ pe wx := by
  obtain ⟨p, l', e, R', s, m, args, below, meth, c, D', tys', A, Q⟩ := Γ
  obtain ⟨h1, h2, h3, h4, h5⟩ := h
  exact ⟨h2, h3, h4, _, h5⟩
theorem EXV.tx {Γ : Cxt} {S SX : Type} {post : S → Prop} {w' : S → va_W} {pe : String → SX → Prop} {wx : SX → va_W} (h : EXV Γ post w' pe wx) : TX Γ pe wx := by
  obtain ⟨p, l', e, R', s, m, args, below, meth, c, D', tys', A, Q⟩ := Γ
  obtain ⟨h1, h2, h3, h4, h5⟩ := h
  exact ⟨h2, h3, h4, _, h5⟩
section OFX
variable {l : Launch} {D : va_G} {tys : List (ClassId × FieldType)} {nL : Nat} {cc : ByteArray} {y : MethodName} {wsy ws' : List Cond} {rm : Room} {As : List Value} {w : va_W} {S SX : Type} {lv0 : List (Nat × Value)}
theorem ofX_I {post : Int32 → S → Prop} {w' : S → va_W} {pe : String → SX → Prop} {wx : SX → va_W} {ret : Option FieldType} (hl0 : l.stackTraces = false) (hy : plainName y.cls = true) (hw : wsy = Cond.code y cc nL ret :: ws') (hlen : (lg_sl As).length ≤ nL) (hlv : lv_args 0 As = lv0)
    (body : ∀ Γ : Cxt, CX Γ l D tys nL cc y.cls wsy rm → EXI Γ ret post w' pe wx → G Γ nL 0 0 w lv0 0 []) : XI l D tys y wsy rm As w post w' pe wx := by
  subst hlv
  intro sz
  refine vx_ofW (cc := cc) (maxL := nL) (ret := ret) hy hw ?_
  intro p e s m args below meth c s₁ B hml htab hv
  obtain ⟨rfl, hsz, hP, hK, hD0, hE, hZ⟩ := hv
  subst hsz
  have hl := lv_entry As (n := nL) hlen
  rw [lg_entry_eq]
  exact body (p, l, e, rm, s, m, As.toArray, below, meth, c, D, tys, va_A w s.heap.size, _) ⟨rfl, rfl, rfl, rfl, B.exec, B.bytes, hml, findClass_of_methodNamed B.named, atoms_spec (ws := wsy) B.pre, hK, fun q h => Or.inr h, B.notSynchronized, hE⟩ ⟨B.returns, htab, hZ, hl0, rfl⟩ s.heap [] _ hP hD0.self va_S.rf hl
theorem ofX_V {post : S → Prop} {w' : S → va_W} {pe : String → SX → Prop} {wx : SX → va_W} (hl0 : l.stackTraces = false) (hy : plainName y.cls = true) (hw : wsy = Cond.code y cc nL none :: ws') (hlen : (lg_sl As).length ≤ nL) (hlv : lv_args 0 As = lv0)
    (body : ∀ Γ : Cxt, CX Γ l D tys nL cc y.cls wsy rm → EXV Γ post w' pe wx → G Γ nL 0 0 w lv0 0 []) : XV l D tys y wsy rm As w post w' pe wx := by
  subst hlv
  intro sz
  refine vx_ofW (cc := cc) (maxL := nL) (ret := none) hy hw ?_
  intro p e s m args below meth c s₁ B hml htab hv
  obtain ⟨rfl, hsz, hP, hK, hD0, hE, hZ⟩ := hv
  subst hsz
  have hl := lv_entry As (n := nL) hlen
  rw [lg_entry_eq]
  exact body (p, l, e, rm, s, m, As.toArray, below, meth, c, D, tys, va_A w s.heap.size, _) ⟨rfl, rfl, rfl, rfl, B.exec, B.bytes, hml, findClass_of_methodNamed B.named, atoms_spec (ws := wsy) B.pre, hK, fun q h => Or.inr h, B.notSynchronized, hE⟩ ⟨B.returns, htab, hZ, hl0, rfl⟩ s.heap [] _ hP hD0.self va_S.rf hl
end OFX
section ROWSX
variable {Γ : Cxt} {l : Launch} {D : va_G} {tys : List (ClassId × FieldType)} {nL : Nat} {cc : ByteArray} {own : String} {Ts : List Cond} {R : Room} {k n : Nat} {ws : va_W} {lv : List (Nat × Value)} {pc : Nat} {st : List Value}
theorem g_iretX (X : CX Γ l D tys nL cc own Ts R) {S SX : Type} {post : Int32 → S → Prop} {w' : S → va_W} {pe : String → SX → Prop} {wx : SX → va_W} (E : EXI Γ (some .int) post w' pe wx) {v : Int32} (hd : decode cc pc = .ok (.ireturn, 1)) (u : S) (hw : w' u = ws) (hk : k ≤ R.cells) (hn : n ≤ R.slots) (hp : post v u) : G Γ nL k n ws lv pc [.int v] := by
  obtain ⟨p, l', e, R', s, m, args, below, meth, c, D', tys', A, Q⟩ := Γ
  obtain ⟨rfl, rfl, rfl, rfl, hx, hb, hml, hown, hts, hK, hA, hlk, hE⟩ := X
  obtain ⟨hr, -, -, -, rfl⟩ := E
  subst hw
  intro H locs ls hP hD hS hh
  refine W.widen hk hn (vx_ret ?_)
  exact W.iret (v := v) hx hb hr (fun t ht hW => ⟨⟨v, u, rfl, hp, by rw [ht]; exact hP, va_K.moved hW.alike hK, hD⟩, hS.F ht⟩) hS.2.2 hd hlk
theorem g_zretX (X : CX Γ l D tys nL cc own Ts R) {S SX : Type} {post : Int32 → S → Prop} {w' : S → va_W} {pe : String → SX → Prop} {wx : SX → va_W} (E : EXI Γ (some .boolean) post w' pe wx) {v : Int32} (hd : decode cc pc = .ok (.ireturn, 1)) (u : S) (hw : w' u = ws) (hk : k ≤ R.cells) (hn : n ≤ R.slots) (hv : narrow .boolean (.int v) = .int v) (hp : post v u) : G Γ nL k n ws lv pc [.int v] := by
  obtain ⟨p, l', e, R', s, m, args, below, meth, c, D', tys', A, Q⟩ := Γ
  obtain ⟨rfl, rfl, rfl, rfl, hx, hb, hml, hown, hts, hK, hA, hlk, hE⟩ := X
  obtain ⟨hr, -, -, -, rfl⟩ := E
  subst hw
  intro H locs ls hP hD hS hh
  refine W.widen hk hn (vx_ret ?_)
  exact W.zret (v := v) hx hb hr hv (fun t ht hW => ⟨⟨v, u, rfl, hp, by rw [ht]; exact hP, va_K.moved hW.alike hK, hD⟩, hS.F ht⟩) hS.2.2 hd hlk
theorem g_vretX (X : CX Γ l D tys nL cc own Ts R) {S SX : Type} {post : S → Prop} {w' : S → va_W} {pe : String → SX → Prop} {wx : SX → va_W} (E : EXV Γ post w' pe wx) (hd : decode cc pc = .ok (.return_, 1)) (u : S) (hw : w' u = ws) (hk : k ≤ R.cells) (hn : n ≤ R.slots) (hp : post u) : G Γ nL k n ws lv pc [] := by
  obtain ⟨p, l', e, R', s, m, args, below, meth, c, D', tys', A, Q⟩ := Γ
  obtain ⟨rfl, rfl, rfl, rfl, hx, hb, hml, hown, hts, hK, hA, hlk, hE⟩ := X
  obtain ⟨hr, -, -, -, rfl⟩ := E
  subst hw
  intro H locs ls hP hD hS hh
  refine W.widen hk hn (vx_ret ?_)
  exact W.vret hx hb hr (fun t ht hW => ⟨⟨u, rfl, hp, by rw [ht]; exact hP, va_K.moved hW.alike hK, hD⟩, hS.F ht⟩) hS.2.2 hd hlk
abbrev supers : List String := ["java/lang/RuntimeException", "java/lang/Exception"]
/-- throw new E("text") -/
theorem g_throw (X : CX Γ l D tys nL cc RX8 Ts R) {SX : Type} {pe : String → SX → Prop} {wx : SX → va_W} (E : TX Γ pe wx) {cls text : String} {ik is ic : Nat} (d0 : decode cc pc = .ok (.new ik, 3)) (d3 : decode cc (pc + 3) = .ok (.dup, 1)) (d4 : decode cc (pc + 4) = .ok (.ldc is, 2)) (d6 : decode cc (pc + 6) = .ok (.invokespecial ic, 3)) (d9 : decode cc (pc + 9) = .ok (.athrow, 1))
    (hcls : Bundle.fit cls = true) (hk : Cond.classLink RX8 ik cls ∈ Ts) (hini : Cond.initialized cls ∈ Ts) (i0 : Nat) (hstr : strs[i0]? = some (is, text)) (hat : ∀ w ∈ (vx_atS RX8 ic cls supers).filter goodWord, w ∈ Ts) (i1 : Nat) (hca : nests[i1]? = some (.castable cls cls)) (hrest : ∀ w ∈ (vx_atS RX8 ic cls supers).filter (fun w => !goodWord w), w ∈ [Cond.castable cls cls, .declares (Bundle.initS "java/lang/RuntimeException"), .declares (Bundle.initS "java/lang/Exception"), .declares (Bundle.initS "java/lang/Throwable")]) (hgood : ∀ w ∈ Cond.classLink RX8 ik cls :: Cond.initialized cls :: vx_atS RX8 ic cls supers, vx_ot w = true)
    (hRf : 5 < R.frames) (hRl : (st.map fun v => v.category).sum + 82 ≤ R.locals) (hc : k + 1 ≤ R.cells) (hn : n + 6 ≤ R.slots) (u : SX) (hw : wx u = ws) (hp : pe cls u) : G Γ nL k n ws lv pc st := by
  obtain ⟨p, l', e, R', s, m, args, below, meth, c, D', tys', A, Q⟩ := Γ
  obtain ⟨rfl, rfl, rfl, rfl, hx, hb, hml, hown, hts, hK, hA, hlk, hE⟩ := X
  obtain ⟨htab, hZ, hl0, Qc, rfl⟩ := E
  subst hw
  intro H locs ls hP hD hS hh
  obtain ⟨sa, hsa⟩ := hE.2.1 _ (List.mem_of_getElem? hstr)
  refine vx_throwS hx hb hl0 hown hcls (by decide) (hts _ hk) (hts _ hini) hsa (vx_hat (fun w h => hts w (hat w h)) hrest (vx_c (hE.nest i1 hca) (vx_c (hE.nest 33 rfl) (vx_c (hE.nest 34 rfl) (vx_c (hE.nest 35 rfl) vx_n))))) hgood hZ.1 hZ.2 hS (hh.1.trans hml.symm) d0 d3 d4 d6 d9 (fun x hx9 => (htab x hx9).elim) hRf hRl hc hn hlk ?_ hS.2.2 hc hn
  intro t hvm hz ho
  refine ⟨u, trivial, ⟨hp, hP.kept (fun k q hq => ho q.1 ((hP k q hq).lt)), va_K.moved hvm hK, hD⟩, Nat.le_trans hS.1 hz, fun q h1 h2 => (ho q (Nat.lt_of_lt_of_le h1 hS.1)).trans (hS.2.1 q h1 h2)⟩
theorem preX_here {D : va_G} {tys : List (ClassId × FieldType)} {As : List Value} {w : va_W} {s : State} {H : Heap} {locs : List Loc} {A : Nat → Prop} (hP : va_P D vwCl w H) (hK : va_K D vwCl tys s) (hD : va_D A w) (hE : EnvS s) (hZ : EnvZ A s s.heap) (hS : va_S A s.heap H locs) (hF : ∀ q, va_A w H.size q → A q) : ∀ U : State, U.heap = H → s.WarmedH U.vm → PreX D tys As w H.size As.toArray U :=
  fun U hU hW => ⟨rfl, by rw [hU], by rw [hU]; exact hP, va_K.moved hW.alike hK, hD.weaken (fun _ _ _ _ => trivial), hE.warm hW, by rw [hU]; exact ((hZ.kept hS.2.1).narrow hF).moved hW.alike⟩
/-- the callee throws: it goes on to the caller; the world is put together -/
theorem g_afterX {p : Program} {l : Launch} {e : Env} {R : Room} {s : State} {m : MethodId} {args : Array Value} {below : List Frame} {meth : Method} {c : Code} {A : Nat → Prop} {Q : State → Prop} {w wr : va_W} {isC isR back : List Nat} {H H1 : Heap} {t : State} {ls : Array Slot} {locs : List Loc} {SX SY : Type} {pe : String → SX → Prop} {wx : SX → va_W} {py : String → SY → Prop} {wy : SY → va_W} {u : SX} {E : String} {ce : Cell} {q9 : Addr}
    (hK : va_K D vwCl tys s) (hTX : TX (p, l, e, R, s, m, args, below, meth, c, D, tys, A, Q) py wy) (hlk : meth.locks = false) (hcut : cut ws w wr isC isR) (hP : va_P D vwCl ws H) (hD : va_D A ws) (hF : ∀ q, va_A w H.size q → A q) (ht : t.heap = H1) (hB : BX D tys (va_A w H.size) pe wx E u t) (hk1 : ∀ q : Nat, q < H.size → ¬ va_A w H.size q → H1[q]? = H[q]?) (hS : va_S A s.heap H1 locs) (hce : H1[q9]? = some ce) (hcv : ce.vm = .none) (hcl : s.vm.findClass E = some ce.cls)
    (hkc : k ≤ R.cells) (hkn : n ≤ R.slots) (hb1 : va_nd back = true) (uy : SY) (hb2 : back.map (fun i => (wr ++ wx u)[i]?) = (wy uy).map some) (hpy : py E uy) : vx_W p l e R s m args below meth c H1 locs k n Q (F0 m pc ls st) q9 := by
  obtain ⟨hC, hnC, hR, hnR, hdis⟩ := hcut
  obtain ⟨hpe, hP1, hK1, hD1⟩ := hB
  rw [ht] at hP1
  obtain ⟨hP2, hD2⟩ := va_join hP hD isC isR hC hR hnR hdis hk1 hF hP1 hD1
  obtain ⟨htab, hZ, hl0, Qc, rfl⟩ := hTX
  refine vx_out (fun x hx9 => (htab x hx9).elim) hlk hce hcv hcl ?_ hS.2.2 hkc hkn
  intro t2 ht2 hvm2
  exact ⟨uy, trivial, ⟨hpy, by rw [ht2]; exact hP2.sub back (filt_of hb2), va_K.moved hvm2 hK, hD2.sub back hb1 hb2⟩, hS.F ht2⟩
end ROWSX
