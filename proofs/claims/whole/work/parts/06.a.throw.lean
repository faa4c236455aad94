/-! throws on their way: GX, an exception of the class Ec thrown at pc over the world ws -/
def GX (Γ : Cxt) (nL k n : Nat) (ws : va_W) (lv : List (Nat × Value)) (pc : Nat) (Ec : String) : Prop := match Γ with
  | (p, l, e, R, s, m, args, below, meth, c, D, _, A, Q) => ∀ (H : Heap) (locs : List Loc) (ls : Array Slot) (rest : List Value) (ce : Cell) (q9 : Addr), va_P D vwCl ws H → va_D A ws → va_S A s.heap H locs → lv_has ls nL lv → H[q9]? = some ce → ce.vm = .none → s.vm.findClass Ec = some ce.cls → vx_W p l e R s m args below meth c H locs k n Q (F0 m pc ls rest) q9
/-- what a method with a table of its own has at hand -/
def TW (Γ : Cxt) (hh : List (Nat × Nat × Nat × Nat)) : Prop := match Γ with
  | (_, l, _, _, s, _, _, _, _, c, _, _, A, _) => c.exceptionTable.toList = tableOf hh ∧ EnvZ A s s.heap ∧ l.stackTraces = false
def WI (l : Launch) (D : va_G) (tys : List (ClassId × FieldType)) (y : MethodName) (wsy : List Cond) (rm : Room) (As : List Value) (w : va_W) {S : Type} (post : Int32 → S → Prop) (w' : S → va_W) : Prop :=
  ∀ sz : Nat, Met l y wsy rm (PreX D tys As w sz) (va_Qi post (BC D tys (va_A w sz) w') (va_A w sz)) rm.cells rm.slots (va_A w sz)
theorem met_ofWH {l : Launch} {y : MethodName} {ws ws' : List Cond} {rm : Room} {Pc : Array Value → State → Prop} {Qc : Array Value → State → Outcome → State → Prop} {mc ms : Nat} {free : Addr → Prop} {cc : ByteArray} {maxL : Nat} {ret : Option FieldType} {hh : List (Nat × Nat × Nat × Nat)}
    (hy : plainName y.cls = true) (hw : ws = Cond.codeWith y cc maxL ret hh :: ws')
    (body : ∀ p e s m args below meth c s₁, BodyLoose p l y (headSpec ws rm) cc maxL ret e s m args below meth c s₁ → c.maxLocals = maxL → c.exceptionTable.toList = tableOf hh → Pc args s →
      W p l e (headSpec ws rm).room s m args below meth c s.heap [] 0 0 (MQ below Qc args s mc ms free) (entryFrame m args maxL)) : Met l y ws rm Pc Qc mc ms free := by
  refine MetFree.of_bodyS (code := cc) (maxLocals := maxL) (ret := ret) hy ?_ ?_
  · intro args s m h hn
    obtain ⟨m9, meth, c, hn9, h1, h2, h3, h4, -, h5, h6, -⟩ := Cond.codeWith_spec (atoms_spec (ws := ws) h _ (by rw [hw]; exact List.mem_cons_self))
    cases hn.symm.trans hn9
    exact ⟨meth, c, h1, h2, h3, h4, h5, h6⟩
  · intro p e s m args below meth c s₁ B hml hP _
    have hh0 : s₁.heap = s.heap := by rw [B.state]; rfl
    have ht := vx_table (x := y) B (atoms_spec (ws := ws) B.pre (Cond.codeWith y cc maxL ret hh) (by rw [hw]; exact List.mem_cons_self))
    obtain ⟨t, a1, o, b1, b2, b3⟩ := body p e s m args below meth c s₁ B hml ht hP s₁ hh0 (Stand.of_body B)
    exact ⟨t, o, a1, b1, b2, ⟨b3.1, b3.2⟩⟩
theorem ofW_I {l : Launch} {D : va_G} {tys : List (ClassId × FieldType)} {nL : Nat} {cc : ByteArray} {y : MethodName} {wsy ws' : List Cond} {rm : Room} {As : List Value} {w : va_W} {S : Type} {lv0 : List (Nat × Value)} {hh : List (Nat × Nat × Nat × Nat)} {post : Int32 → S → Prop} {w' : S → va_W} {ret : Option FieldType} (hl0 : l.stackTraces = false) (hy : plainName y.cls = true) (hw : wsy = Cond.codeWith y cc nL ret hh :: ws') (hlen : (lg_sl As).length ≤ nL) (hlv : lv_args 0 As = lv0)
    (body : ∀ Γ : Cxt, CX Γ l D tys nL cc y.cls wsy rm → EI Γ ret post w' → TW Γ hh → G Γ nL 0 0 w lv0 0 []) : WI l D tys y wsy rm As w post w' := by
  subst hlv
  intro sz
  refine met_ofWH (cc := cc) (maxL := nL) (ret := ret) hy hw ?_
  intro p e s m args below meth c s₁ B hml htab hv
  obtain ⟨rfl, hsz, hP, hK, hD0, hE, hZ⟩ := hv
  subst hsz
  have hl := lv_entry As (n := nL) hlen
  rw [lg_entry_eq]
  exact body (p, l, e, rm, s, m, As.toArray, below, meth, c, D, tys, va_A w s.heap.size, _) ⟨rfl, rfl, rfl, rfl, B.exec, B.bytes, hml, findClass_of_methodNamed B.named, atoms_spec (ws := wsy) B.pre, hK, fun q h => Or.inr h, B.notSynchronized, hE⟩ ⟨B.returns, rfl⟩ ⟨htab, hZ, hl0⟩ s.heap [] _ hP hD0.self va_S.rf hl
section ROWSX2
variable {Γ : Cxt} {l : Launch} {D : va_G} {tys : List (ClassId × FieldType)} {nL : Nat} {cc : ByteArray} {own : String} {Ts : List Cond} {R : Room} {k n : Nat} {ws : va_W} {lv : List (Nat × Value)} {pc : Nat} {st : List Value}
/-- what a caller of a method that may throw has at hand: the two statics of Throwable -/
def ZX (Γ : Cxt) : Prop := match Γ with
  | (_, l, _, _, s, _, _, _, _, _, _, _, A, _) => EnvZ A s s.heap ∧ l.stackTraces = false
theorem TX.z {SX : Type} {pe : String → SX → Prop} {wx : SX → va_W} (h : TX Γ pe wx) : ZX Γ := by
  obtain ⟨p, l', e, R', s, m, args, below, meth, c, D', tys', A, Q⟩ := Γ
  exact ⟨h.2.1, h.2.2.1⟩
theorem TW.z {hh : List (Nat × Nat × Nat × Nat)} (h : TW Γ hh) : ZX Γ := by
  obtain ⟨p, l', e, R', s, m, args, below, meth, c, D', tys', A, Q⟩ := Γ
  exact ⟨h.2.1, h.2.2⟩
/-- it leaves the method -/
theorem gx_out (X : CX Γ l D tys nL cc own Ts R) {SX : Type} {pe : String → SX → Prop} {wx : SX → va_W} (E : TX Γ pe wx) {Ec : String} (hk : k ≤ R.cells) (hn : n ≤ R.slots) (back : List Nat) (hb1 : va_nd back = true) (u : SX) (hb2 : back.map (fun i => ws[i]?) = (wx u).map some) (hp : pe Ec u) : GX Γ nL k n ws lv pc Ec := by
  obtain ⟨p, l', e, R', s, m, args, below, meth, c, D', tys', A, Q⟩ := Γ
  obtain ⟨rfl, rfl, rfl, rfl, hx, hb, hml, hown, hts, hK, hA, hlk, hE⟩ := X
  obtain ⟨htab, hZ, hl0, Qc, rfl⟩ := E
  intro H locs ls rest ce q9 hP hD hS hh hce hcv hcl
  refine vx_out (fun x hx9 => (htab x hx9).elim) hlk hce hcv hcl ?_ hS.2.2 hk hn
  intro t ht hvm
  exact ⟨u, trivial, ⟨hp, by rw [ht]; exact hP.sub back (filt_of hb2), va_K.moved hvm hK, hD.sub back hb1 hb2⟩, hS.F ht⟩
/-- the row i of the table takes it -/
theorem gx_catch (X : CX Γ l D tys nL cc own Ts R) {hh : List (Nat × Nat × Nat × Nat)} (E : TW Γ hh) {Ec : String} (pre : List (Nat × Nat × Nat × Nat)) (x : Nat × Nat × Nat × Nat) (suf : List (Nat × Nat × Nat × Nat)) (hsp : hh = pre ++ x :: suf) (hpass : ∀ z ∈ pre, z.2.2.2 ≠ 0 ∧ ∃ nm : String, Cond.classLink own z.2.2.2 nm ∈ Ts ∧ (Ec, nm) ∈ ncs) (h1 : x.1 ≤ pc) (h2 : pc < x.2.1) (h0 : x.2.2.2 ≠ 0) (hlink : Cond.classLink own x.2.2.2 Ec ∈ Ts) (i1 : Nat) (hca : nests[i1]? = some (.castable Ec Ec))
    (kk : ∀ q9 : Nat, G Γ nL k n ws lv x.2.2.1 [.ref q9]) : GX Γ nL k n ws lv pc Ec := by
  obtain ⟨p, l', e, R', s, m, args, below, meth, c, D', tys', A, Q⟩ := Γ
  obtain ⟨rfl, rfl, rfl, rfl, hx, hb, hml, hown, hts, hK, hA, hlk, hE⟩ := X
  obtain ⟨htab, hZ, hl0⟩ := E
  intro H locs ls rest ce q9 hP hD hS hl hce hcv hcl
  refine vx_catch hown (tableOf pre) ⟨x.1, x.2.1, x.2.2.1, x.2.2.2⟩ (tableOf suf) (by rw [htab, hsp]; unfold tableOf; rw [List.map_append, List.map_cons]) ?_ (by show (decide _ && decide _) = true; rw [decide_eq_true h1, decide_eq_true h2]; rfl) h0 (hts _ hlink) (hE.nest i1 hca) hce hcv hcl (kk q9 H locs ls hP hD hS hl)
  intro z hz
  unfold tableOf at hz
  obtain ⟨y, hy, rfl⟩ := List.mem_map.mp hz
  obtain ⟨a1, nm, a2, a3⟩ := hpass y hy
  exact Or.inr ⟨a1, nm, hts _ a2, hE.2.2 _ a3⟩
theorem g_callXSi (X : CX Γ l D tys nL cc own Ts R) (Z : ZX Γ) {y : MethodName} {bytes : ByteArray} {maxL nA index : Nat} {ret : Option FieldType} {wsy wsy' : List Cond} {rm : Room} {As rest : List Value} {w wr : va_W} {S SX : Type} {post : Int32 → S → Prop} {w' : S → va_W} {pe : String → SX → Prop} {wx : SX → va_W}
    (hd : decode cc pc = .ok (.invokestatic index, 3)) (hM : XI l D tys y wsy rm As w post w' pe wx) (hG : GoodIn Ts (va_wsS own index y wsy)) (hw : wsy = Cond.code y bytes maxL ret :: wsy') (hyC : y.cls = own) (hy : okName y nA) (hnA : As.length = nA) (hst : As.reverse ++ rest = st) (hR : roomOk rm R maxL) (hkc : k + rm.cells ≤ R.cells ∧ n + rm.slots ≤ R.slots) (hcat : (rest.map fun v => v.category).sum ≤ 8)
    (isC isR : List Nat) (hcut : cut ws w wr isC isR)
    (kx : ∀ (Ec : String) (u : SX), pe Ec u → GX Γ nL (k + rm.cells) (n + rm.slots) (wr ++ wx u) lv pc Ec)
    (kk : ∀ (r : Int32) (u : S), post r u → G Γ nL (k + rm.cells) (n + rm.slots) (wr ++ w' u) lv (pc + 3) (.int r :: rest)) : G Γ nL k n ws lv pc st := by
  obtain ⟨p, l', e, R', s, m, args, below, meth, c, D', tys', A, Q⟩ := Γ
  obtain ⟨rfl, rfl, rfl, rfl, hx, hb, hml, hown, hts, hK, hA, hlk, hE⟩ := X
  subst hst
  subst hyC
  intro H locs ls hP hD hS hh
  have hPc := hP.sub isC (filt_of hcut.1)
  have hDc := hD.sub isC hcut.2.1 hcut.1
  have hF := va_free (wc := w) hD hS hA isC hcut.1
  refine vx_calli (vx_runS (As := As) (rest := rest) ⟨hx, hb, hml, hown, hts⟩ (hM H.size) (cwS nA hts hG hw rfl rfl ⟨rfl, hy⟩ hR) ⟨PreX.blind, preX_here hPc hK hDc hE Z.1 hS hF⟩ rfl hnA hh.1 rfl (lv_room hcat) hd hkc) hS (fun q _ h => hF q h) hF (fun q _ h => hF q h) ?_ (fun r u t H1 locs1 ht hvm hp hB hz1 hk1 hS1 => ?_)
  · intro Ec ce q9 u t H1 locs1 ht hvm hp hB hz1 hk1 hS1 hce hcv hcl
    obtain ⟨hpe, hP1, hK1, hD1⟩ := hB
    rw [ht] at hP1
    obtain ⟨hP2, hD2⟩ := va_join hP hD isC isR hcut.1 hcut.2.2.1 hcut.2.2.2.1 hcut.2.2.2.2 hk1 hF hP1 hD1
    exact kx Ec u hpe H1 locs1 ls rest ce q9 hP2 hD2 hS1 hh hce hcv hcl
  · exact g_after hcut hP hD hF ht hB hk1 hS1 hh (kk r u hp)
theorem g_callXSv (X : CX Γ l D tys nL cc own Ts R) (Z : ZX Γ) {y : MethodName} {bytes : ByteArray} {maxL nA index : Nat} {ret : Option FieldType} {wsy wsy' : List Cond} {rm : Room} {As rest : List Value} {w wr : va_W} {S SX : Type} {post : S → Prop} {w' : S → va_W} {pe : String → SX → Prop} {wx : SX → va_W}
    (hd : decode cc pc = .ok (.invokestatic index, 3)) (hM : XV l D tys y wsy rm As w post w' pe wx) (hG : GoodIn Ts (va_wsS own index y wsy)) (hw : wsy = Cond.code y bytes maxL ret :: wsy') (hyC : y.cls = own) (hy : okName y nA) (hnA : As.length = nA) (hst : As.reverse ++ rest = st) (hR : roomOk rm R maxL) (hkc : k + rm.cells ≤ R.cells ∧ n + rm.slots ≤ R.slots) (hcat : (rest.map fun v => v.category).sum ≤ 8)
    (isC isR : List Nat) (hcut : cut ws w wr isC isR)
    (kx : ∀ (Ec : String) (u : SX), pe Ec u → GX Γ nL (k + rm.cells) (n + rm.slots) (wr ++ wx u) lv pc Ec)
    (kk : ∀ (u : S), post u → G Γ nL (k + rm.cells) (n + rm.slots) (wr ++ w' u) lv (pc + 3) rest) : G Γ nL k n ws lv pc st := by
  obtain ⟨p, l', e, R', s, m, args, below, meth, c, D', tys', A, Q⟩ := Γ
  obtain ⟨rfl, rfl, rfl, rfl, hx, hb, hml, hown, hts, hK, hA, hlk, hE⟩ := X
  subst hst
  subst hyC
  intro H locs ls hP hD hS hh
  have hPc := hP.sub isC (filt_of hcut.1)
  have hDc := hD.sub isC hcut.2.1 hcut.1
  have hF := va_free (wc := w) hD hS hA isC hcut.1
  refine vx_callv (vx_runS (As := As) (rest := rest) ⟨hx, hb, hml, hown, hts⟩ (hM H.size) (cwS nA hts hG hw rfl rfl ⟨rfl, hy⟩ hR) ⟨PreX.blind, preX_here hPc hK hDc hE Z.1 hS hF⟩ rfl hnA hh.1 rfl (lv_room hcat) hd hkc) hS (fun q _ h => hF q h) hF (fun q _ h => hF q h) ?_ (fun u t H1 locs1 ht hvm hp hB hz1 hk1 hS1 => ?_)
  · intro Ec ce q9 u t H1 locs1 ht hvm hp hB hz1 hk1 hS1 hce hcv hcl
    obtain ⟨hpe, hP1, hK1, hD1⟩ := hB
    rw [ht] at hP1
    obtain ⟨hP2, hD2⟩ := va_join hP hD isC isR hcut.1 hcut.2.2.1 hcut.2.2.2.1 hcut.2.2.2.2 hk1 hF hP1 hD1
    exact kx Ec u hpe H1 locs1 ls rest ce q9 hP2 hD2 hS1 hh hce hcv hcl
  · exact g_after hcut hP hD hF ht hB hk1 hS1 hh (kk u hp)
theorem g_callXVi (X : CX Γ l D tys nL cc own Ts R) (Z : ZX Γ) {C : String} {y : MethodName} {bytes : ByteArray} {maxL nA index b ci : Nat} {ret : Option FieldType} {wsy wsy' : List Cond} {rm : Room} {As rest : List Value} {w wr : va_W} {S SX : Type} {post : Int32 → S → Prop} {w' : S → va_W} {pe : String → SX → Prop} {wx : SX → va_W} {fs : List Value} {q : vw_C}
    (hd : decode cc pc = .ok (.invokevirtual index, 3)) (hM : XI l D tys y wsy rm (.ref b :: As) w post w' pe wx) (hG : GoodIn Ts (wsV own index C y wsy)) (hw : wsy = Cond.code y bytes maxL ret :: wsy') (hyC : y.cls = C) (hy : okName y nA) (hnA : As.length = nA) (hst : As.reverse ++ .ref b :: rest = st) (hR : roomOk rm R maxL) (hkc : k + rm.cells ≤ R.cells ∧ n + rm.slots ≤ R.slots) (hcat : (rest.map fun v => v.category).sum ≤ 8)
    (isC isR : List Nat) (hcut : cut ws w wr isC isR) (r0 : Nat) (hrc : vwCl[ci]? = some q) (hrw : w[r0]? = some (b, .inr (ci, fs))) (hrC : q.1 = C)
    (kx : ∀ (Ec : String) (u : SX), pe Ec u → GX Γ nL (k + rm.cells) (n + rm.slots) (wr ++ wx u) lv pc Ec)
    (kk : ∀ (r : Int32) (u : S), post r u → G Γ nL (k + rm.cells) (n + rm.slots) (wr ++ w' u) lv (pc + 3) (.int r :: rest)) : G Γ nL k n ws lv pc st := by
  obtain ⟨p, l', e, R', s, m, args, below, meth, c, D', tys', A, Q⟩ := Γ
  obtain ⟨rfl, rfl, rfl, rfl, hx, hb, hml, hown, hts, hK, hA, hlk, hE⟩ := X
  subst hst
  subst hrC
  intro H locs ls hP hD hS hh
  have hPc := hP.sub isC (filt_of hcut.1)
  have hDc := hD.sub isC hcut.2.1 hcut.1
  have hF := va_free (wc := w) hD hS hA isC hcut.1
  refine vx_calli (vx_runV (As := As) (rest := rest) ⟨hx, hb, hml, hown, hts⟩ (hM H.size) (cwV nA hts hG hw rfl rfl ⟨hyC, hy⟩ hR) ⟨PreX.blind, va_recv hK hPc hrc hrw, preX_here hPc hK hDc hE Z.1 hS hF⟩ rfl hnA hh.1 rfl (lv_room hcat) hd hkc) hS (fun q _ h => hF q h) hF (fun q _ h => hF q h) ?_ (fun r u t H1 locs1 ht hvm hp hB hz1 hk1 hS1 => ?_)
  · intro Ec ce q9 u t H1 locs1 ht hvm hp hB hz1 hk1 hS1 hce hcv hcl
    obtain ⟨hpe, hP1, hK1, hD1⟩ := hB
    rw [ht] at hP1
    obtain ⟨hP2, hD2⟩ := va_join hP hD isC isR hcut.1 hcut.2.2.1 hcut.2.2.2.1 hcut.2.2.2.2 hk1 hF hP1 hD1
    exact kx Ec u hpe H1 locs1 ls rest ce q9 hP2 hD2 hS1 hh hce hcv hcl
  · exact g_after hcut hP hD hF ht hB hk1 hS1 hh (kk r u hp)
theorem g_callXVv (X : CX Γ l D tys nL cc own Ts R) (Z : ZX Γ) {C : String} {y : MethodName} {bytes : ByteArray} {maxL nA index b ci : Nat} {ret : Option FieldType} {wsy wsy' : List Cond} {rm : Room} {As rest : List Value} {w wr : va_W} {S SX : Type} {post : S → Prop} {w' : S → va_W} {pe : String → SX → Prop} {wx : SX → va_W} {fs : List Value} {q : vw_C}
    (hd : decode cc pc = .ok (.invokevirtual index, 3)) (hM : XV l D tys y wsy rm (.ref b :: As) w post w' pe wx) (hG : GoodIn Ts (wsV own index C y wsy)) (hw : wsy = Cond.code y bytes maxL ret :: wsy') (hyC : y.cls = C) (hy : okName y nA) (hnA : As.length = nA) (hst : As.reverse ++ .ref b :: rest = st) (hR : roomOk rm R maxL) (hkc : k + rm.cells ≤ R.cells ∧ n + rm.slots ≤ R.slots) (hcat : (rest.map fun v => v.category).sum ≤ 8)
    (isC isR : List Nat) (hcut : cut ws w wr isC isR) (r0 : Nat) (hrc : vwCl[ci]? = some q) (hrw : w[r0]? = some (b, .inr (ci, fs))) (hrC : q.1 = C)
    (kx : ∀ (Ec : String) (u : SX), pe Ec u → GX Γ nL (k + rm.cells) (n + rm.slots) (wr ++ wx u) lv pc Ec)
    (kk : ∀ (u : S), post u → G Γ nL (k + rm.cells) (n + rm.slots) (wr ++ w' u) lv (pc + 3) rest) : G Γ nL k n ws lv pc st := by
  obtain ⟨p, l', e, R', s, m, args, below, meth, c, D', tys', A, Q⟩ := Γ
  obtain ⟨rfl, rfl, rfl, rfl, hx, hb, hml, hown, hts, hK, hA, hlk, hE⟩ := X
  subst hst
  subst hrC
  intro H locs ls hP hD hS hh
  have hPc := hP.sub isC (filt_of hcut.1)
  have hDc := hD.sub isC hcut.2.1 hcut.1
  have hF := va_free (wc := w) hD hS hA isC hcut.1
  refine vx_callv (vx_runV (As := As) (rest := rest) ⟨hx, hb, hml, hown, hts⟩ (hM H.size) (cwV nA hts hG hw rfl rfl ⟨hyC, hy⟩ hR) ⟨PreX.blind, va_recv hK hPc hrc hrw, preX_here hPc hK hDc hE Z.1 hS hF⟩ rfl hnA hh.1 rfl (lv_room hcat) hd hkc) hS (fun q _ h => hF q h) hF (fun q _ h => hF q h) ?_ (fun u t H1 locs1 ht hvm hp hB hz1 hk1 hS1 => ?_)
  · intro Ec ce q9 u t H1 locs1 ht hvm hp hB hz1 hk1 hS1 hce hcv hcl
    obtain ⟨hpe, hP1, hK1, hD1⟩ := hB
    rw [ht] at hP1
    obtain ⟨hP2, hD2⟩ := va_join hP hD isC isR hcut.1 hcut.2.2.1 hcut.2.2.2.1 hcut.2.2.2.2 hk1 hF hP1 hD1
    exact kx Ec u hpe H1 locs1 ls rest ce q9 hP2 hD2 hS1 hh hce hcv hcl
  · exact g_after hcut hP hD hF ht hB hk1 hS1 hh (kk u hp)
/-- the law calls a method with a table of its own -/
theorem g_callW (X : CX Γ l D tys nL cc own Ts R) (Z : ZX Γ) {y : MethodName} {bytes : ByteArray} {maxL nA index : Nat} {ret : Option FieldType} {hh : List (Nat × Nat × Nat × Nat)} {wsy wsy' : List Cond} {rm : Room} {As rest : List Value} {w wr : va_W} {S : Type} {post : Int32 → S → Prop} {w' : S → va_W}
    (hd : decode cc pc = .ok (.invokestatic index, 3)) (hM : WI l D tys y wsy rm As w post w') (hG : GoodIn Ts (va_wsS own index y wsy)) (hw : wsy = Cond.codeWith y bytes maxL ret hh :: wsy') (hy : okName y nA) (hnA : As.length = nA) (hst : As.reverse ++ rest = st) (hR : roomOk rm R maxL) (hkc : k + rm.cells ≤ R.cells ∧ n + rm.slots ≤ R.slots) (hcat : (rest.map fun v => v.category).sum ≤ 8)
    (isC isR : List Nat) (hcut : cut ws w wr isC isR)
    (kk : ∀ (r : Int32) (u : S), post r u → G Γ nL (k + rm.cells) (n + rm.slots) (wr ++ w' u) lv (pc + 3) (.int r :: rest)) : G Γ nL k n ws lv pc st := by
  obtain ⟨p, l', e, R', s, m, args, below, meth, c, D', tys', A, Q⟩ := Γ
  obtain ⟨rfl, rfl, rfl, rfl, hx, hb, hml, hown, hts, hK, hA, hlk, hE⟩ := X
  subst hst
  intro H locs ls hP hD hS hl
  have hPc := hP.sub isC (filt_of hcut.1)
  have hDc := hD.sub isC hcut.2.1 hcut.1
  have hF := va_free (wc := w) hD hS hA isC hcut.1
  refine va_calli (vx_runSW (As := As) (rest := rest) ⟨hx, hb, hml, hown, hts⟩ (hM H.size) (vx_cwSW nA hts hG hw rfl rfl hy hR) ⟨PreX.blind, preX_here hPc hK hDc hE Z.1 hS hF⟩ rfl hnA hl.1 rfl (lv_room hcat) hd hkc) hS (fun q _ h => hF q h) hF (fun r u t H1 locs1 ht hvm hp hB hz1 hk1 hS1 => ?_)
  exact g_after hcut hP hD hF ht hB hk1 hS1 hl (kk r u hp)
end ROWSX2
