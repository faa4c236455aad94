/-! what holds at the entry of the law: the words of the tables and of the premises, each by its place -/
abbrev gvC : Cond := Jvm.Cond.and given_1 narrow_1
theorem gv_in {ws : List Cond} (ps : List Nat) (hp : ws = ps.filterMap (fun i => (flatC gvC)[i]?)) : ∀ w ∈ ws, w ∈ flatC gvC := fun w hw => by
  rw [hp] at hw
  obtain ⟨i, -, hi⟩ := List.mem_filterMap.mp hw
  exact List.mem_of_getElem? hi
theorem gv_strs : ∀ w ∈ strs.map (fun q => Cond.exactly (.string RX8 q.1) "java/lang/String"), w ∈ flatC gvC := gv_in [181, 207, 268, 296, 342, 467, 531, 568, 627, 76, 238, 383, 101, 419, 667, 150] (by decide +kernel)
theorem gv_ncs : ∀ w ∈ ncs.map (fun q => Cond.not (.castable q.1 q.2)), w ∈ flatC gvC := gv_in [16, 17, 31, 18, 32, 19, 33, 61] (by decide +kernel)
section START
variable {b : Nat} {s : State}
theorem envS_start (hts : ∀ w ∈ lw_tbl, w.before #[Value.ref b] s = true) (hgv : gvC.before #[Value.ref b] s = true) : EnvS s := by
  have hs := flat_of_before _ hgv
  refine ⟨fun w hw => va_Nw.of (nests_ok w hw).1 (hts w (tb_nests w hw)), fun q hq => ?_, fun q hq => va_Nc.of (hs _ (gv_ncs _ (List.mem_map.mpr ⟨q, hq, rfl⟩)))⟩
  have h1 : (Cond.stringRef RX8 q.1 q.2).before #[Value.ref b] s = true := hts _ (tb_strs _ (List.mem_map.mpr ⟨q, hq, rfl⟩))
  have h2 : (Cond.exactly (.string RX8 q.1) "java/lang/String").before #[Value.ref b] s = true := hs _ (gv_strs _ (List.mem_map.mpr ⟨q, hq, rfl⟩))
  obtain ⟨a, c, cA, kA, q1, -⟩ := Cond.exactly_spec (args := #[Value.ref b]) (first := s) (o := none) (s := s) (idx := []) h2
  exact ⟨a, vk_R.of h1 q1⟩
theorem envZ_start (hts : ∀ w ∈ lw_tbl, w.before #[Value.ref b] s = true) (hgv : gvC.before #[Value.ref b] s = true) {A : Nat → Prop} (hA : ∀ a : Nat, a < s.heap.size → ¬ A a) : EnvZ A s s.heap := by
  have hs := flat_of_before _ hgv
  have h3 : (Cond.initialized Bundle.tN).before #[Value.ref b] s = true := hts _ (List.mem_of_getElem? (i := 43) (by decide +kernel))
  exact ⟨vx_Zqof (hts _ (List.mem_of_getElem? (i := 343) (by decide +kernel))) h3 (hs _ (List.mem_of_getElem? (i := 4) (by decide +kernel))) hA, vx_Zqof (hts _ (List.mem_of_getElem? (i := 345) (by decide +kernel))) h3 (hs _ (List.mem_of_getElem? (i := 5) (by decide +kernel))) hA⟩
theorem arr_start {ty : FieldType} (hp : ∀ C, ty ≠ .object C) (h : (Cond.arrayClass ty).before #[Value.ref b] s = true) : ∃ cA : ClassId, ArrOfT s cA ty ∧ va_RA s cA ty := by
  obtain ⟨cA, kA, comp, h1, h2, h3⟩ := Cond.arrayClass_spec (args := #[Value.ref b]) (first := s) (o := none) (s := s) (idx := []) h
  refine ⟨cA, fun n z => ⟨fun k h => (by cases h), kA, h2, comp, h3⟩, ?_⟩
  cases ty <;> first | exact h1 | exact absurd rfl (hp _)
theorem k_start (hts : ∀ w ∈ lw_tbl, w.before #[Value.ref b] s = true) : ∃ (D : va_G) (ai az al : ClassId), va_K D vwCl (tY ai az al) s := by
  obtain ⟨c0, i0, h0⟩ := u_known (C := RX0) (T := TX0) (N := 4) (n := 4) hts tb_X0 (hts _ (List.mem_of_getElem? (i := 106) (by decide +kernel)))
  obtain ⟨c1, i1, h1⟩ := u_known (C := RX1) (T := TX1) (N := 4) (n := 4) hts tb_X1 (hts _ (List.mem_of_getElem? (i := 234) (by decide +kernel)))
  obtain ⟨c2, i2, h2⟩ := u_known (C := RX2) (T := TX2) (N := 2) (n := 2) hts tb_X2 (hts _ (List.mem_of_getElem? (i := 61) (by decide +kernel)))
  obtain ⟨c3, i3, h3⟩ := u_known (C := RX3) (T := TX3) (N := 1) (n := 1) hts tb_X3 (hts _ (List.mem_of_getElem? (i := 67) (by decide +kernel)))
  obtain ⟨c4, i4, h4⟩ := u_known (C := RX4) (T := TX4) (N := 8) (n := 8) hts tb_X4 (hts _ (List.mem_of_getElem? (i := 147) (by decide +kernel)))
  obtain ⟨c5, i5, h5⟩ := u_known (C := RX5) (T := TX5) (N := 3) (n := 3) hts tb_X5 (hts _ (List.mem_of_getElem? (i := 213) (by decide +kernel)))
  obtain ⟨c6, i6, h6⟩ := u_known (C := RX6) (T := TX6) (N := 5) (n := 5) hts tb_X6 (hts _ (List.mem_of_getElem? (i := 98) (by decide +kernel)))
  obtain ⟨c7, i7, h7⟩ := u_known (C := RX7) (T := TX7) (N := 6) (n := 6) hts tb_X7 (hts _ (List.mem_of_getElem? (i := 188) (by decide +kernel)))
  obtain ⟨c8, i8, h8⟩ := u_known (C := RX8) (T := TX8) (N := 7) (n := 7) hts tb_X8 (hts _ (List.mem_of_getElem? (i := 53) (by decide +kernel)))
  obtain ⟨c9, i9, h9⟩ := u_known (C := RX9) (T := TX9) (N := 21) (n := 21) hts tb_X9 (hts _ (List.mem_of_getElem? (i := 865) (by decide +kernel)))
  obtain ⟨ai, ai1, ai2⟩ := arr_start (ty := .int) (fun C h => by cases h) (hts _ (List.mem_of_getElem? (i := 76) (by decide +kernel)))
  obtain ⟨az, az1, az2⟩ := arr_start (ty := .boolean) (fun C h => by cases h) (hts _ (List.mem_of_getElem? (i := 934) (by decide +kernel)))
  obtain ⟨al, al1, al2⟩ := arr_start (ty := .long) (fun C h => by cases h) (hts _ (List.mem_of_getElem? (i := 1149) (by decide +kernel)))
  refine ⟨(fun k => [c0, c1, c2, c3, c4, c5, c6, c7, c8, c9].getD k c0, fun k => [i0, i1, i2, i3, i4, i5, i6, i7, i8, i9].getD k i0), ai, az, al, fun k q hq => ?_, fun k q hq => ?_⟩
  · match k, hq with
    | 0, hq => cases hq; exact h0
    | 1, hq => cases hq; exact h1
    | 2, hq => cases hq; exact h2
    | 3, hq => cases hq; exact h3
    | 4, hq => cases hq; exact h4
    | 5, hq => cases hq; exact h5
    | 6, hq => cases hq; exact h6
    | 7, hq => cases hq; exact h7
    | 8, hq => cases hq; exact h8
    | 9, hq => cases hq; exact h9
    | k + 10, hq => simp [vwCl] at hq
  · match k, hq with
    | 0, hq => cases hq; exact ⟨ai1, ai2⟩
    | 1, hq => cases hq; exact ⟨az1, az2⟩
    | 2, hq => cases hq; exact ⟨al1, al2⟩
    | k + 3, hq => simp [tY] at hq
end START
