/-! THE CLAIM OUT OF ONE WALK OF THE LAW'S BODY. Your part is whole_start (and what it stands on); all else here is the same for every law, but numbers. -/
def R_law : String := "FullerSquareLaw"
def lw_P (b : Addr) (xs : List Int32) (args : Array Value) (s : State) : Prop := args = #[.ref b] ∧ s.IntsAt b xs ∧ xs.length ≤ 384 ∧ (Jvm.Cond.and given_1 narrow_1).before args s = true
def lw_Q (_ : Array Value) (s : State) (o : Outcome) (t : State) : Prop := o = .returned (some (.int 1)) ∧ Framed s o t [] 600000 7302250
def lw_Z (below : List Frame) (a : Array Value) (s : State) : State → Prop := fun t => ∃ o, t.status = .running ∧ Ended t below o ∧ lw_Q a s o t
/-- the law's own end, with 1 on the stack, nothing written that was there before, its room as the claim has it -/
theorem lw_ret {p : Program} {l : Launch} {e : Env} {s : State} {m : MethodId} {below : List Frame} {meth : Method} {c : Code} {b : Nat} (hx : p.tables.exec = Jvm.exec) (hb : c.code = code) (hr : meth.sig.returnType = ret) (hlocks : meth.locks = false) {pc : Nat} {H : Heap} {ls : Array Slot} (hdg : decode code pc = .ok (.ireturn, 1)) : W p l e room_1 s m #[Value.ref b] below meth c H [] 600000 7302250 (lw_Z below #[Value.ref b] s) (F0 m pc ls [.int 1]) := by
  intro T hT X
  obtain ⟨fs, hret, hrun, hended, hW, hframe⟩ := X.leave (v := some (.int 1)) (hlocks := hlocks) (fun h => by rw [hr] at h; cases h)
  have hmeth' : T.vm.method? m = some meth := X.method'
  refine ⟨T.setFrames fs, ?_, .returned (some (.int 1)), hrun, hended, rfl, ⟨_, rfl⟩, hW, hframe⟩
  jvm_step X.here [X.here.top, hx, hb, hdg, hmeth', hr, ret, narrow_b1]
  (try refine ⟨rfl, ?_⟩); (try refine ⟨rfl, ?_⟩)
  first | (intro acts; rw [hret _ acts rfl rfl rfl]) | rw [hret _ _ rfl rfl rfl]
  exact Steps.refl _
/-- what holds at the law's entry: the machine, the code, the tables' words (any of lw_tbl by 'hts w (by decide +kernel)'), the script of L ints xs at the cell b, what the Statement gives of the start (any of its parts by flat_of_before) -/
def lw_At (p : Program) (s : State) (m : MethodId) (meth : Method) (c : Code) (b L : Nat) (xs : Nat → Int32) : Prop :=
  p.tables.exec = Jvm.exec ∧ c.code = code ∧ meth.sig.returnType = ret ∧ c.maxLocals = 4 ∧ s.vm.findClass R_law = some m.cls ∧ (∀ w ∈ lw_tbl, w.before #[Value.ref b] s = true) ∧ va_X b L xs s s.heap ∧ b < s.heap.size ∧ meth.locks = false ∧ (Jvm.Cond.and given_1 narrow_1).before #[Value.ref b] s = true
theorem zt_ls1 : Cond.laysStatic "java/lang/String" "COMPACT_STRINGS" "Z" ∈ lw_tbl := List.mem_of_getElem? (i := 601) (by decide +kernel)
theorem zt_ls2 : Cond.laysStatic RX0 "ABOVE" "[I" ∈ lw_tbl := List.mem_of_getElem? (i := 1040) (by decide +kernel)
theorem zt_str : Cond.stringRef RX2 72 "mkwqnfoh" ∈ lw_tbl := List.mem_of_getElem? (i := 587) (by decide +kernel)
theorem zt_ao1 : Cond.arrayOver (.object RX4) ∈ lw_tbl := List.mem_of_getElem? (i := 413) (by decide +kernel)
theorem zt_ao2 : Cond.arrayOver (.array .int) ∈ lw_tbl := List.mem_of_getElem? (i := 209) (by decide +kernel)
theorem zt_in0 : Cond.initialized RJ0 ∈ lw_tbl := List.mem_of_getElem? (i := 94) (by decide +kernel)
theorem zt_n0 : Cond.methodLinkNest RX7 18 yX2_init RX7 ∈ lw_tbl := List.mem_of_getElem? (i := 204) (by decide +kernel)
theorem zt_n1 : Cond.methodLinkNest RX7 37 yX1_init RX7 ∈ lw_tbl := List.mem_of_getElem? (i := 359) (by decide +kernel)
theorem zt_n2 : Cond.methodLinkNest RX7 44 yX0_init RX7 ∈ lw_tbl := List.mem_of_getElem? (i := 385) (by decide +kernel)
theorem zt_n3 : Cond.methodLinkNest RX7 59 yX4_init RX7 ∈ lw_tbl := List.mem_of_getElem? (i := 415) (by decide +kernel)
theorem zt_n4 : Cond.methodLinkNest RX3 11 yX6_init RX7 ∈ lw_tbl := List.mem_of_getElem? (i := 246) (by decide +kernel)
theorem zt_nest : ∀ e ∈ zXT, Cond.methodLinkNest (zcn e.1) e.2.1 (zmn e.2.2) RX7 ∈ lw_tbl := by
  unfold zXT
  simp only [List.forall_mem_cons]
  exact ⟨zt_n4, zt_n0, zt_n1, zt_n2, zt_n3, fun _ h => absurd h List.not_mem_nil⟩
def zM0 : zM := ([], fun _ _ => 0, fun _ _ => 0)
/-- what is left: the law's run on the abstract machine ends with 1 -/
def zPure : Prop := ∀ (L : Nat) (xs : Nat → Int32), L ≤ 384 → ∃ (n : Nat) (M' : zM), zev (L, xs) n 2000 0 0 (zent 0 [.ref 1000]) [] zM0 = some (some (.int 1), M') ∧ M'.1.length ≤ 600000 ∧ zsl M' ≤ 7302250
theorem zarrOf {U : State} {args : Array Value} {ty : FieldType} (h : (Cond.arrayClass ty).before args U = true) : ∃ cA : ClassId, ArrOfT U cA ty ∧ U.vm.findClass ("[" ++ ty.toString) = some cA := by
  obtain ⟨cA, kA, comp, h1, h2, h3⟩ := Cond.arrayClass_spec h
  exact ⟨cA, fun n z => ⟨fun k h => (by cases h), kA, h2, comp, h3⟩, h1⟩
theorem zwhole (hp : zPure) {p : Program} {e : Env} {s : State} {m : MethodId} {below : List Frame} {meth : Method} {c : Code} (l : Launch) {b L : Nat} {xs : Nat → Int32} (hL : L ≤ 384) (C0 : lw_At p s m meth c b L xs) : W p l e room_1 s m #[Value.ref b] below meth c s.heap [] 0 0 (lw_Z below #[Value.ref b] s) (entryFrame m ([Value.ref b] : List Value).toArray 4) := by
  obtain ⟨hx, hb, hr, hml, hown, hts0, hX, hbl, hlocks, hgv⟩ := C0
  have hts : ∀ w ∈ zTs, w.before #[Value.ref b] s = true := fun w hw => hts0 w (zTs_tbl w hw)
  have hs := flat_of_before _ hgv
  have hA : ∀ a : Nat, a < s.heap.size → ¬ zA s.heap.size a := fun a h q => absurd (show s.heap.size ≤ a from q) (by omega)
  -- the statics and the text
  obtain ⟨tA, hA1, hA2⟩ := va_Tof (tm := .static RX0 "ABOVE" "[I") (ty := .int) (N := 8) (f := fun j => .int (zabove.getD j 0)) (A := zA s.heap.size) (args := #[Value.ref b]) (s := s) (by decide) (hs _ (by decide +kernel)) (va_eqt (z := 8) (hs _ (by decide +kernel))) (fun j hj => by
    match j, hj with
    | 0, _ => exact va_eqt (z := -1) (hs _ (by decide +kernel))
    | 1, _ => exact va_eqt (z := 0) (hs _ (by decide +kernel))
    | 2, _ => exact va_eqt (z := 0) (hs _ (by decide +kernel))
    | 3, _ => exact va_eqt (z := 2) (hs _ (by decide +kernel))
    | 4, _ => exact va_eqt (z := 1) (hs _ (by decide +kernel))
    | 5, _ => exact va_eqt (z := 4) (hs _ (by decide +kernel))
    | 6, _ => exact va_eqt (z := 0) (hs _ (by decide +kernel))
    | 7, _ => exact va_eqt (z := 6) (hs _ (by decide +kernel))
    | n + 8, h => exact absurd h (by omega)) hA
  have hZ1 : va_Z RX0 "ABOVE" "[I" (.ref tA) (zA s.heap.size) s s.heap := va_Zof (hts0 _ zt_ls2) (hts _ (zwn 0 (by omega)).2) hA1 hA
  have hZ2 : va_Z "java/lang/String" "COMPACT_STRINGS" "Z" (.int 1) (zA s.heap.size) s s.heap := va_Zof (hts0 _ zt_ls1) (hts0 _ zt_in0) (va_eqt (z := 1) (hs _ (by decide +kernel))) hA
  have hex : (Cond.exactly (.string RX2 72) "java/lang/String").before #[Value.ref b] s = true := hs _ (by decide +kernel)
  obtain ⟨aS, cS0, cA0, kA0, s1, -⟩ := Cond.exactly_spec (args := #[Value.ref b]) (first := s) (o := none) (s := s) (idx := []) (t := .string RX2 72) (cls := "java/lang/String") hex
  have hO := va_Oof hex s1 hA
  obtain ⟨tV, hV1, hV2⟩ := va_Tof (tm := .field (.string RX2 72) "java/lang/String" "value" "[B") (ty := .byte) (N := 8) (f := fun j => .int (znames.getD j 0)) (A := zA s.heap.size) (args := #[Value.ref b]) (s := s) (by decide) (hs _ (by decide +kernel)) (va_eqt (z := 8) (hs _ (by decide +kernel))) (fun j hj => by
    match j, hj with
    | 0, _ => exact va_eqt (z := 109) (hs _ (by decide +kernel))
    | 1, _ => exact va_eqt (z := 107) (hs _ (by decide +kernel))
    | 2, _ => exact va_eqt (z := 119) (hs _ (by decide +kernel))
    | 3, _ => exact va_eqt (z := 113) (hs _ (by decide +kernel))
    | 4, _ => exact va_eqt (z := 110) (hs _ (by decide +kernel))
    | 5, _ => exact va_eqt (z := 102) (hs _ (by decide +kernel))
    | 6, _ => exact va_eqt (z := 111) (hs _ (by decide +kernel))
    | 7, _ => exact va_eqt (z := 104) (hs _ (by decide +kernel))
    | n + 8, h => exact absurd h (by omega)) hA
  have hF1 : va_OF "java/lang/String" "coder" "B" (.int 0) aS (zA s.heap.size) s s.heap := vk_OFof s1 (va_eqt (z := 0) (hs _ (by decide +kernel))) hA
  have hF2 : va_OF "java/lang/String" "value" "[B" (.ref tV) aS (zA s.heap.size) s s.heap := vk_OFof s1 hV1 hA
  -- the classes
  obtain ⟨cI, i1, i2⟩ := zarrOf (hts _ zw_aI)
  obtain ⟨cB, b1, b2⟩ := zarrOf (hts _ zw_aB)
  obtain ⟨cS, t1, t2⟩ := zarrOf (hts _ zw_aS)
  obtain ⟨cJ, j1, j2⟩ := zarrOf (hts _ zw_aJ)
  obtain ⟨compQ, cQ, kQ, q1, q2, q3, q4, q5⟩ := Cond.arrayOver_spec (hts0 _ zt_ao1)
  obtain ⟨compR, cR, kR, r1, r2, r3, r4, r5⟩ := zaoA (U := s) (hts0 _ zt_ao2)
  have hD0 : ∀ ci : Nat, ∃ q : ClassId × (Nat → Nat), ci < 9 → u_Kn s (zcn ci) (zT ci) (zNf ci) q.1 q.2 := by
    intro ci
    by_cases h : ci < 9
    · obtain ⟨cC, iS, h1⟩ := u_known (N := zNf ci) hts (z_in ci h) (hts _ (zwn ci h).1)
      exact ⟨(cC, iS), fun _ => h1⟩
    · exact ⟨(0, fun _ => 0), fun q => absurd q h⟩
  obtain ⟨y, hy⟩ : ∃ y : Nat → ClassId, zys y = [(cI, .int), (cB, .byte), (cS, .short), (cJ, .long), (cQ, .object RX4), (cR, .array .int)] := ⟨fun k => match k with
    | 0 => cI
    | 1 => cB
    | 2 => cS
    | 3 => cJ
    | 4 => cQ
    | _ => cR, rfl⟩
  have hK : va_K (fun ci => (Classical.choose (hD0 ci)).1, fun ci => (Classical.choose (hD0 ci)).2) vwCl (zys y) s := by
    refine ⟨fun ci q hq => ?_, fun k q hq => ?_⟩
    · have h9 : ci < 9 := (List.getElem?_eq_some_iff.mp hq).1
      have h := Classical.choose_spec (hD0 ci) h9
      rw [z_cl ci h9] at hq
      cases hq
      exact h
    · rw [hy] at hq
      match k, hq with
      | 0, hq => cases hq; exact ⟨i1, i2⟩
      | 1, hq => cases hq; exact ⟨b1, b2⟩
      | 2, hq => cases hq; exact ⟨t1, t2⟩
      | 3, hq => cases hq; exact ⟨j1, j2⟩
      | 4, hq => cases hq; exact ⟨fun n z => ⟨fun k h => (by cases h), kQ, q3, compQ, q4⟩, kQ, compQ, q3, q4, q1, q5⟩
      | 5, hq => cases hq; exact ⟨fun n z => ⟨fun k h => (by cases h), kR, r3, compR, r4⟩, r5⟩
      | k + 6, hq => cases hq
  generalize ((fun ci => (Classical.choose (hD0 ci)).1, fun ci => (Classical.choose (hD0 ci)).2) : va_G) = D at hK
  have hE : zExt s.heap.size s.heap (fun i => match i with
    | 0 => b
    | 1 => aS
    | 2 => tA
    | _ => tV) (L, xs) s :=
    ⟨⟨hbl, hX⟩, hA2, hV2, ⟨hO, hF1, hF2⟩, hZ1, hZ2, vk_R.of (hts0 _ zt_str) s1, fun e he => va_Nw.of rfl (hts0 _ (zt_nest e he)), va_AO.of (hts0 _ zt_ao1), hts0 _ zt_ao2⟩
  generalize hEx : (fun i => match i with
    | 0 => b
    | 1 => aS
    | 2 => tA
    | _ => tV : Nat → Nat) = Ex at hE
  have hEx0 : Ex 0 = b := by subst hEx; rfl
  have hC : zCtx s.heap.size s.heap Ex (L, xs) y D 0 p room_1 s m #[Value.ref b] meth c :=
    ⟨hx, hb, hml, hown, hts, fun h => absurd h (by decide), hK, hE, by decide, by decide⟩
  obtain ⟨n, M', hrun, hm1, hm2⟩ := hp L xs hL
  have hR : zRep s.heap.size s.heap Ex y D zM0 s.heap := ⟨by decide, rfl, fun _ _ => rfl, fun i hi => absurd hi (Nat.not_lt_zero _)⟩
  have e0 : [Value.ref b] = [Value.ref 1000].map (zcv (zad s.heap.size Ex)) := by
    show [Value.ref b] = [Value.ref (Ex 0)]
    rw [hEx0]
  have hl := lv_entry ([Value.ref b]) (n := 4) (Nat.le_of_ble_eq_true rfl)
  rw [lg_entry_eq]
  have hLs : zL (zad s.heap.size Ex) (zml 0) (zent 0 [.ref 1000]) ((lg_sl [Value.ref b] ++ List.replicate (4 - (lg_sl [Value.ref b]).length) Slot.unset).toArray) := by
    refine zL.of hl fun i v hg => ?_
    have := zla_get (ad := zad s.heap.size Ex) [.ref 1000] 0 i v hg
    rw [Nat.zero_add, ← e0] at this
    exact this
  refine zsim (l := l) n 2000 0 0 (zent 0 [.ref 1000]) [] zM0 (some (.int 1)) M' hrun p e room_1 s m _ below meth c s.heap [] 0 0 _ _ hC hR (fun q hq => absurd hq List.not_mem_nil) hLs (by decide) (by decide) ?_ ?_ ?_
  · show 0 + M'.1.length ≤ 600000 + 0
    omega
  · show 0 + zsl M' ≤ 7302250 + 0
    omega
  · intro pc' ls' st' lsA' H' locs' cells' slots' hst hR' hL' hc1 hc2
    have hc1 : cells' + 0 = 0 + M'.1.length := hc1
    have hc2 : slots' + 0 = 0 + zsl M' := hc2
    obtain ⟨ins, nn, a1, a2, ai, hz, h⟩ := zn_step hst
    obtain ⟨hm, hd, hn, ha⟩ := zk_ok hz
    dsimp only at hd hn
    rcases h with ⟨-, ls0, h⟩ | ⟨rfl, h⟩ | ⟨rfl, h⟩ | ⟨rfl, h⟩
    · obtain ⟨-, -, -, -, h⟩ := zn_inv h
      cases h
    · obtain rfl : nn = 1 := eq_of_beq hn
      unfold zret at h
      split at h
      · rename_i x
        have hx1 : x = 1 := by
          split at h
          · cases h; rfl
          · split at h
            · cases h; rfl
            · cases h
          · split at h
            · cases h; rfl
            · cases h
          · cases h
        subst hx1
        refine va_forget (fun q hq => hL' q hq) ?_
        refine W.widen (k := 600000) (n := 7302250) (by omega) (by omega) ?_
        exact lw_ret hx hb hr hlocks hd
      · cases h
    · unfold zretl at h
      split at h
      · split at h <;> cases h
      · cases h
    · unfold zretv at h
      split at h
      · split at h <;> cases h
      · cases h
