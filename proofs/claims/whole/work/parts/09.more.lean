/-! arrays that are made, copies, constants, statics, switches -/
section ZS4
variable {p : Program} {l : Launch} {e : Env} {R : Room} {s : State} {m : MethodId} {args : Array Value} {below : List Frame} {meth : Method} {c : Code} {H : Heap} {locs : List Loc} {cells slots : Nat} {Q : State → Prop}
variable {B0 : Nat} {Hb : Heap} {Ex : Nat → Nat} {X : zX} {y : Nat → ClassId} {D : va_G} {mid pc : Nat} {ls : zLs} {lsA : Array Slot} {st : List Value} {M : zM} {q1 : Nat × zLs × List Value × zM}
theorem zval_n0 {ad : Nat → Nat} {kd N j : Nat} {rs : List (Option Nat)} (h : kd < 3) : zval ad (znew M (kd, N, rs)) M.1.length j = .int 0 := by
  rw [zval_i (by unfold zkd; rw [zsh_new_at]; exact h)]
  unfold znew va_up
  dsimp only
  rw [if_pos rfl]
theorem zval_n3 {ad : Nat → Nat} {N j : Nat} {rs : List (Option Nat)} : zval ad (znew M (3, N, rs)) M.1.length j = .long 0 := by
  rw [zval_j (by unfold zkd; rw [zsh_new_at])]
  unfold znew va_up
  dsimp only
  rw [if_pos rfl]
theorem zval_n4 {ad : Nat → Nat} {N j n : Nat} : zval ad (znew M (4, N, List.replicate n none)) M.1.length j = .null := by
  rw [zval_q (Or.inl (by unfold zkd; rw [zsh_new_at]))]
  unfold zri
  rw [zsh_new_at]
  dsimp only
  rw [List.getD_eq_getElem?_getD]
  cases hg : (List.replicate n (none : Option Nat))[j]? with
  | none => rfl
  | some o =>
    have := List.mem_of_getElem? hg
    rw [List.eq_of_mem_replicate this]; rfl
theorem zs_newa1 {kd : Nat} {t : ArrayType} {n : Int32} {r : List Value} (hkd : kd < 4) (ht : newarray.typeOf t = zkt kd) (hcb : componentBytes (zkt kd) ≤ 8) (hva : va_RA s (y kd) (zkt kd) = (s.vm.findClass ("[" ++ (newarray.typeOf t).toString) = some (y kd)))
    (hval : ∀ N j, zval (zad B0 Ex) (znew M (kd, N, [])) M.1.length j = defaultValue (newarray.typeOf t)) (harr : Cond.arrayClass (newarray.typeOf t) ∈ zTs) (hn : ¬ n < 0) (hN : n.toNatClampNeg < 10000) (hlen : M.1.length < 900)
    (S : zS p l e R s m args below meth c H locs cells slots Q B0 Hb Ex X y D mid ls lsA M (pc + 2, ls, .ref M.1.length :: r, znew M (kd, n.toNatClampNeg, []))) (hd : decode (zby mid) pc = .ok (.newarray t, 2)) :
    W p l e R s m args below meth c H locs cells slots Q (F0 m pc lsA ((.int n :: r).map (zcv (zad B0 Ex)))) := by
  obtain ⟨hx, hb, hml, hown, hts, hini, hK, hE, -⟩ := S.1
  have hR := S.2.1
  have hcs := S.2.2.2.2.1
  have hss := S.2.2.2.2.2.1
  have ez : zsl (znew M (kd, n.toNatClampNeg, [])) = zsl M + n.toNatClampNeg := zsl_new
  have el : (znew M (kd, n.toNatClampNeg, [])).1.length = M.1.length + 1 := by unfold znew; simp
  dsimp only at hcs hss
  have hsz : H.size = zad B0 Ex M.1.length := by rw [zad_lt (by omega)]; exact hR.2.1
  refine va_newaK hx hb (hts _ harr) rfl hd rfl hn rfl ?_ (by omega) (by omega) (h := zad B0 Ex M.1.length) hsz fun H1 cA e1 z1 o1 hAr hNm => ?_
  · rw [ht]
    calc n.toNatClampNeg * componentBytes (zkt kd) ≤ n.toNatClampNeg * 8 := Nat.mul_le_mul_left _ hcb
      _ ≤ 536870912 := by omega
  · have h2 := (zkt_arr hK (kd := kd) (by omega)).2
    rw [hva] at h2
    have e9 : cA = y kd := Option.some.inj (hNm.symm.trans h2)
    rw [e9] at e1
    exact zs_newarr S hlen (by omega) e1 (hval _) (by omega) (fun q hq => o1 q (by omega))
theorem zs_newa {t : ArrayType} (S : zS p l e R s m args below meth c H locs cells slots Q B0 Hb Ex X y D mid ls lsA M q1) (h : znewa pc t ls st M = some (.inl q1)) (hd : decode (zby mid) pc = .ok (.newarray t, 2))
    (ha : Cond.arrayClass .int ∈ zTs ∧ Cond.arrayClass .byte ∈ zTs ∧ Cond.arrayClass .short ∈ zTs ∧ Cond.arrayClass .long ∈ zTs) :
    W p l e R s m args below meth c H locs cells slots Q (F0 m pc lsA (st.map (zcv (zad B0 Ex)))) := by
  unfold znewa at h
  split at h
  · rename_i n r
    obtain ⟨h1, h⟩ := zbif h (by intro q; cases q)
    obtain ⟨h1, hk⟩ := zband h1
    obtain ⟨h1, hlen⟩ := zband h1
    obtain ⟨hn, hN⟩ := zband h1
    have hlen : M.1.length < 900 := Nat.blt_eq.mp hlen
    have hN : n.toNatClampNeg < 10000 := Nat.blt_eq.mp hN
    have hn : ¬ n < 0 := by simpa using hn
    cases h
    cases t
    case int => exact zs_newa1 (t := .int) (kd := 0) (by omega) rfl (by decide) rfl (fun N j => zval_n0 (by omega)) ha.1 hn hN hlen S hd
    case byte => exact zs_newa1 (t := .byte) (kd := 1) (by omega) rfl (by decide) rfl (fun N j => zval_n0 (by omega)) ha.2.1 hn hN hlen S hd
    case short => exact zs_newa1 (t := .short) (kd := 2) (by omega) rfl (by decide) rfl (fun N j => zval_n0 (by omega)) ha.2.2.1 hn hN hlen S hd
    case long => exact zs_newa1 (t := .long) (kd := 3) (by omega) rfl (by decide) rfl (fun N j => zval_n3) ha.2.2.2 hn hN hlen S hd
    all_goals (exact absurd hk (by decide))
  · cases h
theorem zs_newq {index : Nat} (S : zS p l e R s m args below meth c H locs cells slots Q B0 Hb Ex X y D mid ls lsA M q1) (h : znewq pc ls st M = some (.inl q1)) (hd : decode (zby mid) pc = .ok (.anewarray index, 3))
    (ho : zoc mid = 7) (hw : Cond.classLink RX7 index RX4 ∈ zTs) :
    W p l e R s m args below meth c H locs cells slots Q (F0 m pc lsA (st.map (zcv (zad B0 Ex)))) := by
  obtain ⟨hx, hb, hml, hown, hts, hini, hK, hE, -⟩ := S.1
  have hR := S.2.1
  unfold znewq at h
  split at h
  · rename_i n r
    obtain ⟨h1, h⟩ := zbif h (by intro q; cases q)
    obtain ⟨h1, hlen⟩ := zband h1
    obtain ⟨hn, hN⟩ := zband h1
    have hlen : M.1.length < 900 := Nat.blt_eq.mp hlen
    have hN : n.toNatClampNeg < 10000 := Nat.blt_eq.mp hN
    have hn : ¬ n < 0 := by simpa using hn
    cases h
    have hcs := S.2.2.2.2.1
    have hss := S.2.2.2.2.2.1
    have ez : zsl (znew M (4, n.toNatClampNeg, List.replicate n.toNatClampNeg none)) = zsl M + n.toNatClampNeg := zsl_new
    have el : (znew M (4, n.toNatClampNeg, List.replicate n.toNatClampNeg none)).1.length = M.1.length + 1 := by unfold znew; simp
    dsimp only at hcs hss
    have hsz : H.size = zad B0 Ex M.1.length := by rw [zad_lt (by omega)]; exact hR.2.1
    rw [ho] at hown
    obtain ⟨-, -, -, -, -, -, -, -, hAO, -⟩ := hE
    refine W.anew hx hb hown (hts _ hw) (va_AO.use hAO) rfl hd rfl hn (by omega) (by omega) (by omega) fun cA kA comp f1 f2 f3 f4 => ?_
    have h2 := (zkt_arr hK (kd := 4) (by omega)).2
    obtain ⟨kA', comp', k1, k2, k3, k4⟩ := h2
    have e9 : cA = y 4 := Option.some.inj (f1.symm.trans k4)
    subst e9
    have hg : (F0 m (pc + 3) lsA (.ref H.size :: r.map (zcv (zad B0 Ex)))) = F0 m (pc + 3) lsA ((.ref M.1.length :: r).map (zcv (zad B0 Ex))) := by
      rw [hsz]; rfl
    refine W.eq (g2 := F0 m (pc + 3) lsA ((.ref M.1.length :: r).map (zcv (zad B0 Ex)))) hg ?_
    refine zs_newarr S hlen (by omega) (f := fun _ => .null) ?_ (fun j => zval_n4) (by rw [Array.size_push]) (fun q hq => by rw [Array.getElem?_push, if_neg (Nat.ne_of_lt hq)])
    rw [← hsz, Array.getElem?_push_size, ← arrV_new]
  · cases h
theorem zs_gets {index k : Nat} (S : zS p l e R s m args below meth c H locs cells slots Q B0 Hb Ex X y D mid ls lsA M q1) (h : (bif Nat.beq k 0 then zN (pc + 3) ls (.ref 1002 :: st) M else zN (pc + 3) ls (.int 1 :: st) M) = some (.inl q1)) (hd : decode (zby mid) pc = .ok (.getstatic index, 3))
    (ho : (k = 0 ∧ zoc mid = 0 ∧ index = 35) ∨ (¬ k = 0 ∧ zoc mid = 10 ∧ index = 38)) (hw : Cond.fieldLink RX0 35 "FullerSquare$Acts" "ABOVE" "[I" ∈ zTs ∧ Cond.fieldLink RJ0 38 "java/lang/String" "COMPACT_STRINGS" "Z" ∈ zTs) :
    W p l e R s m args below meth c H locs cells slots Q (F0 m pc lsA (st.map (zcv (zad B0 Ex)))) := by
  obtain ⟨hx, hb, hml, hown, hts, hini, hK, hE, -⟩ := S.1
  have hR := S.2.1
  obtain ⟨-, -, -, -, ⟨cf, kf, fi, f, a, cell, g1, g2, g3, g4, g5, g6, g7, g8⟩, ⟨cf', kf', fi', f', a', cell', j1, j2, j3, j4, j5, j6, j7, j8⟩, -⟩ := hE
  rcases ho with ⟨rfl, o1, rfl⟩ | ⟨o0, o1, rfl⟩
  · have h : zN (pc + 3) ls (.ref 1002 :: st) M = some (.inl q1) := h
    cases h
    rw [o1] at hown
    exact W.gets hx hb hown (hts _ hw.1) g1 g2 g3 g4 (by rw [hR.2.2.1 _ (Nat.not_le.mp g8)]; exact g5) (fun e => by rw [e] at g6; cases g6) g7 rfl hd (S.go S.2.2.2.1 rfl)
  · have h : zN (pc + 3) ls (.int 1 :: st) M = some (.inl q1) := by
      rw [← h]
      cases hk : Nat.beq k 0 with
      | true => exact absurd (Nat.eq_of_beq_eq_true hk) o0
      | false => rfl
    cases h
    rw [o1] at hown
    exact W.gets hx hb hown (hts _ hw.2) j1 j2 j3 j4 (by rw [hR.2.2.1 _ (Nat.not_le.mp j8)]; exact j5) (fun e => by rw [e] at j6; cases j6) j7 rfl hd (S.go S.2.2.2.1 rfl)
theorem ztab_spec {x : Int32} {d : Int} {r : List Value} {q : Nat × zLs × List Value × zM} : ∀ (os : List Int) (lo : Int), ztab pc x d ls r M lo os = some (.inl q) → (∃ (j : Nat) (o : Int), os[j]? = some o ∧ x.toInt = lo + j ∧ zjump pc o ls r M = some (.inl q)) ∨ ((x.toInt < lo ∨ lo + os.length ≤ x.toInt) ∧ zjump pc d ls r M = some (.inl q))
  | [], lo, h => Or.inr ⟨by simp only [List.length_nil]; omega, h⟩
  | o :: os, lo, h => by
    unfold ztab at h
    split at h
    · rename_i hx
      exact Or.inl ⟨0, o, rfl, by omega, h⟩
    · rename_i hx
      rcases ztab_spec os (lo + 1) h with ⟨j, o', h1, h2, h3⟩ | ⟨h1, h2⟩
      · exact Or.inl ⟨j + 1, o', h1, by omega, h3⟩
      · refine Or.inr ⟨?_, h2⟩
        simp only [List.length_cons]
        omega
theorem zs_tab {d lo hi : Int} {os : Array Int} {len : Nat} (S : zS p l e R s m args below meth c H locs cells slots Q B0 Hb Ex X y D mid ls lsA M q1) (h : (match st with
    | .int x :: r => ztab pc x d ls r M lo os.toList
    | _ => none) = some (.inl q1)) (hd : decode (zby mid) pc = .ok (.tableswitch d lo hi os, len)) (hh : hi = lo + os.size - 1) :
    W p l e R s m args below meth c H locs cells slots Q (F0 m pc lsA (st.map (zcv (zad B0 Ex)))) := by
  obtain ⟨hx, hb, -⟩ := S.1
  split at h
  · rename_i x r
    have hsz : os.toList.length = os.size := by simp
    rcases ztab_spec _ _ h with ⟨j, o, h1, h2, h3⟩ | ⟨h1, h2⟩
    · have hj : j < os.toList.length := (List.getElem?_eq_some_iff.mp h1).1
      refine zs_jump (st := .int x :: r) S h3 fun tgt ht kk => ?_
      exact lv_tableIn hx hb hd (by omega) (by omega) (off := o) (by
        have : (x.toInt - lo).toNat = j := by omega
        rw [this]
        simpa using h1) ht kk
    · refine zs_jump (st := .int x :: r) S h2 fun tgt ht kk => ?_
      exact lv_tableOut hx hb hd (by omega) ht kk
  · cases h
theorem zlook_spec {x : Int32} {d : Int} {r : List Value} {q : Nat × zLs × List Value × zM} : ∀ (ps : List (Int × Int)), zlook pc x d ls r M ps = some (.inl q) → zjump pc (Op.lookupswitch.offset ps d x.toInt) ls r M = some (.inl q)
  | [], h => h
  | o :: os, h => by
    unfold zlook at h
    split at h
    · rename_i hx
      have : Op.lookupswitch.offset (o :: os) d x.toInt = o.2 := by
        obtain ⟨a, b⟩ := o
        dsimp only at hx
        simp [Op.lookupswitch.offset, hx]
      rw [this]; exact h
    · rename_i hx
      have : Op.lookupswitch.offset (o :: os) d x.toInt = Op.lookupswitch.offset os d x.toInt := by
        obtain ⟨a, b⟩ := o
        dsimp only at hx
        simp [Op.lookupswitch.offset, Ne.symm hx, hx]
      rw [this]; exact zlook_spec os h
theorem zs_look {d : Int} {ps : Array (Int × Int)} {len : Nat} (S : zS p l e R s m args below meth c H locs cells slots Q B0 Hb Ex X y D mid ls lsA M q1) (h : (match st with
    | .int x :: r => zlook pc x d ls r M ps.toList
    | _ => none) = some (.inl q1)) (hd : decode (zby mid) pc = .ok (.lookupswitch d ps, len)) (hp : (ps.toList.zip (ps.toList.drop 1)).all (fun (a, next) => a.1 < next.1) = true) :
    W p l e R s m args below meth c H locs cells slots Q (F0 m pc lsA (st.map (zcv (zad B0 Ex)))) := by
  obtain ⟨hx, hb, -⟩ := S.1
  split at h
  · rename_i x r
    refine zs_jump (st := .int x :: r) S (zlook_spec _ h) fun tgt ht kk => ?_
    exact lv_lookup hx hb hd hp rfl ht kk
  · cases h
theorem zs_copyW {α : Type} (mk : α → Value) {a b kd n0 n1 : Nat} {f g : Nat → α} {sp dp n : Int32} {r : List Value} {index : Nat} (hC : zCtx B0 Hb Ex X y D mid p R s m args meth c) (hsz : lsA.size = zml mid) (hw : Cond.methodLink (zcn (zoc mid)) index arraycopyName ∈ zTs) (hw2 : Cond.native arraycopyName ∈ zTs ∧ Cond.static arraycopyName ∈ zTs ∧ Cond.initialized "java/lang/System" ∈ zTs) (hkd : kd < 4)
    (ha : H[a]? = some (arrV (y kd) n0 (fun j => mk (f j)))) (hb' : H[b]? = some (arrV (y kd) n1 (fun j => mk (g j)))) (hpr : refKind (zkt kd) = false) (hfit : ∀ v : α, fits (zkt kd) (mk v) = true) (htk : ∀ (U : State) (cc : ClassId) (v : α), U.takes cc (mk v))
    (h1 : ¬ sp < 0) (h2 : ¬ dp < 0) (h3 : ¬ n < 0) (h4 : sp.toNatClampNeg + n.toNatClampNeg ≤ n0) (h5 : dp.toNatClampNeg + n.toNatClampNeg ≤ n1) (hcat : (r.map fun v => v.category).sum ≤ 8) (hd : decode (zby mid) pc = .ok (.invokestatic index, 3))
    (kk : ∀ (H1 : Heap) (locs1 : List Loc), H1[b]? = some (arrV (y kd) n1 (fun j => mk (va_cpy f g sp.toNatClampNeg dp.toNatClampNeg n.toNatClampNeg j))) → H1.size = H.size → (∀ q, q ≠ b → H1[q]? = H[q]?) → (∀ q ∈ locs1, q ∈ locs ∨ q.base = b) → W p l e R s m args below meth c H1 locs1 cells slots Q (F0 m (pc + 3) lsA r)) :
    W p l e R s m args below meth c H locs cells slots Q (F0 m pc lsA (.int n :: .int dp :: .ref b :: .int sp :: .ref a :: r)) := by
  obtain ⟨hx, hb, hml, hown, hts, hini, hK, hE, hfr, hlo⟩ := hC
  have nn : ∀ z : Int32, ¬ z < 0 → z.toInt = (z.toNatClampNeg : Int) := by
    intro z hz
    have hz0 : (0 : Int) ≤ z.toInt := by
      have := Int32.not_lt.mp hz
      simpa using Int32.le_iff_toInt_le.mp this
    show z.toInt = ((z.toInt.toNat : Nat) : Int)
    omega
  intro T hT XX
  have hAr := (zkt_arr hK (kd := kd) (by omega)).1
  obtain ⟨-, k0, hk0, cm0, hkk0⟩ := hAr n0 (fun j => mk (f j))
  obtain ⟨-, k1, hk1, cm1, hkk1⟩ := hAr n1 (fun j => mk (g j))
  obtain ⟨vm', X', step⟩ := XX.arraycopy hx hown (hts _ hw) (hts _ hw2.1) (hts _ hw2.2.1) (hts _ hw2.2.2) (src := a) (dst := b) (cs := arrV (y kd) n0 (fun j => mk (f j))) (cd := arrV (y kd) n1 (fun j => mk (g j))) (srcPos := sp) (destPos := dp) (n := n) (by rw [hT]; exact ha) (by rw [hT]; exact hb')
    (fun _ h => by cases h) (fun _ h => by cases h) (fun h => by cases h) (fun h => by cases h) hk0 hk1 hkk0 hkk1 (by simp [hpr]) h1 h2 h3
    (by rw [nn sp h1, nn n h3, arrV_size]; omega)
    (by rw [nn dp h2, nn n h3, arrV_size]; omega)
    (fun vm₁ _ i hi => by
      have e : (arrV (y kd) n0 (fun j => mk (f j))).slots.getD (sp.toNatClampNeg + i) .null = mk (f (sp.toNatClampNeg + i)) := by
        rw [Array.getD_eq_getD_getElem?, arrV_read _ _ (by omega)]
        rfl
      rw [e]
      exact ⟨hfit _, htk _ _ _⟩)
    (g := F0 m pc lsA (.int n :: .int dp :: .ref b :: .int sp :: .ref a :: r)) rfl (by rw [hml]; exact hsz) (rest := r) rfl (by rw [hb]; exact hd) hfr (by
      have hnw : nativeFrameWords "java/lang/System" "arraycopy" 5 + 11 ≤ 90 := by decide
      show 2 * 0 + _ + _ ≤ _
      omega)
  have e1 : copied (arrV (y kd) n0 (fun j => mk (f j))) (arrV (y kd) n1 (fun j => mk (g j))) sp dp n = arrV (y kd) n1 (fun j => mk (va_cpy f g sp.toNatClampNeg dp.toNatClampNeg n.toNatClampNeg j)) := va_copied mk (y kd) (y kd) f g h4
  rw [e1] at X' step
  have hl : b < H.size := (Array.getElem?_eq_some_iff.mp hb').1
  generalize hNC : arrV (y kd) n1 (fun j => mk (va_cpy f g sp.toNatClampNeg dp.toNatClampNeg n.toNatClampNeg j)) = NC at X' step kk
  have hheap : ((T.setVm vm').setCell b NC).heap = H.setIfInBounds b NC := by rw [← hT]; rfl
  obtain ⟨t, a1, b1⟩ := kk (H.setIfInBounds b NC) _ (by simp [Array.getElem?_setIfInBounds, hl]) (by simp) (fun q hq => by simp [Array.getElem?_setIfInBounds, Ne.symm hq]) (fun q hq => by
      rcases List.mem_append.mp hq with h | h
      · exact Or.inl h
      · obtain ⟨z, -, hz⟩ := List.mem_map.mp h
        right
        rw [← hz]) _ hheap X'
  exact ⟨t, step t a1, b1⟩
theorem zs_copy {index : Nat} (S : zS p l e R s m args below meth c H locs cells slots Q B0 Hb Ex X y D mid ls lsA M q1) (h : zcopy pc ls st M = some (.inl q1)) (hd : decode (zby mid) pc = .ok (.invokestatic index, 3))
    (hw : Cond.methodLink (zcn (zoc mid)) index arraycopyName ∈ zTs) (hw2 : Cond.native arraycopyName ∈ zTs ∧ Cond.static arraycopyName ∈ zTs ∧ Cond.initialized "java/lang/System" ∈ zTs) :
    W p l e R s m args below meth c H locs cells slots Q (F0 m pc lsA (st.map (zcv (zad B0 Ex)))) := by
  have hR := S.2.1
  unfold zcopy at h
  split at h
  · rename_i n dp b sp a r
    obtain ⟨h1, h⟩ := zbif h (by intro q; cases q)
    obtain ⟨h1, hcat⟩ := zband h1
    obtain ⟨h1, h5⟩ := zband h1
    obtain ⟨h1, h4⟩ := zband h1
    obtain ⟨h1, h3⟩ := zband h1
    obtain ⟨h1, h2⟩ := zband h1
    obtain ⟨h1, h0⟩ := zband h1
    obtain ⟨h1, hkk⟩ := zband h1
    obtain ⟨ha, hb⟩ := zband h1
    have ha : a < 1000 := Nat.blt_eq.mp ha
    have hb : b < 1000 := Nat.blt_eq.mp hb
    have hkk : zkd M a = zkd M b := Nat.eq_of_beq_eq_true hkk
    have h0 : ¬ sp < 0 := by simpa using h0
    have h2 : ¬ dp < 0 := by simpa using h2
    have h3 : ¬ n < 0 := by simpa using h3
    have h4 := Nat.le_of_ble_eq_true h4
    have h5 := Nat.le_of_ble_eq_true h5
    have hcat : zcats r ≤ 8 := Nat.le_of_ble_eq_true hcat
    have hcat' : ((r.map (zcv (zad B0 Ex))).map fun v => v.category).sum ≤ 8 := by
      have : (r.map (zcv (zad B0 Ex))).map (fun v => v.category) = r.map (fun v => v.category) := by
        rw [List.map_map]
        apply List.map_congr_left
        intro v _
        exact zcv_cat _ v
      rw [this]; exact hcat
    split at h
    · rename_i hk
      cases h
      have hca := hR.arr (a := a) (by omega)
      have hcb := hR.arr (a := b) (by omega)
      have e1 : zval (zad B0 Ex) M a = fun j => .int (M.2.1 a j) := by funext j; exact zval_i (by omega)
      have e2 : zval (zad B0 Ex) M b = fun j => .int (M.2.1 b j) := by funext j; exact zval_i (by omega)
      have hkb : zkd M b = 0 := by omega
      rw [hk, e1] at hca
      rw [hkb, e2] at hcb
      refine zs_copyW (fun z => Value.int z) (kd := 0) (a := zad B0 Ex a) (b := zad B0 Ex b) S.1 S.2.2.2.1.1 hw hw2 (by omega) hca hcb rfl (fun _ => rfl) (fun _ _ _ => trivial) h0 h2 h3 h4 h5 hcat' hd fun H1 locs1 g1 g2 g3 g4 => ?_
      obtain ⟨hC, -, hL, hl, -, -, kk⟩ := S
      refine kk H1 locs1 lsA cells slots (hR.set (hR.lt (by omega)) rfl ?_ g2 g3 (fun i hi => ⟨rfl, if_neg hi, rfl⟩)) (fun q hq => ?_) hl rfl rfl
      · have ek : zkd (zrow M b (va_cpy (M.2.1 a) (M.2.1 b) sp.toNatClampNeg dp.toNatClampNeg n.toNatClampNeg)) b = 0 := hkb
        show zat _ y D (zrow M b _) b H1
        unfold zat
        rw [ek, if_neg (by omega), g1]
        congr 2
        funext j
        rw [zval_i (by omega)]
        show _ = Value.int (va_up M.2.1 b _ b j)
        unfold va_up
        rw [if_pos rfl]
      · rcases g4 q hq with h | h
        · exact hL q h
        · show B0 ≤ q.base
          rw [h, zad_lt hb]; omega
    · rename_i hk
      cases h
      have hca := hR.arr (a := a) (by omega)
      have hcb := hR.arr (a := b) (by omega)
      have hkb : zkd M b = 3 := by omega
      have e1 : zval (zad B0 Ex) M a = fun j => .long (M.2.2 a j) := by funext j; exact zval_j hk
      have e2 : zval (zad B0 Ex) M b = fun j => .long (M.2.2 b j) := by funext j; exact zval_j hkb
      rw [hk, e1] at hca
      rw [hkb, e2] at hcb
      refine zs_copyW (fun z => Value.long z) (kd := 3) (a := zad B0 Ex a) (b := zad B0 Ex b) S.1 S.2.2.2.1.1 hw hw2 (by omega) hca hcb rfl (fun _ => rfl) (fun _ _ _ => trivial) h0 h2 h3 h4 h5 hcat' hd fun H1 locs1 g1 g2 g3 g4 => ?_
      obtain ⟨hC, -, hL, hl, -, -, kk⟩ := S
      refine kk H1 locs1 lsA cells slots (hR.set (hR.lt (by omega)) rfl ?_ g2 g3 (fun i hi => ⟨rfl, rfl, if_neg hi⟩)) (fun q hq => ?_) hl rfl rfl
      · have ek : zkd (zrowj M b (va_cpy (M.2.2 a) (M.2.2 b) sp.toNatClampNeg dp.toNatClampNeg n.toNatClampNeg)) b = 3 := hkb
        show zat _ y D (zrowj M b _) b H1
        unfold zat
        rw [ek, if_neg (by omega), g1]
        congr 2
        funext j
        rw [zval_j ek]
        show _ = Value.long (va_up M.2.2 b _ b j)
        unfold va_up
        rw [if_pos rfl]
      · rcases g4 q hq with h | h
        · exact hL q h
        · show B0 ≤ q.base
          rw [h, zad_lt hb]; omega
    · cases h
  · cases h
end ZS4
