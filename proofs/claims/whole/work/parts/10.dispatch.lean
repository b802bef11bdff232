/-! every instruction that makes no call of a method of ours -/
theorem zc4 {l : List (Nat × Nat × Nat × Nat)} {a : Nat × Nat × Nat × Nat} (h : l.contains a = true) : a ∈ l := by simpa using h
theorem zc3 {l : List (Nat × Nat × Nat)} {a : Nat × Nat × Nat} (h : l.contains a = true) : a ∈ l := by simpa using h
theorem zc3i {l : List (Nat × Nat × Int)} {a : Nat × Nat × Int} (h : l.contains a = true) : a ∈ l := by simpa using h
theorem zcatm {ad : Nat → Nat} {r : List Value} (h : Nat.ble (zcats r) 8 = true) : ((r.map (zcv ad)).map fun v => v.category).sum ≤ 8 := by
  have : (r.map (zcv ad)).map (fun v => v.category) = r.map (fun v => v.category) := by
    rw [List.map_map]
    apply List.map_congr_left
    intro v _
    exact zcv_cat _ v
  rw [this]; exact Nat.le_of_ble_eq_true h
section ZS5
variable {p : Program} {l : Launch} {e : Env} {R : Room} {s : State} {m : MethodId} {args : Array Value} {below : List Frame} {meth : Method} {c : Code} {H : Heap} {locs : List Loc} {cells slots : Nat} {Q : State → Prop}
variable {B0 : Nat} {Hb : Heap} {Ex : Nat → Nat} {X : zX} {y : Nat → ClassId} {D : va_G} {mid pc : Nat} {ls : zLs} {lsA : Array Slot} {st : List Value} {M : zM} {q1 : Nat × zLs × List Value × zM}
/-- a call of the JDK's that has a row of its own -/
theorem zs_int {a1 a2 index : Nat} {ins : Instr} (S : zS p l e R s m args below meth c H locs cells slots Q B0 Hb Ex X y D mid ls lsA M q1) (h : zinv pc a1 a2 ls st M = some (.inl q1)) (hd : decode (zby mid) pc = .ok (ins, 3))
    (hi : a1 = 1 → ins = .invokespecial index ∧ zIT.contains (zoc mid, index, a1) = true) (hs : a1 = 2 ∨ a1 = 3 ∨ a1 = 4 → ins = .invokestatic index ∧ zIT.contains (zoc mid, index, a1) = true) :
    W p l e R s m args below meth c H locs cells slots Q (F0 m pc lsA (st.map (zcv (zad B0 Ex)))) := by
  obtain ⟨hx, hb, hml, hown, hts, hini, hK, hE, hfr, hlo⟩ := S.1
  have hR := S.2.1
  have hsz := S.2.2.2.1.1
  unfold zinv at h
  split at h
  · obtain ⟨-, h⟩ := zbif h (by intro q; cases q)
    cases h
  · obtain ⟨-, h⟩ := zbif h (by intro q; cases q)
    cases h
  · obtain ⟨rfl, hc⟩ := hi rfl
    have hw := zIT_in _ (zc3 hc)
    split at h
    · rename_i a r
      obtain ⟨h1, h⟩ := zbif h (by intro q; cases q)
      cases h
      have hc8 := zcatm (ad := zad B0 Ex) h1
      refine W.objInit hx hb hown (hts _ hw) (hts _ zw_oi) (hts _ zw_oc) rfl (by rw [hml]; exact hsz) rfl hd hfr ?_ (S.go S.2.2.2.1 rfl)
      show 2 * 0 + _ + 12 ≤ _
      omega
    · cases h
  · obtain ⟨rfl, hc⟩ := hs (Or.inl rfl)
    have hw := zIT_in _ (zc3 hc)
    split at h
    · rename_i y1 x1 r
      obtain ⟨h1, h⟩ := zbif h (by intro q; cases q)
      cases h
      have hc8 := zcatm (ad := zad B0 Ex) h1
      have hcs := S.2.2.2.2.1
      have hss := S.2.2.2.2.2.1
      dsimp only at hcs hss
      exact va_mmin hx hb (by rw [hml]; exact hsz.symm) hown (hts _ hw) (hts _ zw_ms) (hts _ zw_mi) (hts _ zw_mc) hfr (by omega) (by omega) (by omega) hd (S.go S.2.2.2.1 rfl)
    · cases h
  · obtain ⟨rfl, hc⟩ := hs (Or.inr (Or.inl rfl))
    have hw := zIT_in _ (zc3 hc)
    split at h
    · rename_i y1 x1 r
      obtain ⟨h1, h⟩ := zbif h (by intro q; cases q)
      cases h
      have hc8 := zcatm (ad := zad B0 Ex) h1
      have hcs := S.2.2.2.2.1
      have hss := S.2.2.2.2.2.1
      dsimp only at hcs hss
      exact va_mmax hx hb (by rw [hml]; exact hsz.symm) hown (hts _ hw) (hts _ zw_xs) (hts _ zw_mi) (hts _ zw_xc) hfr (by omega) (by omega) (by omega) hd (S.go S.2.2.2.1 rfl)
    · cases h
  · obtain ⟨rfl, hc⟩ := hs (Or.inr (Or.inr rfl))
    have hw := zIT_in _ (zc3 hc)
    exact zs_copy S h hd hw ⟨zw_cn, zw_cs, zw_ci⟩
  · cases h
end ZS5
theorem zret_not {α : Prop} {mid : Nat} {st : List Value} {q : Nat × zLs × List Value × zM} (_ : α) (h : zret mid st = some (.inl q)) : False := by
  unfold zret at h
  split at h
  · split at h
    · cases h
    · split at h <;> cases h
    · split at h <;> cases h
    · cases h
  · cases h
theorem zretl_not {α : Prop} {mid : Nat} {st : List Value} {q : Nat × zLs × List Value × zM} (_ : α) (h : zretl mid st = some (.inl q)) : False := by
  unfold zretl at h
  split at h
  · split at h <;> cases h
  · cases h
theorem zretv_not {α : Prop} {mid : Nat} {st : List Value} {q : Nat × zLs × List Value × zM} (_ : α) (h : zretv mid st = some (.inl q)) : False := by
  unfold zretv at h
  split at h
  · split at h <;> cases h
  · cases h
section ZS6
variable {p : Program} {l : Launch} {e : Env} {R : Room} {s : State} {m : MethodId} {args : Array Value} {below : List Frame} {meth : Method} {c : Code} {H : Heap} {locs : List Loc} {cells slots : Nat} {Q : State → Prop}
variable {B0 : Nat} {Hb : Heap} {Ex : Nat → Nat} {X : zX} {y : Nat → ClassId} {D : va_G} {mid pc : Nat} {ls : zLs} {lsA : Array Slot} {st : List Value} {M : zM} {q1 : Nat × zLs × List Value × zM}
theorem zs_alen (S : zS p l e R s m args below meth c H locs cells slots Q B0 Hb Ex X y D mid ls lsA M q1) (h : zalen X pc ls st M = some (.inl q1)) (hd : decode (zby mid) pc = .ok (.arraylength, 1)) :
    W p l e R s m args below meth c H locs cells slots Q (F0 m pc lsA (st.map (zcv (zad B0 Ex)))) := by
  obtain ⟨hx, hb, hml, hown, hts, hini, hK, hE, -⟩ := S.1
  have hR := S.2.1
  unfold zalen at h
  split at h
  · rename_i a r
    cases g : Nat.beq a 1000 with
    | true =>
      obtain rfl : a = 1000 := Nat.eq_of_beq_eq_true g
      have h : zN (pc + 1) ls (.int (Int32.ofNat X.1) :: r) M = some (.inl q1) := h
      cases h
      obtain ⟨⟨hlt0, scr, x1, x2, x3, x4, x5⟩, -⟩ := hE
      exact W.alen (n := Int32.ofNat X.1) hx hb (a := Ex 0) (by rw [hR.2.2.1 _ hlt0]; exact x1) x2 (by rw [x4] <;> rfl) rfl rfl hd (S.go S.2.2.2.1 rfl)
    | false =>
      have h7 : (bif Nat.beq a 1003 then zN (pc + 1) ls (.int 8 :: r) M else none) = some (.inl q1) := by
        rw [← h, g]; rfl
      obtain ⟨g2, h8⟩ := zbif h7 (by intro q; cases q)
      obtain rfl : a = 1003 := Nat.eq_of_beq_eq_true g2
      cases h8
      obtain ⟨-, -, ⟨cell, x1, x2, x3, x4, x5, x6, x7⟩, -⟩ := hE
      exact W.alen (n := 8) hx hb (a := Ex 3) (by rw [hR.2.2.1 _ (Nat.not_le.mp x7)]; exact x1) x2 x5 rfl rfl hd (S.go S.2.2.2.1 rfl)
  · cases h
set_option maxHeartbeats 4000000 in
theorem zs_step (S : zS p l e R s m args below meth c H locs cells slots Q B0 Hb Ex X y D mid ls lsA M q1) (h : zstep X mid pc ls st M = some (.inl q1)) :
    W p l e R s m args below meth c H locs cells slots Q (F0 m pc lsA (st.map (zcv (zad B0 Ex)))) := by
  obtain ⟨hx, hb, hml, hown, hts, hini, hK, hE, hfr, hlo⟩ := S.1
  unfold zstep at h
  split at h
  · rename_i en hz
    obtain ⟨hm, hd, hn, ha⟩ := zk_ok hz
    obtain ⟨ins, n, a1, a2, ai⟩ := en
    dsimp only at hd hn ha
    have S := S.mask (k := zmk mid pc)
    generalize zmsk (zmk mid pc) ls = ls at S h
    unfold zins at h
    cases ins
    case aload_n k => obtain rfl : n = 1 := eq_of_beq hn; exact zs_loadr S h fun x hg kk => lv_aload_n hx hb hd rfl hg kk
    case aload k => obtain rfl : n = 2 := eq_of_beq hn; exact zs_loadr S h fun x hg kk => lv_aload hx hb hd hg kk
    case iload_n k => obtain rfl : n = 1 := eq_of_beq hn; exact zs_load1 S h fun x hg kk => lv_iload_n hx hb hd rfl hg kk
    case iload k => obtain rfl : n = 2 := eq_of_beq hn; exact zs_load1 S h fun x hg kk => lv_iload hx hb hd hg kk
    case lload_n k => obtain rfl : n = 1 := eq_of_beq hn; exact zs_load2 S h fun x hg kk => lv_lload_n hx hb hd rfl hg kk
    case lload k => obtain rfl : n = 2 := eq_of_beq hn; exact zs_load2 S h fun x hg kk => lv_lload hx hb hd hg kk
    case istore_n k => obtain rfl : n = 1 := eq_of_beq hn; exact zs_sti S h fun x r hi kk => lv_istore_n hx hb hd rfl S.2.2.2.1.has hi rfl kk
    case istore k => obtain rfl : n = 2 := eq_of_beq hn; exact zs_sti S h fun x r hi kk => lv_istore hx hb hd S.2.2.2.1.has hi rfl kk
    case astore_n k => obtain rfl : n = 1 := eq_of_beq hn; exact zs_sta S h fun x r hi kk => lv_astore_n hx hb hd rfl S.2.2.2.1.has hi rfl kk
    case astore k => obtain rfl : n = 2 := eq_of_beq hn; exact zs_sta S h fun x r hi kk => lv_astore hx hb hd S.2.2.2.1.has hi rfl kk
    case lstore_n k => obtain rfl : n = 1 := eq_of_beq hn; exact zs_stl S h fun x r hi kk => lv_lstore_n hx hb hd rfl S.2.2.2.1.has hi rfl kk
    case lstore k => obtain rfl : n = 2 := eq_of_beq hn; exact zs_stl S h fun x r hi kk => lv_lstore hx hb hd S.2.2.2.1.has hi rfl kk
    case iconst k => obtain rfl : n = 1 := eq_of_beq hn; (cases h; exact lv_iconst hx hb hd rfl (S.go S.2.2.2.1 rfl))
    case bipush k => obtain rfl : n = 2 := eq_of_beq hn; (cases h; exact lv_bipush hx hb hd rfl (S.go S.2.2.2.1 rfl))
    case sipush k => obtain rfl : n = 3 := eq_of_beq hn; (cases h; exact lv_sipush hx hb hd rfl (S.go S.2.2.2.1 rfl))
    case lconst k => obtain rfl : n = 1 := eq_of_beq hn; (cases h; exact lv_lconst hx hb hd rfl (S.go S.2.2.2.1 rfl))
    case ldc k =>
      obtain rfl : n = 2 := eq_of_beq hn
      cases g : Nat.beq a1 5 with
      | true =>
        have g1 : a1 = 5 := Nat.eq_of_beq_eq_true g
        subst g1
        have h : zN (pc + 2) ls (.ref 1001 :: st) M = some (.inl q1) := h
        cases h
        have ha : (zoc mid == 2 && k == 72) = true := ha
        obtain ⟨o1, o2⟩ := zband ha
        have o1 : zoc mid = 2 := eq_of_beq o1
        have o2 : k = 72 := eq_of_beq o2
        subst o2
        rw [o1] at hown
        obtain ⟨-, -, -, -, -, -, hR2, -⟩ := hE
        exact va_ldcS hx hb hown hR2 hd (S.go S.2.2.2.1 rfl)
      | false =>
        have g2 : (a1 == 5) = false := by rw [beq_eq_false_iff_ne]; exact Nat.ne_of_beq_eq_false g
        have h : zN (pc + 2) ls (.int (Int32.ofInt ai) :: st) M = some (.inl q1) := by
          rw [← h]
          show _ = (bif Nat.beq a1 5 then _ else _)
          rw [g]; rfl
        cases h
        have ha : zKT.contains (zoc mid, k, ai) = true := by
          unfold zaux at ha
          dsimp only at ha
          rw [g2] at ha
          exact ha
        exact lv_ldc hx hb hown (hts _ (zKT_in _ (zc3i ha))) hd (S.go S.2.2.2.1 rfl)
    case ldc_w k => obtain rfl : n = 3 := eq_of_beq hn; (cases h; exact lv_ldcw hx hb hown (hts _ (zKT_in _ (zc3i ha))) hd (S.go S.2.2.2.1 rfl))
    case ldc2_w k => obtain rfl : n = 3 := eq_of_beq hn; (cases h; exact lv_ldc2 hx hb hown (hts _ (zLT_in _ (zc3i ha))) hd (S.go S.2.2.2.1 rfl))
    case iinc k v => obtain rfl : n = 3 := eq_of_beq hn; exact zs_iinc S h hd
    case getfield k =>
      obtain rfl : n = 3 := eq_of_beq hn
      refine zs_get S h hd (fun q => ?_) (fun q => ?_) ⟨zw_val, zw_cod⟩
      · have g : (a1 == 90) = false := by simpa using q
        unfold zaux at ha
        dsimp only at ha
        rw [g] at ha
        obtain ⟨g1, g2⟩ := zband ha
        exact ⟨Nat.blt_eq.mp g1, zFT_in _ (zc4 g2)⟩
      · subst q
        have ha : (zoc mid == 10 && ((a2 == 0 && k == 9) || (!(a2 == 0) && k == 15))) = true := ha
        simpa using ha
    case putfield k =>
      obtain rfl : n = 3 := eq_of_beq hn
      obtain ⟨g1, g2⟩ := zband ha
      have g1 := Nat.blt_eq.mp g1
      exact zs_put (ci := a1) (by omega) S h hd (zFT_in _ (zc4 g2))
    case getstatic k =>
      obtain rfl : n = 3 := eq_of_beq hn
      have ha : ((a2 == 0 && zoc mid == 0 && k == 35) || (!(a2 == 0) && zoc mid == 10 && k == 38)) = true := ha
      exact zs_gets S h hd (by simpa [and_assoc] using ha) ⟨zw_abv, zw_cmp⟩
    case iaload => obtain rfl : n = 1 := eq_of_beq hn; exact zs_ald (kd := 0) (by omega) S h fun a cell i v r h1 h2 h3 h4 h5 kk => W.iald hx hb h1 h2 h3 h4 h5 rfl rfl hd kk
    case baload => obtain rfl : n = 1 := eq_of_beq hn; exact zs_ald (kd := 1) (by omega) S h fun a cell i v r h1 h2 h3 h4 h5 kk => W.bald hx hb h1 h2 h3 h4 h5 rfl rfl hd kk
    case saload => obtain rfl : n = 1 := eq_of_beq hn; exact zs_ald (kd := 2) (by omega) S h fun a cell i v r h1 h2 h3 h4 h5 kk => W.sald hx hb h1 h2 h3 h4 h5 rfl rfl hd kk
    case iastore => obtain rfl : n = 1 := eq_of_beq hn; exact zs_ast (kd := 0) (by omega) S h fun a cell i x r h1 h2 h3 h4 kk => W.iast hx hb h1 h2 h3 h4 rfl rfl hd kk
    case bastore => obtain rfl : n = 1 := eq_of_beq hn; exact zs_ast (kd := 1) (by omega) S h fun a cell i x r h1 h2 h3 h4 kk => W.bast hx hb h1 h2 h3 h4 rfl rfl hd kk
    case sastore => obtain rfl : n = 1 := eq_of_beq hn; exact zs_ast (kd := 2) (by omega) S h fun a cell i x r h1 h2 h3 h4 kk => W.sast hx hb h1 h2 h3 h4 rfl rfl hd kk
    case laload => obtain rfl : n = 1 := eq_of_beq hn; exact zs_lald S h hd
    case lastore => obtain rfl : n = 1 := eq_of_beq hn; exact zs_last S h hd
    case aaload => obtain rfl : n = 1 := eq_of_beq hn; exact zs_aald S h hd
    case aastore => obtain rfl : n = 1 := eq_of_beq hn; exact zs_aast S h hd
    case arraylength => obtain rfl : n = 1 := eq_of_beq hn; exact zs_alen S h hd
    case newarray t => obtain rfl : n = 2 := eq_of_beq hn; exact zs_newa S h hd ⟨zw_aI, zw_aB, zw_aS, zw_aJ⟩
    case new k =>
      obtain rfl : n = 3 := eq_of_beq hn
      obtain ⟨g1, g2⟩ := zband ha
      have g1 := Nat.blt_eq.mp g1
      exact zs_new (ci := a1) (by omega) S h hd (zNT_in _ (zc3 g2)) (zwn a1 g1).1 (zwn a1 g1).2
    case anewarray k =>
      obtain rfl : n = 3 := eq_of_beq hn
      obtain ⟨g1, g2⟩ := zband ha
      have g1 : zoc mid = 7 := eq_of_beq g1
      obtain rfl : k = 49 := eq_of_beq g2
      exact zs_newq S h hd g1 zw_qS
    case multianewarray k d =>
      obtain rfl : n = 4 := eq_of_beq hn
      obtain ⟨j1, j3⟩ := zband ha
      obtain ⟨j4, j2⟩ := zband j1
      have j5 : zoc mid = 2 := eq_of_beq j4
      have j6 : k = 15 := eq_of_beq j2
      have j7 : d = 2 := eq_of_beq j3
      subst j6
      subst j7
      exact zs_newm S h hd j5
    case invokevirtual k =>
      obtain rfl : n = 3 := eq_of_beq hn
      refine zs_int S h hd (index := k) (fun q => ?_) (fun q => ?_)
      · subst q; exact Bool.noConfusion (show false = true from ha)
      · rcases q with rfl | rfl | rfl <;> exact Bool.noConfusion (show false = true from ha)
    case invokestatic k =>
      obtain rfl : n = 3 := eq_of_beq hn
      refine zs_int S h hd (index := k) (fun q => ?_) (fun q => ?_)
      · subst q; exact Bool.noConfusion (show false = true from ha)
      · rcases q with rfl | rfl | rfl <;> exact ⟨rfl, by
          have ha : ((false || zIT.contains (zoc mid, k, _)) || false) = true := ha
          rw [Bool.or_false, Bool.false_or] at ha
          exact ha⟩
    case invokespecial k =>
      obtain rfl : n = 3 := eq_of_beq hn
      refine zs_int S h hd (index := k) (fun q => ?_) (fun q => ?_)
      · subst q
        have ha : ((false || zIT.contains (zoc mid, k, 1)) || false) = true := ha
        rw [Bool.or_false, Bool.false_or] at ha
        exact ⟨rfl, ha⟩
      · rcases q with rfl | rfl | rfl <;> exact Bool.noConfusion (show false = true from ha)
    case goto k => obtain rfl : n = 3 := eq_of_beq hn; exact zs_jump S h fun tgt ht kk => lv_goto hx hb hd ht kk
    case ifCond k v => obtain rfl : n = 3 := eq_of_beq hn; exact zs_if S h hd
    case if_icmp k v => obtain rfl : n = 3 := eq_of_beq hn; exact zs_icmp S h hd
    case tableswitch d lo hi os => exact zs_tab S h hd (of_decide_eq_true ha)
    case lookupswitch d ps => exact zs_look S h hd ha
    case iadd => obtain rfl : n = 1 := eq_of_beq hn; exact zs_op2 S h fun x z r kk => lv_iadd hx hb hd kk
    case isub => obtain rfl : n = 1 := eq_of_beq hn; exact zs_op2 S h fun x z r kk => lv_isub hx hb hd kk
    case imul => obtain rfl : n = 1 := eq_of_beq hn; exact zs_op2 S h fun x z r kk => lv_imul hx hb hd kk
    case iand => obtain rfl : n = 1 := eq_of_beq hn; exact zs_op2 S h fun x z r kk => lv_iand hx hb hd kk
    case ixor => obtain rfl : n = 1 := eq_of_beq hn; exact zs_op2 S h fun x z r kk => lv_ixor hx hb hd kk
    case ishr => obtain rfl : n = 1 := eq_of_beq hn; exact zs_op2 S h fun x z r kk => lv_ishr hx hb hd kk
    case iushr => obtain rfl : n = 1 := eq_of_beq hn; exact zs_op2 S h fun x z r kk => lv_iushr hx hb hd rfl kk
    case idiv => obtain rfl : n = 1 := eq_of_beq hn; exact zs_div S h fun x z r hz kk => lv_idiv hx hb hd hz kk
    case irem => obtain rfl : n = 1 := eq_of_beq hn; exact zs_div S h fun x z r hz kk => lv_irem hx hb hd hz kk
    case ineg => obtain rfl : n = 1 := eq_of_beq hn; exact zs_op1 S h fun x r kk => lv_ineg hx hb hd kk
    case i2b => obtain rfl : n = 1 := eq_of_beq hn; exact zs_op1 S h fun x r kk => lv_i2b hx hb hd rfl kk
    case i2s => obtain rfl : n = 1 := eq_of_beq hn; exact zs_op1 S h fun x r kk => lv_i2s hx hb hd rfl kk
    case i2c => obtain rfl : n = 1 := eq_of_beq hn; exact zs_op1 S h fun x r kk => lv_i2c hx hb hd rfl kk
    case ladd => obtain rfl : n = 1 := eq_of_beq hn; exact zs_lop2 S h fun x z r kk => lv_ladd hx hb hd kk
    case lmul => obtain rfl : n = 1 := eq_of_beq hn; exact zs_lop2 S h fun x z r kk => lv_lmul hx hb hd kk
    case land => obtain rfl : n = 1 := eq_of_beq hn; exact zs_lop2 S h fun x z r kk => lv_land hx hb hd kk
    case lor => obtain rfl : n = 1 := eq_of_beq hn; exact zs_lop2 S h fun x z r kk => lv_lor hx hb hd kk
    case i2l =>
      obtain rfl : n = 1 := eq_of_beq hn
      have h : zil pc ls st M = some (.inl q1) := h
      unfold zil at h
      split at h <;> cases h <;> exact lv_i2l hx hb hd rfl (S.go S.2.2.2.1 rfl)
    case l2i =>
      obtain rfl : n = 1 := eq_of_beq hn
      have h : zli pc ls st M = some (.inl q1) := h
      unfold zli at h
      split at h <;> cases h <;> exact lv_l2i hx hb hd rfl (S.go S.2.2.2.1 rfl)
    case lshl =>
      obtain rfl : n = 1 := eq_of_beq hn
      have h : zlshl pc ls st M = some (.inl q1) := h
      unfold zlshl at h
      split at h <;> cases h <;> exact lv_lshl hx hb hd rfl (S.go S.2.2.2.1 rfl)
    case lcmp =>
      obtain rfl : n = 1 := eq_of_beq hn
      have h : zlcmp pc ls st M = some (.inl q1) := h
      unfold zlcmp at h
      split at h <;> cases h <;> exact W.lcmp hx hb hd (S.go S.2.2.2.1 rfl)
    case pop =>
      obtain rfl : n = 1 := eq_of_beq hn
      have h : zpop pc ls st M = some (.inl q1) := h
      unfold zpop at h
      split at h <;> cases h <;> exact lv_pop hx hb hd rfl (S.go S.2.2.2.1 rfl)
    case dup =>
      obtain rfl : n = 1 := eq_of_beq hn
      have h : zdup pc ls st M = some (.inl q1) := h
      unfold zdup at h
      split at h <;> cases h <;> exact lv_dup hx hb hd rfl (S.go S.2.2.2.1 rfl)
    case dup2 =>
      obtain rfl : n = 1 := eq_of_beq hn
      have h : zdup2 pc ls st M = some (.inl q1) := h
      unfold zdup2 at h
      split at h <;> cases h <;> exact lv_dup2_11 hx hb hd rfl rfl (S.go S.2.2.2.1 rfl)
    case ireturn => exact (zret_not S h).elim
    case lreturn => exact (zretl_not S h).elim
    case return_ => exact (zretv_not S h).elim
    all_goals (cases h)
  · cases h
end ZS6
