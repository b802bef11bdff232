/-! CALLS: a run of the abstract machine is a contract of the method -/
theorem zExt.warm {B0 : Nat} {Hb : Heap} {Ex : Nat → Nat} {X : zX} {s U : State} (hW : s.WarmedH U.vm) (h : zExt B0 Hb Ex X s) : zExt B0 Hb Ex X U := by
  obtain ⟨⟨h1, h2⟩, h3, h4, ⟨h5, h6, h7⟩, h8, h9, h10, h11, h12, h13⟩ := h
  exact ⟨⟨h1, h2.moved hW.alike⟩, h3.moved hW.alike, h4.moved hW.alike, ⟨h5.moved hW.alike, h6.moved hW.alike, h7.moved hW.alike⟩, h8.moved hW.alike, h9.moved hW.alike, h10.warm hW, fun e he => (h11 e he).warmM hW, h12.moved hW.alike, h13.moved hW.alike⟩
theorem zExt.same {B0 : Nat} {Hb : Heap} {Ex : Nat → Nat} {X : zX} {s U : State} (hv : U.vm = s.vm) (h : zExt B0 Hb Ex X s) : zExt B0 Hb Ex X U := by
  obtain ⟨⟨h1, h2⟩, h3, h4, ⟨h5, h6, h7⟩, h8, h9, h10, h11, h12, h13⟩ := h
  have ha : s.vm.Alike U.vm := by rw [hv]; exact Vm.Alike.refl _
  exact ⟨⟨h1, h2.moved ha⟩, h3.moved ha, h4.moved ha, ⟨h5.moved ha, h6.moved ha, h7.moved ha⟩, h8.moved ha, h9.moved ha, h10.same hv, fun e he => (h11 e he).same rfl hv.symm, h12.moved ha, h13.moved ha⟩
def zPc (B0 : Nat) (Hb : Heap) (Ex : Nat → Nat) (X : zX) (y : Nat → ClassId) (D : va_G) (M : zM) (vs : List Value) : Array Value → State → Prop := fun a U =>
  a = (vs.map (zcv (zad B0 Ex))).toArray ∧ zRep B0 Hb Ex y D M U.heap ∧ va_K D vwCl (zys y) U ∧ zExt B0 Hb Ex X U
def zQc (B0 : Nat) (Hb : Heap) (Ex : Nat → Nat) (y : Nat → ClassId) (D : va_G) (M : zM) (r : Option Value) : Array Value → State → Outcome → State → Prop := fun _ _ oc t =>
  oc = .returned (r.map (zcv (zad B0 Ex))) ∧ zRep B0 Hb Ex y D M t.heap
theorem zPc.blind {B0 : Nat} {Hb : Heap} {Ex : Nat → Nat} {X : zX} {y : Nat → ClassId} {D : va_G} {M : zM} {vs : List Value} : FrameBlind (zPc B0 Hb Ex X y D M vs) := by
  intro a U g mk ⟨h1, h2, h3, h4⟩
  exact ⟨h1, h2, va_K.moved (u := U) (U := U.calling g mk a) (Vm.Alike.refl U.vm) h3, zExt.same (s := U) (U := U.calling g mk a) rfl h4⟩
def zrm (d : Nat) (M M' : zM) : Room := { frames := d + 1, cells := M'.1.length - M.1.length, slots := zsl M' - zsl M, locals := 40 * d + 100 }
def zws (y : Nat) : List Cond := Cond.code (zmn y) (zby y) (zml y) (zrt y) :: zTs
theorem zws_in {y : Nat} (h0 : 0 < y) (hy : y < 226) : ∀ w ∈ zws y, w ∈ zTs := by
  intro w hw
  rcases List.mem_cons.mp hw with rfl | h
  · exact (zme y hy h0).1
  · exact h
theorem zgood_of {L : List Cond} (h : ∀ w ∈ L, w ∈ zTs) : GoodIn zTs L := fun w hw => zgr_self w (h w hw)
theorem zla_get {ad : Nat → Nat} {n : Nat} : ∀ (vs : List Value) (k i : Nat) (v : Value), zget (zla vs ++ List.replicate n none) i = some v → (k + i, zcv ad v) ∈ lv_args k (vs.map (zcv ad))
  | [], k, i, v, h => by
    exfalso
    unfold zla at h
    rw [List.nil_append] at h
    unfold zget at h
    cases hg : (List.replicate n (none : Option Value))[i]? with
    | none => rw [hg] at h; cases h
    | some o =>
      have := List.mem_of_getElem? hg
      rw [List.eq_of_mem_replicate this] at hg
      rw [hg] at h
      cases h
  | u :: r, k, i, v, h => by
    unfold zla at h
    show _ ∈ (k, zcv ad u) :: lv_args (if (zcv ad u).category = 2 then k + 2 else k + 1) (r.map (zcv ad))
    rw [zcv_cat]
    split at h
    · rename_i hc
      rw [if_pos hc]
      cases i with
      | zero => cases h; exact List.mem_cons_self
      | succ i =>
        cases i with
        | zero => cases h
        | succ i =>
          have h2 : zget (zla r ++ List.replicate n none) i = some v := h
          have := zla_get (ad := ad) r (k + 2) i v h2
          rw [show k + (i + 1 + 1) = k + 2 + i by omega]
          exact List.mem_cons_of_mem _ this
    · rename_i hc
      rw [if_neg hc]
      cases i with
      | zero => cases h; exact List.mem_cons_self
      | succ i =>
        have h2 : zget (zla r ++ List.replicate n none) i = some v := h
        have := zla_get (ad := ad) r (k + 1) i v h2
        rw [show k + (i + 1) = k + 1 + i by omega]
        exact List.mem_cons_of_mem _ this
theorem zla_len {ad : Nat → Nat} : ∀ vs : List Value, (lg_sl (vs.map (zcv ad))).length = (zla vs).length
  | [] => rfl
  | v :: r => by
    have ih := zla_len (ad := ad) r
    unfold zla
    rw [List.map_cons]
    unfold lg_sl at ih ⊢
    rw [List.flatMap_cons, List.length_append, ih, zcv_cat]
    split
    · simp; omega
    · simp; omega
section ZCALL
variable {p : Program} {l : Launch} {e : Env} {R : Room} {s : State} {m : MethodId} {args : Array Value} {below : List Frame} {meth : Method} {c : Code} {H : Heap} {locs : List Loc} {cells slots : Nat} {Q : State → Prop}
variable {B0 : Nat} {Hb : Heap} {Ex : Nat → Nat} {X : zX} {y : Nat → ClassId} {D : va_G} {mid pc : Nat} {ls : zLs} {lsA : Array Slot} {st : List Value} {M : zM}
/-- from the run of a call to what follows it -/
theorem zs_run {mc ms : Nat} {rest : List Value} {M2 : zM} {r : Option Value} {a : Array Value} {st0 : List Value} (hr : va_Run p l e R s m args below meth c H locs cells slots mc ms (F0 m pc lsA st0) (rest.map (zcv (zad B0 Ex))) (zQc B0 Hb Ex y D M2 r a) (zA B0)) (hL : ∀ q ∈ locs, zA B0 q.base)
    (kk : ∀ (H1 : Heap) (locs1 : List Loc), zRep B0 Hb Ex y D M2 H1 → (∀ q ∈ locs1, zA B0 q.base) → W p l e R s m args below meth c H1 locs1 (cells + mc) (slots + ms) Q (F0 m (pc + 3) lsA ((r.toList ++ rest).map (zcv (zad B0 Ex))))) :
    W p l e R s m args below meth c H locs cells slots Q (F0 m pc lsA st0) := by
  intro T hT XX
  obtain ⟨v, st₀, t, T', L, h0, X', hL', e1, e2, ⟨hq1, hq2⟩, stp⟩ := hr T hT XX
  have hv : v = r.map (zcv (zad B0 Ex)) := by cases hq1; rfl
  subst hv
  rw [← e1] at hq2
  obtain ⟨t2, a1, b1⟩ := kk T'.heap (locs ++ L) hq2 (fun q hq => by
    rcases List.mem_append.mp hq with h | h
    · exact hL q h
    · exact hL' q h) T' rfl X'
  refine ⟨t2, stp t2 ?_, b1⟩
  have eg : ({ F0 m pc lsA st0 with pc := pc + 3, stack := (r.map (zcv (zad B0 Ex))).toList ++ rest.map (zcv (zad B0 Ex)) } : JFrame) = F0 m (pc + 3) lsA ((r.toList ++ rest).map (zcv (zad B0 Ex))) := by
    cases r <;> rfl
  exact eg ▸ a1
theorem zs_call {ins : Instr} {n a1 a2 : Nat} {ai : Int} {d mc ms : Nat} {M2 : zM} {r : Option Value} (C : zCtx B0 Hb Ex X y D mid p R s m args meth c) (hR : zRep B0 Hb Ex y D M H) (hL : ∀ q ∈ locs, zA B0 q.base) (hl : zL (zad B0 Ex) (zml mid) ls lsA)
    (hz : zcode mid pc = some (ins, n, a1, a2, ai)) (hk : ∃ k, ins = .invokevirtual k ∨ ins = .invokestatic k ∨ ins = .invokespecial k) (ha16 : a1 = 0 ∨ a1 = 6) (hlen : zna a2 ≤ st.length) (hcat : zcats (st.drop (zna a2)) ≤ 8) (hrcv : zrcv M a2 (st.take (zna a2)).reverse = true)
    (h0 : 0 < a2 ∧ a2 < 226 → Met l (zmn a2) (zws a2) (zrm d M M2) (zPc B0 Hb Ex X y D M (st.take (zna a2)).reverse) (zQc B0 Hb Ex y D M2 r) mc ms (zA B0)) (hmc : (zrm d M M2).cells = mc ∧ (zrm d M M2).slots = ms) (hfr : d + 2 ≤ R.frames) (hlo : 40 * d + 140 ≤ R.locals) (hcs : cells + mc ≤ R.cells ∧ slots + ms ≤ R.slots)
    (kk : ∀ (H1 : Heap) (locs1 : List Loc), zRep B0 Hb Ex y D M2 H1 → (∀ q ∈ locs1, zA B0 q.base) → W p l e R s m args below meth c H1 locs1 (cells + mc) (slots + ms) Q (F0 m (pc + 3) lsA ((r.toList ++ st.drop (zna a2)).map (zcv (zad B0 Ex))))) :
    W p l e R s m args below meth c H locs cells slots Q (F0 m pc lsA (st.map (zcv (zad B0 Ex)))) := by
  obtain ⟨hx, hb, hml, hown, hts, hini, hK, hE, -⟩ := C
  obtain ⟨hm, hd, hn, ha⟩ := zk_ok hz
  dsimp only at hd hn ha
  have S0 : CallFix p m c (zby mid) (zml mid) s args zTs (zcn (zoc mid)) := ⟨hx, hb, hml, hown, hts⟩
  have ev : st.map (zcv (zad B0 Ex)) = ((st.take (zna a2)).reverse.map (zcv (zad B0 Ex))).reverse ++ (st.drop (zna a2)).map (zcv (zad B0 Ex)) := by
    rw [List.map_reverse, List.reverse_reverse, ← List.map_append, List.take_append_drop]
  have hvl : (st.take (zna a2)).reverse.length = zna a2 := by rw [List.length_reverse, List.length_take]; omega
  have hcat' : (((st.drop (zna a2)).map (zcv (zad B0 Ex))).map fun v => v.category).sum ≤ 8 := zcatm (Nat.ble_eq.mpr hcat)
  generalize (st.drop (zna a2)) = rest at *
  generalize (st.take (zna a2)).reverse = vs at *
  have hP : ∀ U : State, U.heap = H → s.WarmedH U.vm → zPc B0 Hb Ex X y D M vs (vs.map (zcv (zad B0 Ex))).toArray U := fun U hU hW => ⟨rfl, by rw [hU]; exact hR, va_K.moved hW.alike hK, hE.warm hW⟩
  have hroom : (zrm d M M2).frames + 1 ≤ R.frames ∧ (zml a2 ≤ 20 → 8 + (zml a2 + 11) + (zrm d M M2).locals ≤ R.locals) := ⟨by show d + 1 + 1 ≤ _; omega, fun h => by show 8 + (zml a2 + 11) + (40 * d + 100) ≤ _; omega⟩
  have facts : 0 < a2 ∧ a2 < 226 → zMeth a2 ∧ plainName (zmn a2).cls = true ∧ (zmn a2).cls = zcn (zoc a2) ∧ ((zmn a2).cls ≠ "java/lang/invoke/MethodHandle" ∧ (zmn a2).cls ≠ "java/lang/invoke/VarHandle") ∧ (parseMethodDescriptor (zmn a2).desc).map (fun d => d.parameters.length) = some (zna a2 - (if zkn a2 = 1 then 0 else 1)) ∧ ((zmn a2).name = "<init>" ↔ zkn a2 = 2) ∧ (zkn a2 = 2 → zrt a2 = none) ∧ (zkn a2 ≠ 1 → 1 ≤ zna a2) ∧ zml a2 ≤ 20 := by
    intro hy
    have h1 := zmd a2 hy.2 hy.1
    unfold zMd at h1
    obtain ⟨h1, -⟩ := zband h1
    obtain ⟨h1, -⟩ := zband h1
    obtain ⟨h1, g9⟩ := zband h1
    obtain ⟨h1, g8⟩ := zband h1
    obtain ⟨h1, g7⟩ := zband h1
    obtain ⟨h1, g6⟩ := zband h1
    obtain ⟨h1, g5⟩ := zband h1
    obtain ⟨h1, g4⟩ := zband h1
    obtain ⟨g2, g3⟩ := zband h1
    exact ⟨zme a2 hy.2 hy.1, g2, of_decide_eq_true g3, of_decide_eq_true g4, of_decide_eq_true g5, of_decide_eq_true g6, of_decide_eq_true g7, of_decide_eq_true g8, of_decide_eq_true g9⟩
  rw [ev]
  obtain ⟨k, hk | hk | hk⟩ := hk
  · subst hk
    obtain rfl : n = 3 := eq_of_beq hn
    rcases ha16 with rfl | rfl
    · have ha : ((((true && zMT.contains (zoc mid, k, a2)) && zkn a2 == 0) && Nat.blt 0 a2) && Nat.blt a2 226 || false) = true := ha
      rw [Bool.or_false, Bool.true_and] at ha
      obtain ⟨ha, b1⟩ := zband ha
      obtain ⟨ha, b2⟩ := zband ha
      obtain ⟨b4, b3⟩ := zband ha
      have hy : 0 < a2 ∧ a2 < 226 := ⟨Nat.blt_eq.mp b2, Nat.blt_eq.mp b1⟩
      have b3 : zkn a2 = 0 := eq_of_beq b3
      have hlink := zMT_in _ (zc3 b4)
      obtain ⟨⟨f1, f2, f3⟩, f4, f5, f6, f7, f8, f9, f10, f11⟩ := facts hy
      rw [b3] at f3 f7
      have f3 : Cond.instanceMethod (zmn a2) ∈ zTs ∧ Cond.selects (zmn a2).cls (zmn a2) (zmn a2) ∈ zTs := f3
      have hna : 1 ≤ zna a2 := f10 (by omega)
      unfold zrcv at hrcv
      rw [b3] at hrcv
      cases vs with
      | nil => cases hrcv
      | cons u As =>
        cases u with
        | ref b0 =>
          have hrcv : (bif Nat.blt b0 1000 then Nat.beq (zkd M b0) (10 + zoc a2) else Nat.beq b0 1001 && Nat.beq (zoc a2) 10) = true := hrcv
          have hcell : ∃ cellB : Cell, H[zad B0 Ex b0]? = some cellB ∧ cellB.vm.isStatics = false ∧ s.vm.findClass (zmn a2).cls = some cellB.cls := by
            rw [f5]
            cases g : Nat.blt b0 1000 with
            | true =>
              rw [g] at hrcv
              have hkd : zkd M b0 = 10 + zoc a2 := Nat.eq_of_beq_eq_true hrcv
              have hc9 : zoc a2 < 9 := hR.cls hkd (by
                have : zoc a2 < 80 := (by decide +kernel : ∀ m, m < 226 → zoc m < 80) a2 hy.2
                exact this)
              obtain ⟨cell, t1, t2, t3, -⟩ := hR.obj hkd hc9
              exact ⟨cell, t1, by rw [t3]; rfl, by rw [t2]; exact (hK.1 _ _ (z_cl _ hc9)).2.1⟩
            | false =>
              rw [g] at hrcv
              obtain ⟨q1, q2⟩ := zband hrcv
              have q1 : b0 = 1001 := Nat.eq_of_beq_eq_true q1
              have q2 : zoc a2 = 10 := Nat.eq_of_beq_eq_true q2
              subst q1
              rw [q2]
              obtain ⟨-, -, -, ⟨⟨cell, t1, t2, t3, t4⟩, -, -⟩, -⟩ := hE
              exact ⟨cell, by rw [show zad B0 Ex 1001 = Ex 1 from rfl, hR.2.2.1 _ (Nat.not_le.mp t4)]; exact t1, t2, t3⟩
          have hcw : CallW R s args (zcn (zoc mid)) (zmn a2).cls k (zmn a2) (zby a2) (zml a2) (zrt a2) (zws a2) (zrm d M M2) mc ms (zna a2 - 1) := by
            refine cwV (zna a2 - 1) hts (zgood_of (fun w hw => ?_)) rfl hmc.1 hmc.2 ⟨rfl, f6.1, f6.2, f7⟩ ⟨hroom.1, hroom.2 f11⟩
            unfold wsV at hw
            rcases List.mem_append.mp hw with h | h
            · simp only [List.mem_cons, List.not_mem_nil, or_false] at h
              rcases h with rfl | rfl | rfl | rfl
              · exact hlink
              · exact f3.1
              · exact f3.2
              · exact f2
            · exact zws_in hy.1 hy.2 w h
          have hAl : As.length = zna a2 - 1 := by
            have : (Value.ref b0 :: As).length = zna a2 := hvl
            rw [List.length_cons] at this; omega
          refine zs_run (M2 := M2) (r := r) (rest := rest) (va_runV (As := As.map (zcv (zad B0 Ex))) (b := zad B0 Ex b0) S0 (h0 hy) hcw ⟨zPc.blind, hcell, fun U hU hW => hP U hU hW⟩ rfl (by rw [List.length_map]; exact hAl) hl.1 ?_ (lv_room hcat') hd hcs) hL kk
          show (List.map (zcv (zad B0 Ex)) (Value.ref b0 :: As)).reverse ++ rest.map _ = _
          rw [List.map_cons, List.reverse_cons, List.append_assoc]
          rfl
        | _ => cases hrcv
    · exact Bool.noConfusion (show false = true from ha)
  · subst hk
    obtain rfl : n = 3 := eq_of_beq hn
    rcases ha16 with rfl | rfl
    · have ha : (((((true && zMT.contains (zoc mid, k, a2)) && zkn a2 == 1) && Nat.blt 0 a2) && Nat.blt a2 226 || false) || false) = true := ha
      rw [Bool.or_false, Bool.or_false, Bool.true_and] at ha
      obtain ⟨ha, b1⟩ := zband ha
      obtain ⟨ha, b2⟩ := zband ha
      obtain ⟨b4, b3⟩ := zband ha
      have hy : 0 < a2 ∧ a2 < 226 := ⟨Nat.blt_eq.mp b2, Nat.blt_eq.mp b1⟩
      have b3 : zkn a2 = 1 := eq_of_beq b3
      have hlink := zMT_in _ (zc3 b4)
      obtain ⟨⟨f1, f2, f3⟩, f4, f5, f6, f7, f8, f9, f10, f11⟩ := facts hy
      rw [b3] at f3 f7
      have f3 : Cond.static (zmn a2) ∈ zTs := f3
      have hcb : CallB R s args (zcn (zoc mid)) k (zmn a2) (zby a2) (zml a2) (zrt a2) (zws a2) (zrm d M M2) mc ms (zna a2) :=
        callB_of (zna a2) hts (zgood_of (zws_in hy.1 hy.2)) rfl hmc.1 hmc.2 (hts _ f2) (hts _ hlink) ⟨f6.1, f6.2, by rw [f7]; rfl⟩ ⟨hroom.1, hroom.2 f11⟩
      exact zs_run (M2 := M2) (r := r) (rest := rest) (va_runS (As := vs.map (zcv (zad B0 Ex))) S0 (h0 hy) ⟨hcb, hts _ f3⟩ ⟨zPc.blind, fun U hU hW => hP U hU hW⟩ rfl (by rw [List.length_map]; exact hvl) hl.1 rfl (lv_room hcat') hd hcs) hL kk
    · exact Bool.noConfusion (show false = true from ha)
  · subst hk
    obtain rfl : n = 3 := eq_of_beq hn
    have hvs : zkn a2 = 2 → ∃ b0 As, vs = .ref b0 :: As := by
      intro h2
      unfold zrcv at hrcv
      rw [h2] at hrcv
      cases vs with
      | nil => cases hrcv
      | cons u As =>
        cases u with
        | ref b0 => exact ⟨b0, As, rfl⟩
        | _ => cases hrcv
    rcases ha16 with rfl | rfl
    · have ha : (((((((true && zMT.contains (zoc mid, k, a2)) && zkn a2 == 2) && Nat.blt 0 a2) && Nat.blt a2 226) || false) || false)) = true := ha
      rw [Bool.or_false, Bool.or_false, Bool.true_and] at ha
      obtain ⟨ha, b1⟩ := zband ha
      obtain ⟨ha, b2⟩ := zband ha
      obtain ⟨b4, b3⟩ := zband ha
      have hy : 0 < a2 ∧ a2 < 226 := ⟨Nat.blt_eq.mp b2, Nat.blt_eq.mp b1⟩
      have b3 : zkn a2 = 2 := eq_of_beq b3
      have hlink := zMT_in _ (zc3 b4)
      obtain ⟨⟨f1, f2, f3⟩, f4, f5, f6, f7, f8, f9, f10, f11⟩ := facts hy
      obtain ⟨b0, As, rfl⟩ := hvs b3
      rw [b3] at f3 f7
      have f3 : Cond.instanceMethod (zmn a2) ∈ zTs := f3
      have f9 := f9 b3
      have hcb : CallB R s args (zcn (zoc mid)) k (zmn a2) (zby a2) (zml a2) (zrt a2) (zws a2) (zrm d M M2) mc ms (zna a2 - 1) :=
        callB_of (zna a2 - 1) hts (zgood_of (zws_in hy.1 hy.2)) rfl hmc.1 hmc.2 (hts _ f2) (hts _ hlink) ⟨f6.1, f6.2, by rw [f7]; rfl⟩ ⟨hroom.1, hroom.2 f11⟩
      rw [f9] at hcb
      have hAl : As.length = zna a2 - 1 := by
        have : (Value.ref b0 :: As).length = zna a2 := hvl
        rw [List.length_cons] at this; omega
      refine zs_run (M2 := M2) (r := r) (rest := rest) (va_runI (As := As.map (zcv (zad B0 Ex))) (b := zad B0 Ex b0) S0 (h0 hy) ⟨hcb, f8.mpr b3, hts _ f3⟩ ⟨zPc.blind, fun U hU hW => hP U hU hW⟩ rfl (by rw [List.length_map]; exact hAl) hl.1 ?_ (lv_room hcat') hd hcs) hL kk
      show (List.map (zcv (zad B0 Ex)) (Value.ref b0 :: As)).reverse ++ rest.map _ = _
      rw [List.map_cons, List.reverse_cons, List.append_assoc]
      rfl
    · have ha : ((false || false) || ((((true && zXT.contains (zoc mid, k, a2)) && zkn a2 == 2) && Nat.blt 0 a2) && Nat.blt a2 226)) = true := ha
      rw [Bool.or_false, Bool.false_or, Bool.true_and] at ha
      obtain ⟨ha, b1⟩ := zband ha
      obtain ⟨ha, b2⟩ := zband ha
      obtain ⟨b4, b3⟩ := zband ha
      have hy : 0 < a2 ∧ a2 < 226 := ⟨Nat.blt_eq.mp b2, Nat.blt_eq.mp b1⟩
      have b3 : zkn a2 = 2 := eq_of_beq b3
      obtain ⟨-, -, -, -, -, -, -, hN, -⟩ := hE
      have hlink := hN _ (zc3 b4)
      obtain ⟨⟨f1, f2, f3⟩, f4, f5, f6, f7, f8, f9, f10, f11⟩ := facts hy
      obtain ⟨b0, As, rfl⟩ := hvs b3
      rw [b3] at f3 f7
      have f3 : Cond.instanceMethod (zmn a2) ∈ zTs := f3
      have f9 := f9 b3
      have hcb : va_CN R s args (zcn (zoc mid)) k (zmn a2) RX7 (zby a2) (zml a2) (zrt a2) (zws a2) (zrm d M M2) mc ms (zna a2 - 1) :=
        va_cnB (zna a2 - 1) hts (zgood_of (zws_in hy.1 hy.2)) rfl hmc.1 hmc.2 hlink (hts _ f2) ⟨f6.1, f6.2, by rw [f7]; rfl⟩ ⟨hroom.1, hroom.2 f11⟩
      rw [f9] at hcb
      have hAl : As.length = zna a2 - 1 := by
        have : (Value.ref b0 :: As).length = zna a2 := hvl
        rw [List.length_cons] at this; omega
      refine zs_run (M2 := M2) (r := r) (rest := rest) (va_runIN (As := As.map (zcv (zad B0 Ex))) (b := zad B0 Ex b0) S0 (h0 hy) ⟨hcb, f8.mpr b3, hts _ f3⟩ ⟨zPc.blind, fun U hU hW => hP U hU hW⟩ rfl (by rw [List.length_map]; exact hAl) hl.1 ?_ (lv_room hcat') hd hcs) hL kk
      show (List.map (zcv (zad B0 Ex)) (Value.ref b0 :: As)).reverse ++ rest.map _ = _
      rw [List.map_cons, List.reverse_cons, List.append_assoc]
      rfl
/-- a method's own end -/
theorem zs_ret {Qc : Array Value → State → Outcome → State → Prop} {v : Option Value} (hx : p.tables.exec = Jvm.exec) (hb : c.code = zby mid) (hr : meth.sig.returnType = zrt mid) (hlk : meth.locks = false) (h : zstep X mid pc ls st M = some (.inr (.inr v))) (hL : ∀ q ∈ locs, zA B0 q.base)
    (hq : ∀ t : State, t.heap = H → s.WarmedH t.vm → Qc args s (.returned (v.map (zcv (zad B0 Ex)))) t) : W p l e R s m args below meth c H locs cells slots (MQ below Qc args s cells slots (zA B0)) (F0 m pc lsA (st.map (zcv (zad B0 Ex)))) := by
  obtain ⟨ins, n, a1, a2, ai, hz, h⟩ := zn_step h
  obtain ⟨hm, hd, hn, ha⟩ := zk_ok hz
  dsimp only at hd hn
  rcases h with ⟨-, ls0, h⟩ | ⟨rfl, h⟩ | ⟨rfl, h⟩ | ⟨rfl, h⟩
  · obtain ⟨-, -, -, -, h⟩ := zn_inv h
    cases h
  · obtain rfl : n = 1 := eq_of_beq hn
    unfold zret at h
    split at h
    · rename_i x
      split at h
      · rename_i ht
        cases h
        exact W.zret (ty := .int) hx hb (hr.trans ht) rfl hq hL hd hlk
      · rename_i ht
        split at h
        · rename_i h01
          cases h
          exact W.zret (ty := .boolean) hx hb (hr.trans ht) (by rcases h01 with rfl | rfl <;> rfl) hq hL hd hlk
        · cases h
      · rename_i ht
        split at h
        · rename_i h01
          cases h
          exact W.zret (ty := .byte) hx hb (hr.trans ht) (by rw [h01]; rfl) hq hL hd hlk
        · cases h
      · cases h
    · cases h
  · obtain rfl : n = 1 := eq_of_beq hn
    unfold zretl at h
    split at h
    · split at h
      · rename_i ht
        cases h
        exact W.lret hx hb (hr.trans ht) hq hL hd hlk
      · cases h
    · cases h
  · obtain rfl : n = 1 := eq_of_beq hn
    unfold zretv at h
    split at h
    · split at h
      · rename_i ht
        cases h
        exact W.vret hx hb (hr.trans ht) hq hL hd hlk
      · cases h
    · cases h
end ZCALL
/-- what a run of n steps gives, in any frame that it stands in -/
def zSim (l : Launch) (X : zX) (B0 : Nat) (Hb : Heap) (Ex : Nat → Nat) (y : Nat → ClassId) (D : va_G) (n : Nat) : Prop :=
  ∀ (d mid pc : Nat) (ls : zLs) (st : List Value) (M : zM) (r : Option Value) (M' : zM), zev X n d mid pc ls st M = some (r, M') →
  ∀ (p : Program) (e : Env) (R : Room) (s : State) (m : MethodId) (args : Array Value) (below : List Frame) (meth : Method) (c : Code) (H : Heap) (locs : List Loc) (cells slots : Nat) (Q : State → Prop) (lsA : Array Slot),
    zCtx B0 Hb Ex X y D mid p R s m args meth c → zRep B0 Hb Ex y D M H → (∀ q ∈ locs, zA B0 q.base) → zL (zad B0 Ex) (zml mid) ls lsA → d + 1 ≤ R.frames → 40 * d + 100 ≤ R.locals → cells + M'.1.length ≤ R.cells + M.1.length → slots + zsl M' ≤ R.slots + zsl M →
    (∀ (pc' : Nat) (ls' : zLs) (st' : List Value) (lsA' : Array Slot) (H' : Heap) (locs' : List Loc) (cells' slots' : Nat), zstep X mid pc' ls' st' M' = some (.inr (.inr r)) → zRep B0 Hb Ex y D M' H' → (∀ q ∈ locs', zA B0 q.base) → cells' + M.1.length = cells + M'.1.length → slots' + zsl M = slots + zsl M' → W p l e R s m args below meth c H' locs' cells' slots' Q (F0 m pc' lsA' (st'.map (zcv (zad B0 Ex))))) →
    W p l e R s m args below meth c H locs cells slots Q (F0 m pc lsA (st.map (zcv (zad B0 Ex))))
theorem zmet_of {l : Launch} {X : zX} {B0 : Nat} {Hb : Heap} {Ex : Nat → Nat} {y : Nat → ClassId} {D : va_G} {n : Nat} (hS : zSim l X B0 Hb Ex y D n) {d mid : Nat} {vs : List Value} {M M' : zM} {r : Option Value} (hmid : 0 < mid ∧ mid < 226) (hlen : (zla vs).length ≤ zml mid) (h : zev X n d mid 0 (zent mid vs) [] M = some (r, M')) :
    Met l (zmn mid) (zws mid) (zrm d M M') (zPc B0 Hb Ex X y D M vs) (zQc B0 Hb Ex y D M' r) (M'.1.length - M.1.length) (zsl M' - zsl M) (zA B0) := by
  have hmono := zm_ev _ _ _ _ _ _ _ _ _ h
  have h1 := zmd mid hmid.2 hmid.1
  unfold zMd at h1
  obtain ⟨h1, -⟩ := zband h1
  obtain ⟨h1, -⟩ := zband h1
  obtain ⟨h1, -⟩ := zband h1
  obtain ⟨h1, -⟩ := zband h1
  obtain ⟨h1, -⟩ := zband h1
  obtain ⟨h1, g6⟩ := zband h1
  obtain ⟨h1, -⟩ := zband h1
  obtain ⟨h1, -⟩ := zband h1
  obtain ⟨g2, g3⟩ := zband h1
  have g3 : (zmn mid).cls = zcn (zoc mid) := of_decide_eq_true g3
  have g6 : (zmn mid).name = "<init>" ↔ zkn mid = 2 := of_decide_eq_true g6
  refine Met.ofW (cc := zby mid) (maxL := zml mid) (ret := zrt mid) g2 rfl ?_
  intro p e s m args below meth c s₁ B hml hv
  obtain ⟨rfl, hR, hK, hE⟩ := hv
  have hts := atoms_spec (ws := zws mid) B.pre
  have hown : s.vm.findClass (zcn (zoc mid)) = some m.cls := g3 ▸ findClass_of_methodNamed B.named
  have hC : zCtx B0 Hb Ex X y D mid p (zrm d M M') s m (vs.map (zcv (zad B0 Ex))).toArray meth c :=
    ⟨B.exec, B.bytes, hml, hown, fun w hw => hts w (List.mem_cons_of_mem _ hw), fun hk => (name_of_methodNamed B.named B.method).1.trans (g6.mpr hk), hK, hE, by show 1 ≤ d + 1; omega, by show 100 ≤ 40 * d + 100; omega⟩
  have hl := lv_entry (vs.map (zcv (zad B0 Ex))) (n := zml mid) (by rw [zla_len]; exact hlen)
  rw [lg_entry_eq]
  have hL : zL (zad B0 Ex) (zml mid) (zent mid vs) ((lg_sl (vs.map (zcv (zad B0 Ex))) ++ List.replicate (zml mid - (lg_sl (vs.map (zcv (zad B0 Ex)))).length) Slot.unset).toArray) := by
    refine zL.of hl fun i v hg => ?_
    have := zla_get (ad := zad B0 Ex) vs 0 i v hg
    rwa [Nat.zero_add] at this
  refine hS d mid 0 (zent mid vs) [] M r M' h p e (zrm d M M') s m _ below meth c s.heap [] 0 0 _ _ hC hR (fun q hq => absurd hq List.not_mem_nil) hL (Nat.le_refl _) (Nat.le_refl _) ?_ ?_ ?_
  · show 0 + M'.1.length ≤ M'.1.length - M.1.length + M.1.length
    have := hmono.1; omega
  · show 0 + zsl M' ≤ zsl M' - zsl M + zsl M
    have := hmono.2; omega
  · intro pc' ls' st' lsA' H' locs' cells' slots' hst hR' hL' hc1 hc2
    have e1 : cells' = M'.1.length - M.1.length := by have := hmono.1; omega
    have e2 : slots' = zsl M' - zsl M := by have := hmono.2; omega
    subst e1; subst e2
    exact zs_ret B.exec B.bytes B.returns B.notSynchronized hst hL' fun t ht hW => ⟨rfl, by rw [ht]; exact hR'⟩
theorem zsim {l : Launch} {X : zX} {B0 : Nat} {Hb : Heap} {Ex : Nat → Nat} {y : Nat → ClassId} {D : va_G} : ∀ n : Nat, zSim l X B0 Hb Ex y D n := by
  intro n
  induction n with
  | zero => intro d mid pc ls st M r M' h; cases h
  | succ n ih =>
    intro d mid pc ls st M r M' h p e R s m args below meth c H locs cells slots Q lsA hC hR hL hl hfr hlo hcs hss hret
    unfold zev at h
    split at h
    · cases h
    · rename_i q hq
      have m2 := zm_ev _ _ _ _ _ _ _ _ _ h
      have m1 := zm_step hq
      refine zs_step (q1 := q) ⟨hC, hR, hL, hl, ?_, ?_, fun H1 locs1 lsA1 cells1 slots1 hR1 hL1 hl1 hc1 hs1 => ?_⟩ hq
      · have := m2.1; omega
      · have := m2.2; omega
      · refine ih d mid _ _ _ _ r M' h p e R s m args below meth c H1 locs1 cells1 slots1 Q lsA1 hC hR1 hL1 hl1 hfr hlo (by have := m1.1; omega) (by have := m1.2; omega) ?_
        intro pc' ls' st' lsA' H' locs' cells' slots' hst hR' hL' g1 g2
        exact hret pc' ls' st' lsA' H' locs' cells' slots' hst hR' hL' (by have := m1.1; omega) (by have := m1.2; omega)
    · rename_i q hq
      obtain ⟨ins, nn, a1, a2, ai, hz, hcase⟩ := zn_step hq
      rcases hcase with ⟨hk, ls0, hv⟩ | ⟨-, hv⟩ | ⟨-, hv⟩ | ⟨-, hv⟩
      · obtain ⟨c1, c2, c3, c4, c5⟩ := zn_inv hv
        cases c5
        split at h
        · cases h
        · rename_i d'
          cases g : Nat.ble (zla (st.take (zna a2)).reverse).length (zml a2) with
          | false => rw [g] at h; cases h
          | true =>
            rw [g] at h
            dsimp only [cond_true] at h
            split at h
            · cases h
            · rename_i t ht
              obtain ⟨tr, tM⟩ := t
              have k1 := zm_ev _ _ _ _ _ _ _ _ _ ht
              have k2 := zm_ev _ _ _ _ _ _ _ _ _ h
              have k11 := k1.1
              have k12 := k1.2
              have k21 := k2.1
              have k22 := k2.2
              dsimp only at k21 k22
              refine zs_call (d := d') (M2 := tM) (r := tr) (mc := tM.1.length - M.1.length) (ms := zsl tM - zsl M) hC hR hL hl hz hk c1 c2 c3 c4 (fun hy => zmet_of ih hy (Nat.le_of_ble_eq_true g) ht) ⟨rfl, rfl⟩ (by omega) (by omega) ⟨by omega, by omega⟩ fun H1 locs1 hR1 hL1 => ?_
              refine ih (d' + 1) mid (pc + 3) ls _ tM r M' h p e R s m args below meth c H1 locs1 _ _ Q lsA hC hR1 hL1 hl hfr hlo (by omega) (by omega) ?_
              intro pc' ls' st' lsA' H' locs' cells' slots' hst hR' hL' g1 g2
              exact hret pc' ls' st' lsA' H' locs' cells' slots' hst hR' hL' (by omega) (by omega)
      · exfalso
        unfold zret at hv
        split at hv
        · split at hv
          · cases hv
          · split at hv <;> cases hv
          · split at hv <;> cases hv
          · cases hv
        · cases hv
      · exfalso
        unfold zretl at hv
        split at hv
        · split at hv <;> cases hv
        · cases hv
      · exfalso
        unfold zretv at hv
        split at hv
        · split at hv <;> cases hv
        · cases hv
    · rename_i v hv
      cases h
      exact hret pc ls st lsA H locs cells slots hv hR hL rfl rfl
