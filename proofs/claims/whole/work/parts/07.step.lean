/-! ONE STEP OF THE ABSTRACT MACHINE IS STEPS OF THE MACHINE -/
def zL (ad : Nat → Nat) (nL : Nat) (ls : zLs) (lsA : Array Slot) : Prop := lsA.size = nL ∧ lv_wf lsA ∧ ∀ i v, zget ls i = some v → lsA[i]? = some (.val (zcv ad v))
def zprs (ad : Nat → Nat) (ls : zLs) : List (Nat × Value) := (List.range ls.length).filterMap (fun i => (zget ls i).map (fun v => (i, zcv ad v)))
theorem zmskl_get : ∀ (k : List Bool) (ls : zLs) (i : Nat) (v : Value), zget (zmskl k ls) i = some v → zget ls i = some v
  | [], ls, i, v, h => by unfold zmskl at h; exact h
  | b :: k, [], i, v, h => by unfold zmskl at h; exact h
  | b :: k, o :: ls, i, v, h => by
    unfold zmskl at h
    cases i with
    | zero =>
      cases b with
      | true => exact h
      | false => cases h
    | succ i => exact zmskl_get k ls i v h
theorem zmsk_get {k : Option (List Bool)} {ls : zLs} {i : Nat} {v : Value} (h : zget (zmsk k ls) i = some v) : zget ls i = some v := by
  cases k with
  | none => exact h
  | some k => exact zmskl_get k ls i v h
theorem zcv_cat (ad : Nat → Nat) (v : Value) : (zcv ad v).category = v.category := by cases v <;> rfl
theorem zget_lt {ls : zLs} {i : Nat} {v : Value} (h : zget ls i = some v) : i < ls.length := by
  rcases Nat.lt_or_ge i ls.length with q | q
  · exact q
  · unfold zget at h
    rw [List.getElem?_eq_none q] at h
    cases h
theorem zprs_mem {ad : Nat → Nat} {ls : zLs} {i : Nat} {v : Value} (h : zget ls i = some v) : (i, zcv ad v) ∈ zprs ad ls := by
  refine List.mem_filterMap.mpr ⟨i, List.mem_range.mpr (zget_lt h), ?_⟩
  rw [h]; rfl
theorem zprs_out {ad : Nat → Nat} {ls : zLs} {q : Nat × Value} (h : q ∈ zprs ad ls) : ∃ v, zget ls q.1 = some v ∧ q.2 = zcv ad v := by
  obtain ⟨i, -, hi⟩ := List.mem_filterMap.mp h
  cases hg : zget ls i with
  | none => rw [hg] at hi; cases hi
  | some v =>
    rw [hg] at hi
    cases hi
    exact ⟨v, hg, rfl⟩
theorem zL.has {ad : Nat → Nat} {nL : Nat} {ls : zLs} {lsA : Array Slot} (h : zL ad nL ls lsA) : lv_has lsA nL (zprs ad ls) := by
  refine ⟨h.1, h.2.1, fun q hq => ?_⟩
  obtain ⟨v, h1, h2⟩ := zprs_out hq
  rw [h2]
  exact h.2.2 _ _ h1
theorem zL.of {ad : Nat → Nat} {nL : Nat} {ls : zLs} {lsA : Array Slot} {lv : List (Nat × Value)} (h : lv_has lsA nL lv) (hm : ∀ i v, zget ls i = some v → (i, zcv ad v) ∈ lv) : zL ad nL ls lsA :=
  ⟨h.1, h.2.1, fun i v hg => h.2.2 _ (hm i v hg)⟩
theorem zget_set {ls : zLs} {i j : Nat} {o : Option Value} {w : Value} (h : zget (ls.set i o) j = some w) : (j = i ∧ o = some w) ∨ (j ≠ i ∧ zget ls j = some w) := by
  by_cases e : j = i
  · subst e
    left
    refine ⟨rfl, ?_⟩
    have hl : j < ls.length := by have := zget_lt h; simpa using this
    unfold zget at h
    rw [List.getElem?_set_self hl] at h
    exact h
  · right
    refine ⟨e, ?_⟩
    unfold zget at h ⊢
    rw [List.getElem?_set_ne (Ne.symm e)] at h
    exact h
theorem zget_kl {ls : zLs} {i j : Nat} {w : Value} (h : zget (zkl ls i) j = some w) : zget ls j = some w ∧ ¬ (j + 1 = i ∧ w.category = 2) := by
  cases i with
  | zero => exact ⟨h, fun q => by omega⟩
  | succ n =>
    replace h : zget (match ls[n]? with
      | some (some v) => if v.category = 2 then ls.set n none else ls
      | _ => ls) j = some w := h
    cases hn : ls[n]? with
    | none =>
      rw [hn] at h
      refine ⟨h, fun q => ?_⟩
      have : j = n := by omega
      subst this
      unfold zget at h
      rw [hn] at h
      cases h
    | some o =>
      cases o with
      | none =>
        rw [hn] at h
        refine ⟨h, fun q => ?_⟩
        have : j = n := by omega
        subst this
        unfold zget at h
        rw [hn] at h
        cases h
      | some v =>
        rw [hn] at h
        dsimp only at h
        split at h
        · rcases zget_set h with ⟨q1, q2⟩ | ⟨q1, q2⟩
          · cases q2
          · exact ⟨q2, fun q => q1 (by omega)⟩
        · rename_i hc
          refine ⟨h, fun q => ?_⟩
          have : j = n := by omega
          subst this
          unfold zget at h
          rw [hn] at h
          cases h
          exact hc q.2
theorem zmem_st1 {ad : Nat → Nat} {ls : zLs} {i : Nat} {v : Value} : ∀ j w, zget (zst1 ls i v) j = some w → (j, zcv ad w) ∈ (i, zcv ad v) :: (zprs ad ls).filter (fun q => !(q.1 == i) && !(q.1 + 1 == i && q.2.category == 2)) := by
  intro j w h
  rcases zget_set h with ⟨q1, q2⟩ | ⟨q1, q2⟩
  · cases q2
    subst q1
    exact List.mem_cons_self
  · obtain ⟨g1, g2⟩ := zget_kl q2
    refine List.mem_cons_of_mem _ (List.mem_filter.mpr ⟨zprs_mem g1, ?_⟩)
    rw [zcv_cat]
    simp only [Bool.and_eq_true, Bool.not_eq_true', beq_eq_false_iff_ne, ne_eq, Bool.and_eq_false_iff]
    refine ⟨q1, ?_⟩
    by_cases e : j + 1 = i
    · right; exact fun q => g2 ⟨e, q⟩
    · left; exact e
theorem zmem_st2 {ad : Nat → Nat} {ls : zLs} {i : Nat} {v : Value} : ∀ j w, zget (zst2 ls i v) j = some w → (j, zcv ad w) ∈ (i, zcv ad v) :: (zprs ad ls).filter (fun q => !(q.1 == i) && (!(q.1 == i + 1) && !(q.1 + 1 == i && q.2.category == 2))) := by
  intro j w h
  rcases zget_set h with ⟨q1, q2⟩ | ⟨q1, q2⟩
  · cases q2
    subst q1
    exact List.mem_cons_self
  · rcases zget_set q2 with ⟨r1, r2⟩ | ⟨r1, r2⟩
    · cases r2
    · obtain ⟨g1, g2⟩ := zget_kl r2
      refine List.mem_cons_of_mem _ (List.mem_filter.mpr ⟨zprs_mem g1, ?_⟩)
      rw [zcv_cat]
      simp only [Bool.and_eq_true, Bool.not_eq_true', beq_eq_false_iff_ne, ne_eq, Bool.and_eq_false_iff]
      refine ⟨q1, r1, ?_⟩
      by_cases e : j + 1 = i
      · right; exact fun q => g2 ⟨e, q⟩
      · left; exact e
def zsl (M : zM) : Nat := (M.1.map fun s => s.2.1).sum
theorem zbif {b : Bool} {A r : zRes} (h : (bif b then A else none) = r) (hr : r ≠ none) : b = true ∧ A = r := by
  cases b
  · exact absurd h.symm hr
  · exact ⟨rfl, h⟩
theorem zin_in {i : Int32} {n : Nat} (h : zin i n = true) : vp_in i n := by
  unfold zin at h
  simp only [Bool.and_eq_true, Bool.not_eq_true', decide_eq_false_iff_not] at h
  exact fun q => q.elim h.1 (fun q => absurd (Nat.blt_eq.mp h.2) (by omega))
theorem zin_lt {i : Int32} {n : Nat} (h : zin i n = true) : i.toNatClampNeg < n := Nat.not_le.mp fun q => zin_in h (Or.inr q)
theorem zval_up {ad : Nat → Nat} {M M' : zM} {a k : Nat} {x : Value} (h : ∀ j, zval ad M' a j = if j = k then x else zval ad M a j) : zval ad M' a = updV (zval ad M a) k x := by
  funext j
  rw [h j]; rfl
def zCtx (B0 : Nat) (Hb : Heap) (Ex : Nat → Nat) (X : zX) (y : Nat → ClassId) (D : va_G) (mid : Nat) (p : Program) (R : Room) (s : State) (m : MethodId) (args : Array Value) (meth : Method) (c : Code) : Prop :=
  p.tables.exec = Jvm.exec ∧ c.code = zby mid ∧ c.maxLocals = zml mid ∧ s.vm.findClass (zcn (zoc mid)) = some m.cls ∧ (∀ w ∈ zTs, w.before args s = true) ∧ (zkn mid = 2 → meth.name = "<init>") ∧ va_K D vwCl (zys y) s ∧ zExt B0 Hb Ex X s ∧ 1 ≤ R.frames ∧ 100 ≤ R.locals
def zK (p : Program) (l : Launch) (e : Env) (R : Room) (s : State) (m : MethodId) (args : Array Value) (below : List Frame) (meth : Method) (c : Code) (cells slots : Nat) (Q : State → Prop) (B0 : Nat) (Hb : Heap) (Ex : Nat → Nat) (y : Nat → ClassId) (D : va_G) (nL : Nat) (M : zM) (q1 : Nat × zLs × List Value × zM) : Prop :=
  ∀ (H1 : Heap) (locs1 : List Loc) (lsA1 : Array Slot) (cells1 slots1 : Nat), zRep B0 Hb Ex y D q1.2.2.2 H1 → (∀ q ∈ locs1, zA B0 q.base) → zL (zad B0 Ex) nL q1.2.1 lsA1 → cells1 + M.1.length = cells + q1.2.2.2.1.length → slots1 + zsl M = slots + zsl q1.2.2.2 →
    W p l e R s m args below meth c H1 locs1 cells1 slots1 Q (F0 m q1.1 lsA1 (q1.2.2.1.map (zcv (zad B0 Ex))))
def zS (p : Program) (l : Launch) (e : Env) (R : Room) (s : State) (m : MethodId) (args : Array Value) (below : List Frame) (meth : Method) (c : Code) (H : Heap) (locs : List Loc) (cells slots : Nat) (Q : State → Prop) (B0 : Nat) (Hb : Heap) (Ex : Nat → Nat) (X : zX) (y : Nat → ClassId) (D : va_G) (mid : Nat) (ls : zLs) (lsA : Array Slot) (M : zM) (q1 : Nat × zLs × List Value × zM) : Prop :=
  zCtx B0 Hb Ex X y D mid p R s m args meth c ∧ zRep B0 Hb Ex y D M H ∧ (∀ q ∈ locs, zA B0 q.base) ∧ zL (zad B0 Ex) (zml mid) ls lsA ∧ cells + q1.2.2.2.1.length ≤ R.cells + M.1.length ∧ slots + zsl q1.2.2.2 ≤ R.slots + zsl M ∧
  zK p l e R s m args below meth c cells slots Q B0 Hb Ex y D (zml mid) M q1
section ZS1
variable {p : Program} {l : Launch} {e : Env} {R : Room} {s : State} {m : MethodId} {args : Array Value} {below : List Frame} {meth : Method} {c : Code} {H : Heap} {locs : List Loc} {cells slots : Nat} {Q : State → Prop}
variable {B0 : Nat} {Hb : Heap} {Ex : Nat → Nat} {X : zX} {y : Nat → ClassId} {D : va_G} {mid pc : Nat} {ls : zLs} {lsA : Array Slot} {st : List Value} {M : zM} {q1 : Nat × zLs × List Value × zM}
theorem zS.mask (S : zS p l e R s m args below meth c H locs cells slots Q B0 Hb Ex X y D mid ls lsA M q1) {k : Option (List Bool)} : zS p l e R s m args below meth c H locs cells slots Q B0 Hb Ex X y D mid (zmsk k ls) lsA M q1 :=
  ⟨S.1, S.2.1, S.2.2.1, ⟨S.2.2.2.1.1, S.2.2.2.1.2.1, fun i v h => S.2.2.2.1.2.2 i v (zmsk_get h)⟩, S.2.2.2.2⟩
/-- nothing but the place, the stack and perhaps the locals has changed -/
theorem zS.go (S : zS p l e R s m args below meth c H locs cells slots Q B0 Hb Ex X y D mid ls lsA M q1) {lsB : Array Slot} (hl : zL (zad B0 Ex) (zml mid) q1.2.1 lsB) (hM : q1.2.2.2 = M) : W p l e R s m args below meth c H locs cells slots Q (F0 m q1.1 lsB (q1.2.2.1.map (zcv (zad B0 Ex)))) := by
  obtain ⟨-, hR, hL, -, -, -, k⟩ := S
  exact k H locs lsB cells slots (by rw [hM]; exact hR) hL hl (by rw [hM]) (by rw [hM])
theorem zs_load1 {i n : Nat} (S : zS p l e R s m args below meth c H locs cells slots Q B0 Hb Ex X y D mid ls lsA M q1) (h : zpush1 n ls st M (zget ls i) = some (.inl q1))
    (hw : ∀ x : Int32, lsA[i]? = some (.val (.int x)) → W p l e R s m args below meth c H locs cells slots Q (F0 m n lsA (.int x :: st.map (zcv (zad B0 Ex)))) → W p l e R s m args below meth c H locs cells slots Q (F0 m pc lsA (st.map (zcv (zad B0 Ex))))) :
    W p l e R s m args below meth c H locs cells slots Q (F0 m pc lsA (st.map (zcv (zad B0 Ex)))) := by
  have hl := S.2.2.2.1
  unfold zpush1 at h
  split at h
  · rename_i x hg
    cases h
    exact hw x (hl.2.2 _ _ hg) (S.go hl rfl)
  · cases h
theorem zs_load2 {i n : Nat} (S : zS p l e R s m args below meth c H locs cells slots Q B0 Hb Ex X y D mid ls lsA M q1) (h : zpush2 n ls st M (zget ls i) = some (.inl q1))
    (hw : ∀ x : Int64, lsA[i]? = some (.val (.long x)) → W p l e R s m args below meth c H locs cells slots Q (F0 m n lsA (.long x :: st.map (zcv (zad B0 Ex)))) → W p l e R s m args below meth c H locs cells slots Q (F0 m pc lsA (st.map (zcv (zad B0 Ex))))) :
    W p l e R s m args below meth c H locs cells slots Q (F0 m pc lsA (st.map (zcv (zad B0 Ex)))) := by
  have hl := S.2.2.2.1
  unfold zpush2 at h
  split at h
  · rename_i x hg
    cases h
    exact hw x (hl.2.2 _ _ hg) (S.go hl rfl)
  · cases h
theorem zs_loadr {i n : Nat} (S : zS p l e R s m args below meth c H locs cells slots Q B0 Hb Ex X y D mid ls lsA M q1) (h : zpushr n ls st M (zget ls i) = some (.inl q1))
    (hw : ∀ x : Nat, lsA[i]? = some (.val (.ref x)) → W p l e R s m args below meth c H locs cells slots Q (F0 m n lsA (.ref x :: st.map (zcv (zad B0 Ex)))) → W p l e R s m args below meth c H locs cells slots Q (F0 m pc lsA (st.map (zcv (zad B0 Ex))))) :
    W p l e R s m args below meth c H locs cells slots Q (F0 m pc lsA (st.map (zcv (zad B0 Ex)))) := by
  have hl := S.2.2.2.1
  unfold zpushr at h
  split at h
  · rename_i x hg
    cases h
    exact hw _ (hl.2.2 _ _ hg) (S.go hl rfl)
  · cases h
theorem zs_sti {i n : Nat} (S : zS p l e R s m args below meth c H locs cells slots Q B0 Hb Ex X y D mid ls lsA M q1) (h : zsti n ls st M (zml mid) i = some (.inl q1))
    (hw : ∀ (x : Int32) (r : List Value), i < zml mid → (∀ lsB : Array Slot, lv_has lsB (zml mid) ((i, Value.int x) :: (zprs (zad B0 Ex) ls).filter (fun q => !(q.1 == i) && !(q.1 + 1 == i && q.2.category == 2))) → W p l e R s m args below meth c H locs cells slots Q (F0 m n lsB r)) → W p l e R s m args below meth c H locs cells slots Q (F0 m pc lsA (.int x :: r))) :
    W p l e R s m args below meth c H locs cells slots Q (F0 m pc lsA (st.map (zcv (zad B0 Ex)))) := by
  unfold zsti at h
  split at h
  · rename_i x r
    obtain ⟨h1, h2⟩ := zbif h (by intro q; cases q)
    cases h2
    exact hw x _ (Nat.blt_eq.mp h1) fun lsB hB => S.go (zL.of hB (zmem_st1 (v := .int x))) rfl
  · cases h
theorem zs_sta {i n : Nat} (S : zS p l e R s m args below meth c H locs cells slots Q B0 Hb Ex X y D mid ls lsA M q1) (h : zsta n ls st M (zml mid) i = some (.inl q1))
    (hw : ∀ (x : Nat) (r : List Value), i < zml mid → (∀ lsB : Array Slot, lv_has lsB (zml mid) ((i, Value.ref x) :: (zprs (zad B0 Ex) ls).filter (fun q => !(q.1 == i) && !(q.1 + 1 == i && q.2.category == 2))) → W p l e R s m args below meth c H locs cells slots Q (F0 m n lsB r)) → W p l e R s m args below meth c H locs cells slots Q (F0 m pc lsA (.ref x :: r))) :
    W p l e R s m args below meth c H locs cells slots Q (F0 m pc lsA (st.map (zcv (zad B0 Ex)))) := by
  unfold zsta at h
  split at h
  · rename_i x r
    obtain ⟨h1, h2⟩ := zbif h (by intro q; cases q)
    cases h2
    exact hw (zad B0 Ex x) _ (Nat.blt_eq.mp h1) fun lsB hB => S.go (zL.of hB (zmem_st1 (v := .ref x))) rfl
  · cases h
theorem zs_stl {i n : Nat} (S : zS p l e R s m args below meth c H locs cells slots Q B0 Hb Ex X y D mid ls lsA M q1) (h : zstl n ls st M (zml mid) i = some (.inl q1))
    (hw : ∀ (x : Int64) (r : List Value), i + 1 < zml mid → (∀ lsB : Array Slot, lv_has lsB (zml mid) ((i, Value.long x) :: (zprs (zad B0 Ex) ls).filter (fun q => !(q.1 == i) && (!(q.1 == i + 1) && !(q.1 + 1 == i && q.2.category == 2)))) → W p l e R s m args below meth c H locs cells slots Q (F0 m n lsB r)) → W p l e R s m args below meth c H locs cells slots Q (F0 m pc lsA (.long x :: r))) :
    W p l e R s m args below meth c H locs cells slots Q (F0 m pc lsA (st.map (zcv (zad B0 Ex)))) := by
  unfold zstl at h
  split at h
  · rename_i x r
    obtain ⟨h1, h2⟩ := zbif h (by intro q; cases q)
    cases h2
    exact hw x _ (Nat.blt_eq.mp h1) fun lsB hB => S.go (zL.of hB (zmem_st2 (v := .long x))) rfl
  · cases h
theorem zs_iinc {i : Nat} {n : Int} (S : zS p l e R s m args below meth c H locs cells slots Q B0 Hb Ex X y D mid ls lsA M q1) (h : ziinc pc i n (zml mid) ls st M = some (.inl q1)) (hd : decode (zby mid) pc = .ok (.iinc i n, 3)) :
    W p l e R s m args below meth c H locs cells slots Q (F0 m pc lsA (st.map (zcv (zad B0 Ex)))) := by
  obtain ⟨hx, hb, -⟩ := S.1
  have hl := S.2.2.2.1
  unfold ziinc at h
  split at h
  · rename_i x hg
    obtain ⟨h1, h2⟩ := zbif h (by intro q; cases q)
    cases h2
    obtain ⟨k, hk⟩ := List.getElem?_of_mem (zprs_mem (ad := zad B0 Ex) hg)
    exact lv_iinc hx hb hd hl.has (k := k) hk (zinc_eq x n) (Nat.blt_eq.mp h1) rfl fun lsB hB => S.go (zL.of hB (zmem_st1 (v := .int (zinc x n)))) rfl
  · cases h
theorem zs_op1 {f : Int32 → Int32} (S : zS p l e R s m args below meth c H locs cells slots Q B0 Hb Ex X y D mid ls lsA M q1) (h : zop1 f pc ls st M = some (.inl q1))
    (hw : ∀ (x : Int32) (r : List Value), W p l e R s m args below meth c H locs cells slots Q (F0 m (pc + 1) lsA (.int (f x) :: r)) → W p l e R s m args below meth c H locs cells slots Q (F0 m pc lsA (.int x :: r))) :
    W p l e R s m args below meth c H locs cells slots Q (F0 m pc lsA (st.map (zcv (zad B0 Ex)))) := by
  unfold zop1 at h
  split at h
  · cases h
    exact hw _ _ (S.go S.2.2.2.1 rfl)
  · cases h
theorem zs_op2 {f : Int32 → Int32 → Int32} (S : zS p l e R s m args below meth c H locs cells slots Q B0 Hb Ex X y D mid ls lsA M q1) (h : zop2 f pc ls st M = some (.inl q1))
    (hw : ∀ (x z : Int32) (r : List Value), W p l e R s m args below meth c H locs cells slots Q (F0 m (pc + 1) lsA (.int (f x z) :: r)) → W p l e R s m args below meth c H locs cells slots Q (F0 m pc lsA (.int z :: .int x :: r))) :
    W p l e R s m args below meth c H locs cells slots Q (F0 m pc lsA (st.map (zcv (zad B0 Ex)))) := by
  unfold zop2 at h
  split at h
  · cases h
    exact hw _ _ _ (S.go S.2.2.2.1 rfl)
  · cases h
theorem zs_div {f : Int32 → Int32 → Int32} (S : zS p l e R s m args below meth c H locs cells slots Q B0 Hb Ex X y D mid ls lsA M q1) (h : zdiv f pc ls st M = some (.inl q1))
    (hw : ∀ (x z : Int32) (r : List Value), ¬ z = 0 → W p l e R s m args below meth c H locs cells slots Q (F0 m (pc + 1) lsA (.int (f x z) :: r)) → W p l e R s m args below meth c H locs cells slots Q (F0 m pc lsA (.int z :: .int x :: r))) :
    W p l e R s m args below meth c H locs cells slots Q (F0 m pc lsA (st.map (zcv (zad B0 Ex)))) := by
  unfold zdiv at h
  split at h
  · split at h
    · cases h
    · rename_i hz
      cases h
      exact hw _ _ _ hz (S.go S.2.2.2.1 rfl)
  · cases h
theorem zs_lop2 {f : Int64 → Int64 → Int64} (S : zS p l e R s m args below meth c H locs cells slots Q B0 Hb Ex X y D mid ls lsA M q1) (h : zlop2 f pc ls st M = some (.inl q1))
    (hw : ∀ (x z : Int64) (r : List Value), W p l e R s m args below meth c H locs cells slots Q (F0 m (pc + 1) lsA (.long (f x z) :: r)) → W p l e R s m args below meth c H locs cells slots Q (F0 m pc lsA (.long z :: .long x :: r))) :
    W p l e R s m args below meth c H locs cells slots Q (F0 m pc lsA (st.map (zcv (zad B0 Ex)))) := by
  unfold zlop2 at h
  split at h
  · cases h
    exact hw _ _ _ (S.go S.2.2.2.1 rfl)
  · cases h
theorem zto_ok {off : Int} (h : decide (0 ≤ (pc : Int) + off) = true) : (pc : Int) + off = (zto pc off : Int) := by
  have := of_decide_eq_true h
  unfold zto; omega
theorem zs_jump {off : Int} {st2 : List Value} (S : zS p l e R s m args below meth c H locs cells slots Q B0 Hb Ex X y D mid ls lsA M q1) (h : zjump pc off ls st2 M = some (.inl q1))
    (hw : ∀ tgt : Nat, (pc : Int) + off = (tgt : Int) → W p l e R s m args below meth c H locs cells slots Q (F0 m tgt lsA (st2.map (zcv (zad B0 Ex)))) → W p l e R s m args below meth c H locs cells slots Q (F0 m pc lsA (st.map (zcv (zad B0 Ex))))) :
    W p l e R s m args below meth c H locs cells slots Q (F0 m pc lsA (st.map (zcv (zad B0 Ex)))) := by
  unfold zjump at h
  obtain ⟨h1, h2⟩ := zbif h (by intro q; cases q)
  cases h2
  exact hw _ (zto_ok h1) (S.go S.2.2.2.1 rfl)
theorem zs_if {cn : ClassFile.Cond} {off : Int} (S : zS p l e R s m args below meth c H locs cells slots Q B0 Hb Ex X y D mid ls lsA M q1) (h : zif cn pc off ls st M = some (.inl q1)) (hd : decode (zby mid) pc = .ok (.ifCond cn off, 3)) :
    W p l e R s m args below meth c H locs cells slots Q (F0 m pc lsA (st.map (zcv (zad B0 Ex)))) := by
  obtain ⟨hx, hb, -⟩ := S.1
  unfold zif at h
  split at h
  · rename_i x r
    obtain ⟨h1, h2⟩ := zbif h (by intro q; cases q)
    cases cn <;> unfold zcond at h2 <;> dsimp only at h2 <;> split at h2 <;> rename_i hc <;> cases h2
    · exact lv_if_eq hx hb hd (zto_ok h1) (fun _ => S.go S.2.2.2.1 rfl) (fun q => absurd hc q)
    · exact lv_if_eq hx hb hd (zto_ok h1) (fun q => absurd q hc) (fun _ => S.go S.2.2.2.1 rfl)
    · exact lv_if_ne hx hb hd (zto_ok h1) (fun q => absurd hc q) (fun _ => S.go S.2.2.2.1 rfl)
    · exact lv_if_ne hx hb hd (zto_ok h1) (fun _ => S.go S.2.2.2.1 rfl) (fun q => absurd q hc)
    · exact lv_if_lt hx hb hd (zto_ok h1) (fun _ => S.go S.2.2.2.1 rfl) (fun q => absurd hc q)
    · exact lv_if_lt hx hb hd (zto_ok h1) (fun q => absurd q hc) (fun _ => S.go S.2.2.2.1 rfl)
    · exact lv_if_ge hx hb hd (zto_ok h1) (fun _ => S.go S.2.2.2.1 rfl) (fun q => absurd hc q)
    · exact lv_if_ge hx hb hd (zto_ok h1) (fun q => absurd q hc) (fun _ => S.go S.2.2.2.1 rfl)
    · exact lv_if_gt hx hb hd (zto_ok h1) (fun _ => S.go S.2.2.2.1 rfl) (fun q => absurd hc q)
    · exact lv_if_gt hx hb hd (zto_ok h1) (fun q => absurd q hc) (fun _ => S.go S.2.2.2.1 rfl)
    · exact lv_if_le hx hb hd (zto_ok h1) (fun _ => S.go S.2.2.2.1 rfl) (fun q => absurd hc q)
    · exact lv_if_le hx hb hd (zto_ok h1) (fun q => absurd q hc) (fun _ => S.go S.2.2.2.1 rfl)
  · cases h
theorem zs_icmp {cn : ClassFile.Cond} {off : Int} (S : zS p l e R s m args below meth c H locs cells slots Q B0 Hb Ex X y D mid ls lsA M q1) (h : zific cn pc off ls st M = some (.inl q1)) (hd : decode (zby mid) pc = .ok (.if_icmp cn off, 3)) :
    W p l e R s m args below meth c H locs cells slots Q (F0 m pc lsA (st.map (zcv (zad B0 Ex)))) := by
  obtain ⟨hx, hb, -⟩ := S.1
  unfold zific at h
  split at h
  · rename_i x z r
    obtain ⟨h1, h2⟩ := zbif h (by intro q; cases q)
    cases cn <;> unfold zcond at h2 <;> dsimp only at h2 <;> split at h2 <;> rename_i hc <;> cases h2
    · exact lv_icmp_eq hx hb hd (zto_ok h1) (fun _ => S.go S.2.2.2.1 rfl) (fun q => absurd hc q)
    · exact lv_icmp_eq hx hb hd (zto_ok h1) (fun q => absurd q hc) (fun _ => S.go S.2.2.2.1 rfl)
    · exact lv_icmp_ne hx hb hd (zto_ok h1) (fun q => absurd hc q) (fun _ => S.go S.2.2.2.1 rfl)
    · exact lv_icmp_ne hx hb hd (zto_ok h1) (fun _ => S.go S.2.2.2.1 rfl) (fun q => absurd q hc)
    · exact lv_icmp_lt hx hb hd (zto_ok h1) (fun _ => S.go S.2.2.2.1 rfl) (fun q => absurd hc q)
    · exact lv_icmp_lt hx hb hd (zto_ok h1) (fun q => absurd q hc) (fun _ => S.go S.2.2.2.1 rfl)
    · exact lv_icmp_ge hx hb hd (zto_ok h1) (fun _ => S.go S.2.2.2.1 rfl) (fun q => absurd hc q)
    · exact lv_icmp_ge hx hb hd (zto_ok h1) (fun q => absurd q hc) (fun _ => S.go S.2.2.2.1 rfl)
    · exact lv_icmp_gt hx hb hd (zto_ok h1) (fun _ => S.go S.2.2.2.1 rfl) (fun q => absurd hc q)
    · exact lv_icmp_gt hx hb hd (zto_ok h1) (fun q => absurd q hc) (fun _ => S.go S.2.2.2.1 rfl)
    · exact lv_icmp_le hx hb hd (zto_ok h1) (fun _ => S.go S.2.2.2.1 rfl) (fun q => absurd hc q)
    · exact lv_icmp_le hx hb hd (zto_ok h1) (fun q => absurd q hc) (fun _ => S.go S.2.2.2.1 rfl)
  · cases h
end ZS1
theorem z_cl : ∀ c, c < 9 → vwCl[c]? = some (zcn c, zT c, zNf c) := fun c hc => match c, hc with
  | 0, _ => rfl
  | 1, _ => rfl
  | 2, _ => rfl
  | 3, _ => rfl
  | 4, _ => rfl
  | 5, _ => rfl
  | 6, _ => rfl
  | 7, _ => rfl
  | 8, _ => rfl
  | n + 9, h => absurd h (by omega)
theorem z_in : ∀ c, c < 9 → ∀ w ∈ u_ws (zcn c) (zT c) (zNf c), w ∈ zTs := fun c hc => match c, hc with
  | 0, _ => zin_X0
  | 1, _ => zin_X1
  | 2, _ => zin_X2
  | 3, _ => zin_X3
  | 4, _ => zin_X4
  | 5, _ => zin_X5
  | 6, _ => zin_X6
  | 7, _ => zin_X7
  | 8, _ => zin_X8
  | n + 9, h => absurd h (by omega)
theorem z_ty : ∀ c, c < 9 → ∀ k, k < zNf c → parseFieldDescriptor (zT c k).2.2.1 = some (zty c k) := fun c hc => match c, hc with
  | 0, _ => tyX0_ok
  | 1, _ => tyX1_ok
  | 2, _ => tyX2_ok
  | 3, _ => tyX3_ok
  | 4, _ => tyX4_ok
  | 5, _ => tyX5_ok
  | 6, _ => tyX6_ok
  | 7, _ => tyX7_ok
  | 8, _ => tyX8_ok
  | n + 9, h => absurd h (by omega)
theorem z_nm : ∀ c, c < 9 → ∀ a, a < zNf c → ∀ b, b < zNf c → a ≠ b → (zT c a).2.1 ≠ (zT c b).2.1 := fun c hc => match c, hc with
  | 0, _ => nmX0
  | 1, _ => nmX1
  | 2, _ => nmX2
  | 3, _ => nmX3
  | 4, _ => nmX4
  | 5, _ => nmX5
  | 6, _ => nmX6
  | 7, _ => nmX7
  | 8, _ => nmX8
  | n + 9, h => absurd h (by omega)
theorem zval_obj {ad : Nat → Nat} {M : zM} {a c k : Nat} (h : zkd M a = 10 + c) : zval ad M a k = (match zfk c k with
    | 2 => va_rf ((zri M a k).map ad)
    | _ => .int (M.2.1 a k)) := by
  unfold zval
  rw [if_pos (by omega), h, Nat.add_sub_cancel_left]
  rfl
section ZS2
variable {p : Program} {l : Launch} {e : Env} {R : Room} {s : State} {m : MethodId} {args : Array Value} {below : List Frame} {meth : Method} {c : Code} {H : Heap} {locs : List Loc} {cells slots : Nat} {Q : State → Prop}
variable {B0 : Nat} {Hb : Heap} {Ex : Nat → Nat} {X : zX} {y : Nat → ClassId} {D : va_G} {mid pc : Nat} {ls : zLs} {lsA : Array Slot} {st : List Value} {M : zM} {q1 : Nat × zLs × List Value × zM}
theorem zs_get {ci k index : Nat} (S : zS p l e R s m args below meth c H locs cells slots Q B0 Hb Ex X y D mid ls lsA M q1) (h : zfget pc ci k ls st M = some (.inl q1)) (hd : decode (zby mid) pc = .ok (.getfield index, 3))
    (hw : ci ≠ 90 → ci < 9 ∧ zFw (zoc mid, index, ci, k) ∈ zTs) (hj : ci = 90 → (zoc mid = 10 ∧ ((k = 0 ∧ index = 9) ∨ (¬ k = 0 ∧ index = 15)))) (hjw : Cond.fieldLink RJ0 9 "java/lang/String" "value" "[B" ∈ zTs ∧ Cond.fieldLink RJ0 15 "java/lang/String" "coder" "B" ∈ zTs) :
    W p l e R s m args below meth c H locs cells slots Q (F0 m pc lsA (st.map (zcv (zad B0 Ex)))) := by
  obtain ⟨hx, hb, hml, hown, hts, hini, hK, hE, -⟩ := S.1
  have hR := S.2.1
  unfold zfget at h
  split at h
  · rename_i a r
    cases h9 : Nat.beq ci 90 with
    | true =>
      rw [h9] at h
      obtain ⟨h1, h2⟩ := zbif h (by intro q; cases q)
      have e1 : ci = 90 := Nat.eq_of_beq_eq_true h9
      have e2 : a = 1001 := Nat.eq_of_beq_eq_true h1
      subst e2
      obtain ⟨j1, j2⟩ := hj e1
      have hown' : s.vm.findClass "java/lang/String" = some m.cls := by rw [j1] at hown; exact hown
      obtain ⟨-, -, -, ⟨-, ⟨cf, kf, i, f, cell, f1, f2, f3, f4, f5, f6⟩, ⟨cf', kf', i', f', cell', g1, g2, g3, g4, g5, g6⟩⟩, -⟩ := hE
      rcases j2 with ⟨rfl, rfl⟩ | ⟨hk0, rfl⟩
      · have h2' : zN (pc + 3) ls (.ref 1003 :: r) M = some (.inl q1) := h2
        cases h2'
        refine W.getf hx hb hown' (hts _ hjw.1) g1 g2 (a := Ex 1) (cell := cell') (v := .ref (Ex 3)) ?_ g4 g5 rfl rfl hd (S.go S.2.2.2.1 rfl)
        rw [hR.2.2.1 _ (Nat.not_le.mp g6)]; exact g3
      · have h2' : zN (pc + 3) ls (.int 0 :: r) M = some (.inl q1) := by
          rw [← h2]
          cases hk : Nat.beq k 0 with
          | true => exact absurd (Nat.eq_of_beq_eq_true hk) hk0
          | false => rfl
        cases h2'
        refine W.getf hx hb hown' (hts _ hjw.2) f1 f2 (a := Ex 1) (cell := cell) (v := .int 0) ?_ f4 f5 rfl rfl hd (S.go S.2.2.2.1 rfl)
        rw [hR.2.2.1 _ (Nat.not_le.mp f6)]; exact f3
    | false =>
      rw [h9] at h
      obtain ⟨h1, h2⟩ := zbif h (by intro q; cases q)
      obtain ⟨h1, hk⟩ := zband h1
      obtain ⟨ha, hkd⟩ := zband h1
      have hk : k < zNf ci := Nat.blt_eq.mp hk
      have ha : a < 1000 := Nat.blt_eq.mp ha
      have hkd : zkd M a = 10 + ci := Nat.eq_of_beq_eq_true hkd
      have hn9 : ci ≠ 90 := fun q => by rw [q] at h9; cases h9
      obtain ⟨hc9, hw⟩ := hw hn9
      obtain ⟨cell, t1, t2, t3, t4⟩ := hR.obj hkd hc9
      obtain ⟨hS, hfc, kC, hkC, hkind⟩ := hK.1 ci _ (z_cl ci hc9)
      obtain ⟨cf, kf, fi, f, hi, hsl⟩ := hS k hk
      have hv := t4 k hk
      rw [zval_obj hkd] at hv
      have fin : ∀ v : Value, cell.slots[D.2 ci k]? = some v → W p l e R s m args below meth c H locs cells slots Q (F0 m (pc + 3) lsA (v :: r.map (zcv (zad B0 Ex)))) → W p l e R s m args below meth c H locs cells slots Q (F0 m pc lsA ((.ref a :: r).map (zcv (zad B0 Ex)))) := fun v hv kk =>
        W.getf hx hb hown (hts _ hw) hi (u_facts hfc hkC (u_lays hts (z_in ci hc9) hk) hi).1 (a := zad B0 Ex a) t1 (by rw [t3]; intro q; cases q) (v := v) (by rw [hsl]; exact hv) rfl rfl hd kk
      split at h2
      · rename_i hf
        rw [hf] at hv
        cases h2
        exact fin _ hv (S.go S.2.2.2.1 rfl)
      · rename_i hf
        rw [hf] at hv
        cases h2
        exact fin _ hv (S.go S.2.2.2.1 rfl)
      · rename_i hf
        rw [hf] at hv
        unfold zrefr at h2
        split at h2
        · rename_i x hx2
          rw [hx2] at hv
          cases h2
          exact fin _ hv (S.go S.2.2.2.1 rfl)
        · cases h2
      · cases h2
  · cases h
def zkt : Nat → FieldType
  | 0 => .int
  | 1 => .byte
  | 2 => .short
  | 3 => .long
  | 4 => .object RX4
  | _ => .array .int
theorem zkt_arr (hK : va_K D vwCl (zys y) s) {kd : Nat} (h : kd < 6) : ArrOfT s (y kd) (zkt kd) ∧ va_RA s (y kd) (zkt kd) := match kd, h with
  | 0, _ => hK.2 0 _ rfl
  | 1, _ => hK.2 1 _ rfl
  | 2, _ => hK.2 2 _ rfl
  | 3, _ => hK.2 3 _ rfl
  | 4, _ => hK.2 4 _ rfl
  | 5, _ => hK.2 5 _ rfl
  | n + 6, h => absurd h (by omega)
theorem zval_i {ad : Nat → Nat} {a k : Nat} (h : zkd M a < 3) : zval ad M a k = .int (M.2.1 a k) := by
  unfold zval
  rw [if_neg (by omega)]
  split
  · rename_i q; omega
  · rename_i q; omega
  · rename_i q; omega
  · rfl
theorem zs_ald {kd : Nat} (hk3 : kd < 3) (S : zS p l e R s m args below meth c H locs cells slots Q B0 Hb Ex X y D mid ls lsA M q1) (h : ziald X kd pc ls st M = some (.inl q1))
    (hw : ∀ (a : Nat) (cell : Cell) (i : Int32) (v : Value) (r : List Value), H[a]? = some cell → s.isArrayOf cell (zkt kd) → cell.vm ≠ .unknown → ¬ (i < 0 ∨ cell.slots.size ≤ i.toNatClampNeg) → cell.slots[i.toNatClampNeg]? = some v → W p l e R s m args below meth c H locs cells slots Q (F0 m (pc + 1) lsA (v :: r)) → W p l e R s m args below meth c H locs cells slots Q (F0 m pc lsA (.int i :: .ref a :: r))) :
    W p l e R s m args below meth c H locs cells slots Q (F0 m pc lsA (st.map (zcv (zad B0 Ex)))) := by
  obtain ⟨hx, hb, hml, hown, hts, hini, hK, hE, -⟩ := S.1
  have hR := S.2.1
  unfold ziald at h
  split at h
  · rename_i i a r
    cases h9 : Nat.blt a 1000 with
    | true =>
      rw [h9] at h
      obtain ⟨h1, h2⟩ := zbif h (by intro q; cases q)
      obtain ⟨h3, h4⟩ := zbif h2 (by intro q; cases q)
      have hkd : zkd M a = kd := Nat.eq_of_beq_eq_true h1
      have hin := zin_in h3
      have hlt := zin_lt h3
      cases h4
      have hc := hR.arr (a := a) (by omega)
      refine hw (zad B0 Ex a) _ i (.int (zi M a i.toNatClampNeg)) _ hc ?_ (fun q => by cases q) ?_ ?_ (S.go S.2.2.2.1 rfl)
      · rw [hkd]; exact (zkt_arr hK (by omega)).1 _ _
      · rw [arrV_size]; exact hin
      · rw [arrV_read _ _ hlt, zval_i (by omega)]
    | false =>
      rw [h9] at h
      have h : (bif Nat.beq kd 0 && Nat.beq a 1000 then (bif zin i X.1 then zN (pc + 1) ls (.int (X.2 i.toNatClampNeg) :: r) M else none) else
        bif Nat.beq kd 0 && Nat.beq a 1002 then (bif zin i 8 then zN (pc + 1) ls (.int (zabove.getD i.toNatClampNeg 0) :: r) M else none) else
        bif Nat.beq kd 1 && Nat.beq a 1003 then (bif zin i 8 then zN (pc + 1) ls (.int (znames.getD i.toNatClampNeg 0) :: r) M else none) else none) = some (.inl q1) := h
      cases g1 : (Nat.beq kd 0 && Nat.beq a 1000) with
      | true =>
        rw [g1] at h
        obtain ⟨e1, e2⟩ := zband g1
        have e1 : kd = 0 := Nat.eq_of_beq_eq_true e1
        have e2 : a = 1000 := Nat.eq_of_beq_eq_true e2
        subst e1; subst e2
        have h : (bif zin i X.1 then zN (pc + 1) ls (.int (X.2 i.toNatClampNeg) :: r) M else none) = some (.inl q1) := h
        obtain ⟨h3, h4⟩ := zbif h (by intro q; cases q)
        cases h4
        obtain ⟨⟨hlt0, scr, x1, x2, x3, x4, x5⟩, -⟩ := hE
        refine hw (Ex 0) scr i (.int (X.2 i.toNatClampNeg)) _ (by rw [hR.2.2.1 _ hlt0]; exact x1) x2 x3 (by rw [x4]; exact zin_in h3) (x5 _ (zin_lt h3)) (S.go S.2.2.2.1 rfl)
      | false =>
        rw [g1] at h
        cases g2 : (Nat.beq kd 0 && Nat.beq a 1002) with
        | true =>
          rw [g2] at h
          obtain ⟨e1, e2⟩ := zband g2
          have e1 : kd = 0 := Nat.eq_of_beq_eq_true e1
          have e2 : a = 1002 := Nat.eq_of_beq_eq_true e2
          subst e1; subst e2
          have h : (bif zin i 8 then zN (pc + 1) ls (.int (zabove.getD i.toNatClampNeg 0) :: r) M else none) = some (.inl q1) := h
          obtain ⟨h3, h4⟩ := zbif h (by intro q; cases q)
          cases h4
          obtain ⟨-, ⟨cell, x1, x2, x3, x4, x5, x6, x7⟩, -⟩ := hE
          have hlt := zin_lt h3
          refine hw (Ex 2) cell i _ _ (by rw [hR.2.2.1 _ (Nat.not_le.mp x7)]; exact x1) x2 x3 (fun q => q.elim (fun q => zin_in h3 (Or.inl q)) (fun q => by omega)) (x6 _ hlt) (S.go S.2.2.2.1 rfl)
        | false =>
          rw [g2] at h
          have h7 : (bif (Nat.beq kd 1 && Nat.beq a 1003) then (bif zin i 8 then zN (pc + 1) ls (.int (znames.getD i.toNatClampNeg 0) :: r) M else none) else none) = some (.inl q1) := h
          obtain ⟨g3, h8⟩ := zbif (b := Nat.beq kd 1 && Nat.beq a 1003) (A := bif zin i 8 then zN (pc + 1) ls (.int (znames.getD i.toNatClampNeg 0) :: r) M else none) h7 (by intro q; cases q)
          obtain ⟨e1, e2⟩ := zband g3
          have e1 : kd = 1 := Nat.eq_of_beq_eq_true e1
          have e2 : a = 1003 := Nat.eq_of_beq_eq_true e2
          subst e1; subst e2
          obtain ⟨h3, h4⟩ := zbif h8 (by intro q; cases q)
          cases h4
          obtain ⟨-, -, ⟨cell, x1, x2, x3, x4, x5, x6, x7⟩, -⟩ := hE
          have hlt := zin_lt h3
          refine hw (Ex 3) cell i _ _ (by rw [hR.2.2.1 _ (Nat.not_le.mp x7)]; exact x1) x2 x3 (fun q => q.elim (fun q => zin_in h3 (Or.inl q)) (fun q => by omega)) (x6 _ hlt) (S.go S.2.2.2.1 rfl)
  · cases h
theorem zwi_out {a k : Nat} {x : Int32} : ∀ i, i ≠ a → zsh (zwi M a k x) i = zsh M i ∧ (zwi M a k x).2.1 i = M.2.1 i ∧ (zwi M a k x).2.2 i = M.2.2 i := fun i hi => ⟨rfl, if_neg hi, rfl⟩
theorem zwj_out {a k : Nat} {x : Int64} : ∀ i, i ≠ a → zsh (zwj M a k x) i = zsh M i ∧ (zwj M a k x).2.1 i = M.2.1 i ∧ (zwj M a k x).2.2 i = M.2.2 i := fun i hi => ⟨rfl, rfl, if_neg hi⟩
theorem zlocs {a k : Nat} (hL : ∀ q ∈ locs, zA B0 q.base) (ha : a < 1000) : ∀ q ∈ locs ++ [⟨zad B0 Ex a, k⟩], zA B0 q.base := by
  intro q hq
  rcases List.mem_append.mp hq with h | h
  · exact hL q h
  · rw [List.mem_singleton.mp h]
    show B0 ≤ zad B0 Ex a
    rw [zad_lt ha]; omega
/-- a store into an array: what the heap must hold behind it -/
theorem zs_put1 {a k : Nat} {M1 : zM} {x : Value} {pc1 : Nat} {ls1 : zLs} {st1 : List Value} {H1 : Heap} (S : zS p l e R s m args below meth c H locs cells slots Q B0 Hb Ex X y D mid ls lsA M (pc1, ls1, st1, M1)) (hls : ls1 = ls) (ha : a < 1000) (hkd : zkd M a < 10) (hM : M1.1 = M.1)
    (ho : ∀ i, i ≠ a → zsh M1 i = zsh M i ∧ M1.2.1 i = M.2.1 i ∧ M1.2.2 i = M.2.2 i) (hv : ∀ j, zval (zad B0 Ex) M1 a j = if j = k then x else zval (zad B0 Ex) M a j)
    (e1 : H1[zad B0 Ex a]? = some ((arrV (y (zkd M a)) (zln M a) (zval (zad B0 Ex) M a)).setSlot k x)) (e2 : H1.size = H.size) (e3 : ∀ q, q ≠ zad B0 Ex a → H1[q]? = H[q]?) :
    W p l e R s m args below meth c H1 (locs ++ [⟨zad B0 Ex a, k⟩]) cells slots Q (F0 m pc1 lsA (st1.map (zcv (zad B0 Ex)))) := by
  obtain ⟨hC, hR, hL, hl, -, -, kk⟩ := S
  subst hls
  have es : zsh M1 a = zsh M a := by unfold zsh; rw [hM]
  have ekd : zkd M1 a = zkd M a := by unfold zkd; rw [es]
  have eln : zln M1 a = zln M a := by unfold zln; rw [es]
  refine kk H1 _ lsA cells slots (hR.set (hR.lt (by omega)) (by rw [hM]) ?_ e2 e3 ho) (zlocs hL ha) hl (by show cells + M.1.length = cells + M1.1.length; rw [hM]) (by show slots + zsl M = slots + zsl M1; unfold zsl; rw [hM])
  unfold zat
  rw [ekd, eln, if_neg (by omega), e1, arrV_store, zval_up hv]
theorem zs_ast {kd : Nat} {g : Int32 → Int32} (hk3 : kd < 3) (S : zS p l e R s m args below meth c H locs cells slots Q B0 Hb Ex X y D mid ls lsA M q1) (h : ziast kd pc g ls st M = some (.inl q1))
    (hw : ∀ (a : Nat) (cell : Cell) (i x : Int32) (r : List Value), H[a]? = some cell → s.isArrayOf cell (zkt kd) → cell.vm ≠ .unknown → ¬ (i < 0 ∨ cell.slots.size ≤ i.toNatClampNeg) →
      (∀ H' : Heap, H'[a]? = some (cell.setSlot i.toNatClampNeg (.int (g x))) → H'.size = H.size → (∀ q, q ≠ a → H'[q]? = H[q]?) → W p l e R s m args below meth c H' (locs ++ [⟨a, i.toNatClampNeg⟩]) cells slots Q (F0 m (pc + 1) lsA r)) → W p l e R s m args below meth c H locs cells slots Q (F0 m pc lsA (.int x :: .int i :: .ref a :: r))) :
    W p l e R s m args below meth c H locs cells slots Q (F0 m pc lsA (st.map (zcv (zad B0 Ex)))) := by
  obtain ⟨hx, hb, hml, hown, hts, hini, hK, hE, -⟩ := S.1
  have hR := S.2.1
  unfold ziast at h
  split at h
  · rename_i x i a r
    obtain ⟨h0, h⟩ := zbif h (by intro q; cases q)
    obtain ⟨h1, h⟩ := zbif h (by intro q; cases q)
    obtain ⟨h2, h⟩ := zbif h (by intro q; cases q)
    have hkd : zkd M a = kd := Nat.eq_of_beq_eq_true h1
    have ha : a < 1000 := Nat.blt_eq.mp h0
    cases h
    refine hw (zad B0 Ex a) _ i x _ (hR.arr (a := a) (by omega)) ?_ (fun q => by cases q) ?_ fun H1 e1 e2 e3 => zs_put1 (k := i.toNatClampNeg) (x := .int (g x)) S rfl ha (by omega) rfl zwi_out (fun j => ?_) e1 e2 e3
    · rw [hkd]; exact (zkt_arr hK (by omega)).1 _ _
    · rw [arrV_size]; exact zin_in h2
    · have ek : zkd (zwi M a i.toNatClampNeg (g x)) a = zkd M a := rfl
      rw [zval_i (by omega), zval_i (by omega)]
      show Value.int (va_up M.2.1 a (upd (M.2.1 a) i.toNatClampNeg (g x)) a j) = _
      unfold va_up upd
      rw [if_pos rfl]
      split <;> rfl
  · cases h
theorem zval_j {ad : Nat → Nat} {a k : Nat} (h : zkd M a = 3) : zval ad M a k = .long (M.2.2 a k) := by
  unfold zval
  rw [if_neg (by omega), h]
  rfl
theorem zs_lald (S : zS p l e R s m args below meth c H locs cells slots Q B0 Hb Ex X y D mid ls lsA M q1) (h : zlald pc ls st M = some (.inl q1)) (hd : decode (zby mid) pc = .ok (.laload, 1)) :
    W p l e R s m args below meth c H locs cells slots Q (F0 m pc lsA (st.map (zcv (zad B0 Ex)))) := by
  obtain ⟨hx, hb, hml, hown, hts, hini, hK, hE, -⟩ := S.1
  have hR := S.2.1
  unfold zlald at h
  split at h
  · rename_i i a r
    obtain ⟨h0, h⟩ := zbif h (by intro q; cases q)
    obtain ⟨h1, h⟩ := zbif h (by intro q; cases q)
    obtain ⟨h2, h⟩ := zbif h (by intro q; cases q)
    have hkd : zkd M a = 3 := Nat.eq_of_beq_eq_true h1
    cases h
    have hc := hR.arr (a := a) (by omega)
    have ht := (zkt_arr hK (kd := 3) (by omega)).1
    rw [hkd] at hc
    exact W.lald (v := .long (zj M a i.toNatClampNeg)) hx hb (a := zad B0 Ex a) hc (ht _ _) (fun q => by cases q) (by rw [arrV_size]; exact zin_in h2) (by rw [arrV_read _ _ (zin_lt h2), zval_j hkd]) rfl rfl hd (S.go S.2.2.2.1 rfl)
  · cases h
theorem zs_last (S : zS p l e R s m args below meth c H locs cells slots Q B0 Hb Ex X y D mid ls lsA M q1) (h : zlast pc ls st M = some (.inl q1)) (hd : decode (zby mid) pc = .ok (.lastore, 1)) :
    W p l e R s m args below meth c H locs cells slots Q (F0 m pc lsA (st.map (zcv (zad B0 Ex)))) := by
  obtain ⟨hx, hb, hml, hown, hts, hini, hK, hE, -⟩ := S.1
  have hR := S.2.1
  unfold zlast at h
  split at h
  · rename_i x i a r
    obtain ⟨h0, h⟩ := zbif h (by intro q; cases q)
    obtain ⟨h1, h⟩ := zbif h (by intro q; cases q)
    obtain ⟨h2, h⟩ := zbif h (by intro q; cases q)
    have hkd : zkd M a = 3 := Nat.eq_of_beq_eq_true h1
    have ha : a < 1000 := Nat.blt_eq.mp h0
    cases h
    have hc := hR.arr (a := a) (by omega)
    have ht := (zkt_arr hK (kd := 3) (by omega)).1
    refine W.last hx hb (a := zad B0 Ex a) hc (by rw [hkd]; exact ht _ _) (fun q => by cases q) (by rw [arrV_size]; exact zin_in h2) rfl rfl hd fun H1 e1 e2 e3 => zs_put1 (k := i.toNatClampNeg) (x := .long x) S rfl ha (by omega) rfl zwj_out (fun j => ?_) e1 e2 e3
    have ek : zkd (zwj M a i.toNatClampNeg x) a = 3 := hkd
    rw [zval_j ek, zval_j hkd]
    show Value.long (va_up M.2.2 a (vp_updL (M.2.2 a) i.toNatClampNeg x) a j) = _
    unfold va_up vp_updL
    rw [if_pos rfl]
    split <;> rfl
  · cases h
theorem zval_q {ad : Nat → Nat} {a k : Nat} (h : zkd M a = 4 ∨ zkd M a = 5) : zval ad M a k = va_rf ((zri M a k).map ad) := by
  unfold zval
  rw [if_neg (by omega)]
  rcases h with h | h <;> rw [h] <;> rfl
theorem zs_aald (S : zS p l e R s m args below meth c H locs cells slots Q B0 Hb Ex X y D mid ls lsA M q1) (h : zaald pc ls st M = some (.inl q1)) (hd : decode (zby mid) pc = .ok (.aaload, 1)) :
    W p l e R s m args below meth c H locs cells slots Q (F0 m pc lsA (st.map (zcv (zad B0 Ex)))) := by
  obtain ⟨hx, hb, hml, hown, hts, hini, hK, hE, -⟩ := S.1
  have hR := S.2.1
  unfold zaald at h
  split at h
  · rename_i i a r
    obtain ⟨h0, h⟩ := zbif h (by intro q; cases q)
    obtain ⟨h1, h⟩ := zbif h (by intro q; cases q)
    obtain ⟨h2, h⟩ := zbif h (by intro q; cases q)
    have hkd : zkd M a = 4 ∨ zkd M a = 5 := by
      cases g : Nat.beq (zkd M a) 4 with
      | true => exact Or.inl (Nat.eq_of_beq_eq_true g)
      | false => rw [g] at h1; exact Or.inr (Nat.eq_of_beq_eq_true h1)
    have hc := hR.arr (a := a) (by omega)
    unfold zrefr at h
    split at h
    · rename_i x hx2
      cases h
      refine W.aald (v := .ref (zad B0 Ex x)) (ty := zkt (zkd M a)) hx hb (a := zad B0 Ex a) hc ((zkt_arr hK (by omega)).1 _ _) (by rcases hkd with g | g <;> rw [g] <;> rfl) (fun q => by cases q) (by rw [arrV_size]; exact zin_in h2) (by rw [arrV_read _ _ (zin_lt h2), zval_q hkd, hx2]; rfl) rfl rfl hd (S.go S.2.2.2.1 rfl)
    · cases h
  · cases h
end ZS2
