/-! THE ABSTRACT MEMORY ON THE HEAP: object i lies at zad i; what each place holds -/
def zad (B0 : Nat) (Ex : Nat → Nat) (i : Nat) : Nat := if i < 1000 then B0 + i else Ex (i - 1000)
def zcv (ad : Nat → Nat) : Value → Value
  | .ref a => .ref (ad a)
  | v => v
def zval (ad : Nat → Nat) (M : zM) (i k : Nat) : Value :=
  if 10 ≤ zkd M i then (match zfk (zkd M i - 10) k with
    | 2 => va_rf ((zri M i k).map ad)
    | _ => .int (M.2.1 i k))
  else match zkd M i with
    | 3 => .long (M.2.2 i k)
    | 4 => va_rf ((zri M i k).map ad)
    | 5 => va_rf ((zri M i k).map ad)
    | _ => .int (M.2.1 i k)
def zat (ad : Nat → Nat) (y : Nat → ClassId) (D : va_G) (M : zM) (i : Nat) (H : Heap) : Prop :=
  if 10 ≤ zkd M i then zkd M i < 19 ∧ t_OB (ad i) (D.1 (zkd M i - 10)) (zNf (zkd M i - 10)) (D.2 (zkd M i - 10)) H (zval ad M i)
  else H[ad i]? = some (arrV (y (zkd M i)) (zln M i) (zval ad M i))
def zRep (B0 : Nat) (Hb : Heap) (Ex : Nat → Nat) (y : Nat → ClassId) (D : va_G) (M : zM) (H : Heap) : Prop :=
  M.1.length ≤ 1000 ∧ H.size = B0 + M.1.length ∧ (∀ q, q < B0 → H[q]? = Hb[q]?) ∧ ∀ i, i < M.1.length → zat (zad B0 Ex) y D M i H
theorem zad_lt {B0 : Nat} {Ex : Nat → Nat} {i : Nat} (h : i < 1000) : zad B0 Ex i = B0 + i := if_pos h
theorem zval_same {ad : Nat → Nat} {M M' : zM} {i : Nat} (h1 : zsh M' i = zsh M i) (h2 : M'.2.1 i = M.2.1 i) (h3 : M'.2.2 i = M.2.2 i) : zval ad M' i = zval ad M i := by
  funext k
  unfold zval zri zkd
  rw [h1, h2, h3]
theorem zat_same {ad : Nat → Nat} {y : Nat → ClassId} {D : va_G} {M M' : zM} {i : Nat} {H H1 : Heap} (h : zat ad y D M i H) (h1 : zsh M' i = zsh M i) (h2 : M'.2.1 i = M.2.1 i) (h3 : M'.2.2 i = M.2.2 i) (hq : H1[ad i]? = H[ad i]?) : zat ad y D M' i H1 := by
  have e1 : zkd M' i = zkd M i := by unfold zkd; rw [h1]
  have e2 : zln M' i = zln M i := by unfold zln; rw [h1]
  unfold zat at h ⊢
  rw [e1, e2, zval_same h1 h2 h3]
  split
  · rename_i hk
    rw [if_pos hk] at h
    exact ⟨h.1, h.2.kept hq⟩
  · rename_i hk
    rw [if_neg hk] at h
    rw [hq]; exact h
section ZREP
variable {B0 : Nat} {Hb : Heap} {Ex : Nat → Nat} {y : Nat → ClassId} {D : va_G} {M M' : zM} {H H1 : Heap}
theorem zRep.lt (h : zRep B0 Hb Ex y D M H) {a : Nat} (ha : zkd M a < 99) : a < M.1.length := by
  rcases Nat.lt_or_ge a M.1.length with q | q
  · exact q
  · exfalso
    have : zkd M a = 99 := by
      unfold zkd zsh
      rw [List.getElem?_eq_none q]
      rfl
    omega
theorem zRep.set (h : zRep B0 Hb Ex y D M H) {a : Nat} (ha : a < M.1.length) (hl : M'.1.length = M.1.length) (he : zat (zad B0 Ex) y D M' a H1) (hz : H1.size = H.size) (oq : ∀ q : Nat, q ≠ zad B0 Ex a → H1[q]? = H[q]?) (ho : ∀ i, i ≠ a → zsh M' i = zsh M i ∧ M'.2.1 i = M.2.1 i ∧ M'.2.2 i = M.2.2 i) : zRep B0 Hb Ex y D M' H1 := by
  obtain ⟨h1, h2, h3, h4⟩ := h
  have ea : zad B0 Ex a = B0 + a := zad_lt (by omega)
  refine ⟨by omega, by omega, fun q hq => (oq q (by omega)).trans (h3 q hq), fun i hi => ?_⟩
  by_cases hia : i = a
  · subst hia; exact he
  · obtain ⟨g1, g2, g3⟩ := ho i hia
    refine zat_same (h4 i (by omega)) g1 g2 g3 (oq _ ?_)
    rw [zad_lt (by omega), ea]; omega
theorem zsh_new {M : zM} {s : zSh} {i : Nat} (h : i < M.1.length) : zsh (znew M s) i = zsh M i := by
  unfold zsh znew
  rw [List.getElem?_append_left h]
theorem zsh_new_at {M : zM} {s : zSh} : zsh (znew M s) M.1.length = s := by
  unfold zsh znew
  rw [List.getElem?_append_right (Nat.le_refl _), Nat.sub_self]
  rfl
theorem zRep.push (h : zRep B0 Hb Ex y D M H) {s : zSh} (hl : M.1.length < 1000) (he : zat (zad B0 Ex) y D (znew M s) M.1.length H1) (hz : H1.size = H.size + 1) (oq : ∀ q : Nat, q < H.size → H1[q]? = H[q]?) : zRep B0 Hb Ex y D (znew M s) H1 := by
  obtain ⟨h1, h2, h3, h4⟩ := h
  have el : (znew M s).1.length = M.1.length + 1 := by unfold znew; simp
  refine ⟨by omega, by omega, fun q hq => (oq q (by omega)).trans (h3 q hq), fun i hi => ?_⟩
  rcases Nat.lt_or_ge i M.1.length with hia | hia
  · refine zat_same (h4 i hia) (zsh_new hia) ?_ ?_ (oq _ ?_)
    · show va_up M.2.1 M.1.length _ i = _
      unfold va_up; rw [if_neg (by omega)]
    · show va_up M.2.2 M.1.length _ i = _
      unfold va_up; rw [if_neg (by omega)]
    · rw [zad_lt (by omega)]; omega
  · have : i = M.1.length := by omega
    subst this; exact he
/-- an array's cell -/
theorem zRep.arr (h : zRep B0 Hb Ex y D M H) {a : Nat} (hk : zkd M a < 10) : H[zad B0 Ex a]? = some (arrV (y (zkd M a)) (zln M a) (zval (zad B0 Ex) M a)) := by
  have h4 := h.2.2.2 a (h.lt (by omega))
  unfold zat at h4
  rw [if_neg (by omega)] at h4
  exact h4
/-- an object's cell -/
theorem zRep.obj (h : zRep B0 Hb Ex y D M H) {a c : Nat} (hk : zkd M a = 10 + c) (hc : c < 9) : t_OB (zad B0 Ex a) (D.1 c) (zNf c) (D.2 c) H (zval (zad B0 Ex) M a) := by
  have h4 := h.2.2.2 a (h.lt (by omega))
  unfold zat at h4
  rw [if_pos (by omega), hk, Nat.add_sub_cancel_left] at h4
  exact h4.2
end ZREP
def zys (y : Nat → ClassId) : List (ClassId × FieldType) := [(y 0, .int), (y 1, .byte), (y 2, .short), (y 3, .long), (y 4, .object RX4), (y 5, .array .int)]
def zA (B0 : Nat) : Nat → Prop := fun q => B0 ≤ q
def zAOA (U : State) : Prop := (Cond.arrayOver (.array .int)).before #[] U = true
theorem zaoA {U : State} (h : zAOA U) : ∃ comp c k, U.vm.findClass (FieldType.array .int).toString = some comp ∧ (U.vm.classes.findIdx? fun (x : Class) => match x.kind with | .array component _ => component == comp | _ => false) = some c ∧ U.vm.classes[c]? = some k ∧ k.kind = .array comp (.array .int) ∧ U.vm.findClass ("[" ++ (FieldType.array .int).toString) = some c := by
  unfold zAOA Cond.before at h
  simp only [Cond.holds, Cond.value, beq_iff_eq] at h
  cases hc : U.vm.findClass (FieldType.array .int).toString with
  | none => simp [hc] at h
  | some comp =>
    simp only [hc, Option.bind_some, Option.bind_eq_some_iff, Option.map_eq_some_iff] at h
    obtain ⟨c, hi, k, hk, hb⟩ := h
    obtain ⟨hlt, hp, -⟩ := Array.findIdx?_eq_some_iff_getElem.mp hi
    have hkk : U.vm.classes[c] = k := (Array.getElem?_eq_some_iff.mp hk).2
    rw [hkk] at hp
    cases hkind : k.kind with
    | array component ty =>
      rw [hkind] at hb hp
      simp at hb hp
      exact ⟨comp, c, k, rfl, hi, hk, by rw [hkind, hp, hb.1], hb.2⟩
    | _ => rw [hkind] at hp; simp at hp
theorem zAOA.moved {u U : State} (hvm : u.vm.Alike U.vm) (h : zAOA u) : zAOA U := by
  obtain ⟨comp, c, k, h1, h2, h3, h4, h5⟩ := zaoA h
  obtain ⟨k', hk', he⟩ := hvm.2.2 _ _ h3
  have hi : (U.vm.classes.findIdx? fun (x : Class) => match x.kind with | .array component _ => component == comp | _ => false) = some c := by
    have e0 : u.vm.bare = U.vm.bare := by first | exact hvm.bare_eq | exact hvm.bare_eq.symm
    have g1 := va_idx_bare U.vm comp
    have g2 := va_idx_bare u.vm comp
    rw [e0] at g2
    exact g1.symm.trans (g2.trans h2)
  have hkind : k'.kind = .array comp (.array .int) := by rw [he]; exact h4
  have f1 : U.vm.findClass (FieldType.array .int).toString = some comp := by rw [hvm.findClass]; exact h1
  have f2 : U.vm.findClass ("[" ++ (FieldType.array .int).toString) = some c := by rw [hvm.findClass]; exact h5
  unfold zAOA Cond.before Cond.holds
  simp only [Cond.value]
  rw [f1, Option.bind_some]
  refine (congrArg (fun o : Option Nat => (o.bind (fun c => (U.vm.classes[c]?).map fun (k : Class) => match k.kind with | .array _ ty => decide (ty = FieldType.array .int) && decide (U.vm.findClass ("[" ++ (FieldType.array .int).toString) = some c) | _ => false) == some true)) hi).trans ?_
  simp [hk', hkind, f2]
def zExt (B0 : Nat) (Hb : Heap) (Ex : Nat → Nat) (X : zX) (s : State) : Prop :=
  (Ex 0 < B0 ∧ va_X (Ex 0) X.1 X.2 s Hb) ∧ va_T .int (Ex 2) 8 (fun j => .int (zabove.getD j 0)) (zA B0) s Hb ∧ va_T .byte (Ex 3) 8 (fun j => .int (znames.getD j 0)) (zA B0) s Hb ∧
  (va_O "java/lang/String" (Ex 1) (zA B0) s Hb ∧ va_OF "java/lang/String" "coder" "B" (.int 0) (Ex 1) (zA B0) s Hb ∧ va_OF "java/lang/String" "value" "[B" (.ref (Ex 3)) (Ex 1) (zA B0) s Hb) ∧
  va_Z RX0 "ABOVE" "[I" (.ref (Ex 2)) (zA B0) s Hb ∧ va_Z "java/lang/String" "COMPACT_STRINGS" "Z" (.int 1) (zA B0) s Hb ∧ vk_R RX2 72 "mkwqnfoh" (Ex 1) s ∧
  (∀ e ∈ zXT, va_Nw (.methodLinkNest (zcn e.1) e.2.1 (zmn e.2.2) RX7) s) ∧ va_AO RX4 s ∧ zAOA s
