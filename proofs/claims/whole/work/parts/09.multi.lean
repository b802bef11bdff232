/-! new int[n][k] -/
theorem znews_fst {l : List zSh} : ∀ {M : zM}, (znews M l).1 = M.1 ++ l := by
  induction l with
  | nil => intro M; show M.1 = _; rw [List.append_nil]
  | cons s r ih =>
    intro M
    show (znews (znew M s) r).1 = _
    rw [ih]
    show (M.1 ++ [s]) ++ r = _
    rw [List.append_assoc]
    rfl
theorem znews_old {l : List zSh} : ∀ {M : zM} {i : Nat}, i < M.1.length → (znews M l).2.1 i = M.2.1 i ∧ (znews M l).2.2 i = M.2.2 i := by
  induction l with
  | nil => intro M i _; exact ⟨rfl, rfl⟩
  | cons s r ih =>
    intro M i hi
    have hl : (znew M s).1.length = M.1.length + 1 := by unfold znew; simp
    have h := ih (M := znew M s) (i := i) (by omega)
    refine ⟨h.1.trans ?_, h.2.trans ?_⟩
    · show va_up M.2.1 M.1.length _ i = _
      unfold va_up; rw [if_neg (by omega)]
    · show va_up M.2.2 M.1.length _ i = _
      unfold va_up; rw [if_neg (by omega)]
theorem znews_zero {l : List zSh} : ∀ {M : zM} {i : Nat}, M.1.length ≤ i → i < M.1.length + l.length → (znews M l).2.1 i = fun _ => 0 := by
  induction l with
  | nil => intro M i h1 h2; simp at h2; omega
  | cons s r ih =>
    intro M i h1 h2
    have hl : (znew M s).1.length = M.1.length + 1 := by unfold znew; simp
    rw [List.length_cons] at h2
    by_cases e : i = M.1.length
    · have h := (znews_old (l := r) (M := znew M s) (i := i) (by omega)).1
      refine h.trans ?_
      show va_up M.2.1 M.1.length _ i = _
      unfold va_up; rw [if_pos e]
    · exact ih (M := znew M s) (by omega) (by omega)
theorem zsumrep (N K : Nat) : (List.replicate N K).sum = N * K := by
  induction N with
  | zero => simp
  | succ n ih => rw [List.replicate_succ, List.sum_cons, ih, Nat.succ_mul]; omega
theorem zouter (c : ClassId) (N h0 : Nat) : ∀ i : Nat, Jvm.Free.Multi.outerC c N h0 i = arrV c N (fun j => va_rf (if j < i then some (h0 + 1 + j) else none))
  | 0 => by
    show ({ cls := c, slots := Array.replicate N .null, vm := .none } : Cell) = _
    rw [arrV_new]
    refine congrArg (arrV c N) (funext fun j => ?_)
    simp [va_rf]
  | i + 1 => by
    show (Jvm.Free.Multi.outerC c N h0 i).setSlot i (.ref (h0 + 1 + i)) = _
    rw [zouter c N h0 i, arrV_store]
    refine congrArg (arrV c N) (funext fun j => ?_)
    by_cases e : j = i
    · subst e
      simp [updV, va_rf]
    · by_cases h : j < i
      · have h2 : j < i + 1 := by omega
        simp [updV, e, h, h2]
      · have h2 : ¬ j < i + 1 := by omega
        simp [updV, e, h, h2]
theorem zarr_eq {cA : ClassId} {N : Nat} {f g : Nat → Value} (h : ∀ j, j < N → f j = g j) : arrV cA N f = arrV cA N g := by
  show ({ cls := cA, slots := Array.ofFn (n := N) fun j => f j.val, vm := .none } : Cell) = { cls := cA, slots := Array.ofFn (n := N) fun j => g j.val, vm := .none }
  have e : (fun j : Fin N => f j.val) = (fun j : Fin N => g j.val) := funext fun j => h j.val j.isLt
  rw [e]
section ZNM
variable {p : Program} {l : Launch} {e : Env} {R : Room} {s : State} {m : MethodId} {args : Array Value} {below : List Frame} {meth : Method} {c : Code} {H : Heap} {locs : List Loc} {cells slots : Nat} {Q : State → Prop}
variable {B0 : Nat} {Hb : Heap} {Ex : Nat → Nat} {X : zX} {y : Nat → ClassId} {D : va_G} {mid pc : Nat} {ls : zLs} {lsA : Array Slot} {st : List Value} {M : zM} {q1 : Nat × zLs × List Value × zM}
theorem zs_newm (S : zS p l e R s m args below meth c H locs cells slots Q B0 Hb Ex X y D mid ls lsA M q1) (h : znewm pc ls st M = some (.inl q1)) (hd : decode (zby mid) pc = .ok (.multianewarray 15 2, 4)) (ho : zoc mid = 2) :
    W p l e R s m args below meth c H locs cells slots Q (F0 m pc lsA (st.map (zcv (zad B0 Ex)))) := by
  unfold znewm at h
  split at h
  · rename_i k n r
    obtain ⟨h1, h⟩ := zbif h (by intro q; cases q)
    obtain ⟨h1, hlen⟩ := zband h1
    obtain ⟨h1, hK9⟩ := zband h1
    obtain ⟨h1, hN⟩ := zband h1
    obtain ⟨hn, hk⟩ := zband h1
    have hlen : M.1.length < 900 := Nat.blt_eq.mp hlen
    have hN : n.toNatClampNeg < 50 := Nat.blt_eq.mp hN
    have hK9 : k.toNatClampNeg < 10000 := Nat.blt_eq.mp hK9
    have hn : ¬ n < 0 := by simpa using hn
    have hk : ¬ k < 0 := by simpa using hk
    cases h
    obtain ⟨⟨hx, hb, hml, hown, hts, hini, hK, hE, hfr, hlo⟩, hR, hL, hl, hcs, hss, kk⟩ := S
    rw [ho] at hown
    have hAOA := hE.2.2.2.2.2.2.2.2.2
    generalize hNn : n.toNatClampNeg = N at *
    generalize hKk : k.toNatClampNeg = K at *
    generalize hr : (List.range N).map (fun i => some (M.1.length + 1 + i)) = refs at *
    have hM1 : (znews M ((5, N, refs) :: List.replicate N (0, K, []))).1 = M.1 ++ ((5, N, refs) :: List.replicate N (0, K, [])) := znews_fst
    have hll : (znews M ((5, N, refs) :: List.replicate N (0, K, []))).1.length = M.1.length + (1 + N) := by rw [hM1]; simp; omega
    have hzz : zsl (znews M ((5, N, refs) :: List.replicate N (0, K, []))) = zsl M + (N + N * K) := by
      unfold zsl
      rw [hM1]
      simp [List.map_replicate, zsumrep]
    dsimp only at hcs hss
    intro T hT XX
    have ec : "[" ++ (FieldType.array FieldType.int).toString = "[[I" := by decide
    have hmk : N * K ≤ 50 * 10000 := Nat.mul_le_mul (by omega) (by omega)
    obtain ⟨vm₁, cA, comp, -, fA, fC, hO, -, X', step⟩ := XX.multianewarray2F hx hown (index := 15) (ty := .int) (by rw [ec]; exact hts _ zw_mul) hAOA (hts _ zw_aI) (g := F0 m pc lsA ((Value.int k :: .int n :: r).map (zcv (zad B0 Ex)))) rfl (by rw [hb]; exact hd) (n := n) (k := k) rfl hn hk (by rw [hNn]; omega) (by rw [hKk]; show K * 4 ≤ _; omega) (by rw [hKk]; omega) rfl rfl (by rw [hNn]; omega) (by rw [hNn, hKk]; omega)
    rw [hNn, hKk] at X' step
    generalize hF : Jvm.Free.Multi.fill (T.setVm vm₁) cA comp N K (defaultValue .int) N = F at X' step
    have hTh : (T.setVm vm₁).heap = H := hT
    obtain ⟨f1, f2, -, -⟩ := Jvm.Free.Multi.fill_facts (T.setVm vm₁) cA comp N K (defaultValue .int) N
    rw [hF, hTh] at f1 f2
    have hold : ∀ x : Nat, x < H.size → F.heap[x]? = H[x]? := fun x hx => by
      have := Jvm.Free.Multi.fill_old (T.setVm vm₁) cA comp N K (defaultValue .int) (a := x) (by rw [hTh]; exact hx) N
      rw [hF, hTh] at this
      exact this
    have hrow : ∀ j : Nat, j < N → F.heap[H.size + 1 + j]? = some (arrV comp K (fun _ => .int 0)) := fun j hj => by
      have := Jvm.Free.Multi.fill_inner (T.setVm vm₁) cA comp N K (defaultValue .int) N j hj
      rw [hF, hTh] at this
      rw [this]
      show some ({ cls := comp, slots := Array.replicate K (.int 0), vm := .none } : Cell) = _
      rw [arrV_new]
    rw [zouter] at f2
    have e5 : cA = y 5 := by
      have h2 : s.vm.findClass ("[" ++ (FieldType.array FieldType.int).toString) = some (y 5) := (zkt_arr hK (kd := 5) (by omega)).2
      exact Option.some.inj (fA.symm.trans h2)
    have e0 : comp = y 0 := by
      have h2 : s.vm.findClass ("[" ++ FieldType.int.toString) = some (y 0) := (zkt_arr hK (kd := 0) (by omega)).2
      have h3 : (FieldType.array FieldType.int).toString = "[" ++ FieldType.int.toString := by decide
      rw [h3] at fC
      exact Option.some.inj (fC.symm.trans h2)
    rw [e5] at f2
    rw [e0] at hrow
    have hsz := hR.2.1
    have hRep : zRep B0 Hb Ex y D (znews M ((5, N, refs) :: List.replicate N (0, K, []))) F.heap := by
      refine ⟨by omega, by omega, fun q hq => (hold q (by omega)).trans (hR.2.2.1 q hq), fun i hi => ?_⟩
      rcases Nat.lt_or_ge i M.1.length with hi1 | hi1
      · obtain ⟨g1, g2⟩ := znews_old (l := (5, N, refs) :: List.replicate N (0, K, [])) hi1
        refine zat_same (hR.2.2.2 i hi1) ?_ g1 g2 (hold _ ?_)
        · unfold zsh
          rw [hM1, List.getElem?_append_left hi1]
        · rw [zad_lt (by omega)]; omega
      · by_cases hi2 : i = M.1.length
        · have es : zsh (znews M ((5, N, refs) :: List.replicate N (0, K, []))) i = (5, N, refs) := by
            unfold zsh
            rw [hM1, hi2, List.getElem?_append_right (Nat.le_refl _), Nat.sub_self]
            rfl
          have ek : zkd (znews M ((5, N, refs) :: List.replicate N (0, K, []))) i = 5 := by unfold zkd; rw [es]
          have en : zln (znews M ((5, N, refs) :: List.replicate N (0, K, []))) i = N := by unfold zln; rw [es]
          unfold zat
          rw [ek, en, if_neg (by omega), zad_lt (by omega), hi2, ← hsz, f2]
          congr 1
          refine zarr_eq fun j hj => ?_
          rw [← hi2, zval_q (Or.inr ek)]
          unfold zri
          rw [es]
          dsimp only
          rw [List.getD_eq_getElem?_getD, ← hr, List.getElem?_map, List.getElem?_range hj, if_pos hj]
          show va_rf (some (H.size + 1 + j)) = va_rf (some (zad B0 Ex (M.1.length + 1 + j)))
          rw [zad_lt (by omega), hsz]
          congr 2
          omega
        · have hj : i - M.1.length - 1 < N := by omega
          have es : zsh (znews M ((5, N, refs) :: List.replicate N (0, K, []))) i = (0, K, []) := by
            unfold zsh
            rw [hM1, List.getElem?_append_right hi1]
            obtain ⟨j, hj2⟩ : ∃ j, i - M.1.length = j + 1 := ⟨i - M.1.length - 1, by omega⟩
            rw [hj2, List.getElem?_cons_succ, List.getElem?_replicate, if_pos (by omega)]
            rfl
          have ek : zkd (znews M ((5, N, refs) :: List.replicate N (0, K, []))) i = 0 := by unfold zkd; rw [es]
          have en : zln (znews M ((5, N, refs) :: List.replicate N (0, K, []))) i = K := by unfold zln; rw [es]
          have hz := znews_zero (l := (5, N, refs) :: List.replicate N (0, K, [])) (M := M) (i := i) hi1 (by simp; omega)
          unfold zat
          rw [ek, en, if_neg (by omega), zad_lt (by omega), show B0 + i = H.size + 1 + (i - M.1.length - 1) by omega, hrow _ hj]
          congr 1
          refine zarr_eq fun j hj => ?_
          rw [zval_i (by omega), hz]
    obtain ⟨t, a1, b1⟩ := kk F.heap locs lsA (cells + 1 + N) (slots + N + N * K) hRep hL hl (by dsimp only; omega) (by dsimp only; omega) F rfl X'
    refine ⟨t, step t ?_, b1⟩
    have eh : T.heap.size = zad B0 Ex M.1.length := by rw [hT, zad_lt (by omega)]; exact hsz
    rw [eh]
    exact a1
  · cases h
end ZNM
