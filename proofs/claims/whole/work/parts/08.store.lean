/-! stores into objects, what is made, what a call without a frame of ours does -/
theorem zsl_wr {M : zM} {a k v : Nat} (h : a < M.1.length) : zsl (zwr M a k v) = zsl M := by
  unfold zsl zwr
  have e : M.1[a] = zsh M a := by unfold zsh; rw [List.getElem?_eq_getElem h]; rfl
  rw [List.map_set]
  congr 1
  have : (zsh M a).2.1 = (M.1.map fun s => s.2.1)[a]'(by simpa using h) := by simp [e]
  show (M.1.map fun s => s.2.1).set a (zsh M a).2.1 = _
  rw [this, List.set_getElem_self]
theorem zsh_wr {M : zM} {a k v : Nat} (h : a < M.1.length) : zsh (zwr M a k v) a = ((zsh M a).1, (zsh M a).2.1, (zsh M a).2.2.set k (some v)) := by
  unfold zwr
  show (((M.1.set a _)[a]?).getD (99, 0, [])) = _
  rw [List.getElem?_set_self h]; rfl
theorem zsh_wr_ne {M : zM} {a k v i : Nat} (h : i ≠ a) : zsh (zwr M a k v) i = zsh M i := by
  unfold zwr
  show (((M.1.set a _)[i]?).getD (99, 0, [])) = _
  rw [List.getElem?_set_ne (Ne.symm h)]; rfl
theorem zri_wr {M : zM} {a k v j : Nat} (h : a < M.1.length) (hk : k < (zsh M a).2.2.length) : zri (zwr M a k v) a j = if j = k then some v else zri M a j := by
  unfold zri
  rw [zsh_wr h]
  show ((zsh M a).2.2.set k (some v)).getD j none = _
  rw [List.getD_eq_getElem?_getD, List.getD_eq_getElem?_getD]
  by_cases e : j = k
  · subst e
    rw [if_pos rfl, List.getElem?_set_self hk]; rfl
  · rw [if_neg e, List.getElem?_set_ne (Ne.symm e)]
theorem zsl_new {M : zM} {s : zSh} : zsl (znew M s) = zsl M + s.2.1 := by
  unfold zsl znew
  simp
theorem z_fk : ∀ c, c < 9 → ∀ k, k < zNf c → zfk c k ≠ 3 ∧ zfk c k < 3 := by decide +kernel
theorem zfk_ty {c k : Nat} : (zfk c k = 0 → zty c k = .int) ∧ (zfk c k = 1 → zty c k = .boolean) ∧ (zfk c k = 2 → (∃ C, zty c k = .object C) ∨ ∃ t, zty c k = .array t) := by
  unfold zfk
  cases zty c k <;> simp
section ZS3
variable {p : Program} {l : Launch} {e : Env} {R : Room} {s : State} {m : MethodId} {args : Array Value} {below : List Frame} {meth : Method} {c : Code} {H : Heap} {locs : List Loc} {cells slots : Nat} {Q : State → Prop}
variable {B0 : Nat} {Hb : Heap} {Ex : Nat → Nat} {X : zX} {y : Nat → ClassId} {D : va_G} {mid pc : Nat} {ls : zLs} {lsA : Array Slot} {st : List Value} {M : zM} {q1 : Nat × zLs × List Value × zM}
theorem zRep.cls (hR : zRep B0 Hb Ex y D M H) {a ci : Nat} (h : zkd M a = 10 + ci) (hci : ci < 80) : ci < 9 := by
  have hal : a < M.1.length := hR.lt (by omega)
  have h4 := hR.2.2.2 a hal
  unfold zat at h4
  rw [if_pos (by omega)] at h4
  have := h4.1
  omega
/-- a store into an object -/
theorem zs_put2 {a ci : Nat} {M1 : zM} {pc1 : Nat} {ls1 : zLs} {st1 : List Value} {H1 : Heap} (S : zS p l e R s m args below meth c H locs cells slots Q B0 Hb Ex X y D mid ls lsA M (pc1, ls1, st1, M1)) (hls : ls1 = ls) (ha : a < 1000) (hc9 : ci < 9) (hkd : zkd M1 a = 10 + ci) (hal : a < M.1.length) (hM : M1.1.length = M.1.length) (hz : zsl M1 = zsl M)
    (ho : ∀ i, i ≠ a → zsh M1 i = zsh M i ∧ M1.2.1 i = M.2.1 i ∧ M1.2.2 i = M.2.2 i) (hob : t_OB (zad B0 Ex a) (D.1 ci) (zNf ci) (D.2 ci) H1 (zval (zad B0 Ex) M1 a)) (e2 : H1.size = H.size) (e3 : ∀ q, q ≠ zad B0 Ex a → H1[q]? = H[q]?) {j : Nat} :
    W p l e R s m args below meth c H1 (locs ++ [⟨zad B0 Ex a, j⟩]) cells slots Q (F0 m pc1 lsA (st1.map (zcv (zad B0 Ex)))) := by
  obtain ⟨hC, hR, hL, hl, -, -, kk⟩ := S
  subst hls
  refine kk H1 _ lsA cells slots (hR.set hal hM ?_ e2 e3 ho) (zlocs hL ha) hl (by show cells + M.1.length = cells + M1.1.length; rw [hM]) (by show slots + zsl M = slots + zsl M1; rw [hz])
  show zat (zad B0 Ex) y D M1 a H1
  unfold zat
  rw [if_pos (by omega), hkd, Nat.add_sub_cancel_left]
  exact ⟨by omega, hob⟩
theorem zs_put {ci k index : Nat} (hci : ci < 80) (S : zS p l e R s m args below meth c H locs cells slots Q B0 Hb Ex X y D mid ls lsA M q1) (h : zfput mid pc ci k ls st M = some (.inl q1)) (hd : decode (zby mid) pc = .ok (.putfield index, 3))
    (hw : zFw (zoc mid, index, ci, k) ∈ zTs) :
    W p l e R s m args below meth c H locs cells slots Q (F0 m pc lsA (st.map (zcv (zad B0 Ex)))) := by
  obtain ⟨hx, hb, hml, hown, hts, hini, hK, hE, -⟩ := S.1
  have hR := S.2.1
  unfold zfput at h
  split at h
  · rename_i x a r
    obtain ⟨h1, h⟩ := zbif h (by intro q; cases q)
    obtain ⟨h1, hfin⟩ := zband h1
    obtain ⟨h1, hk⟩ := zband h1
    obtain ⟨ha, hkd⟩ := zband h1
    have hk : k < zNf ci := Nat.blt_eq.mp hk
    have ha : a < 1000 := Nat.blt_eq.mp ha
    have hkd : zkd M a = 10 + ci := Nat.eq_of_beq_eq_true hkd
    have hfin : (zT ci k).2.2.2 = false := by simpa using hfin
    have hc9 := hR.cls hkd hci
    have hal : a < M.1.length := hR.lt (by omega)
    obtain ⟨cell, t1, t2, t3, t4⟩ := hR.obj hkd hc9
    obtain ⟨hS, hfc, kC, hkC, hkind⟩ := hK.1 ci _ (z_cl ci hc9)
    obtain ⟨cf, kf, fi, f, hi, hsl⟩ := hS k hk
    have hap := va_apart (own := zcn ci) hts (z_in ci hc9) (zty ci) (z_ty ci hc9) (z_nm ci hc9) hK (z_cl ci hc9)
    have hlay := hts _ (z_in ci hc9 _ (u_in_lay hk))
    unfold u_lay at hlay
    rw [if_neg (by rw [hfin]; decide)] at hlay
    have hst := (u_facts hfc hkC (u_lays hts (z_in ci hc9) hk) hi).1
    have fin : ∀ (v : Int32), zfk ci k < 2 → narrow (zty ci k) (.int v) = .int v → fits (zty ci k) (.int v) = true → q1 = (pc + 3, ls, r, zwi M a k v) → W p l e R s m args below meth c H locs cells slots Q (F0 m pc lsA ((.int v :: .ref a :: r).map (zcv (zad B0 Ex)))) := by
      intro v hf hn hfit hq
      subst hq
      have h6 := u_store hfc hkC hkind hlay hi (z_ty ci hc9 k hk) hn hfit
      refine W.putK hx hb (f := f) ⟨hown, hts _ hw, ⟨_, _, _, hi⟩, hst⟩ (by rw [t2]; exact h6) (a := zad B0 Ex a) t1 t3 (by rw [hsl]; exact k2_hasslot (t4 k hk)) rfl rfl hd fun H1 e1 e2 e3 => ?_
      rw [hsl] at e1 ⊢
      refine zs_put2 S rfl ha hc9 (ci := ci) hkd hal rfl rfl zwi_out (t_OB.to (V := updV (zval (zad B0 Ex) M a) k (.int v)) ⟨_, e1, t2, t3, t_set t4 hap hk _⟩ (fun j hj => ?_)) e2 e3
      rw [zval_obj (M := zwi M a k v) hkd]
      unfold updV
      by_cases ej : j = k
      · subst ej
        rw [if_pos rfl]
        have : (zwi M a j v).2.1 a j = v := by
          show va_up M.2.1 a (upd (M.2.1 a) j v) a j = v
          unfold va_up upd
          rw [if_pos rfl, if_pos rfl]
        rw [this]
        split
        · rename_i q; omega
        · rfl
      · rw [if_neg ej, zval_obj hkd]
        have : (zwi M a k v).2.1 a j = M.2.1 a j := by
          show va_up M.2.1 a (upd (M.2.1 a) k v) a j = _
          unfold va_up upd
          rw [if_pos rfl, if_neg ej]
        rw [this]
        rfl
    split at h
    · rename_i hf
      cases h
      exact fin x (by omega) (by rw [(zfk_ty).1 hf]; rfl) (by rw [(zfk_ty).1 hf]; rfl) rfl
    · rename_i hf
      split at h
      · rename_i h01
        cases h
        refine fin x (by omega) ?_ ?_ rfl <;> rw [(zfk_ty).2.1 hf] <;> rcases h01 with rfl | rfl <;> rfl
      · cases h
    · cases h
  · rename_i v a r
    obtain ⟨h1, h⟩ := zbif h (by intro q; cases q)
    obtain ⟨h1, hv⟩ := zband h1
    obtain ⟨h1, hkl⟩ := zband h1
    obtain ⟨h1, hf⟩ := zband h1
    obtain ⟨h1, hoc⟩ := zband h1
    obtain ⟨h1, hkn⟩ := zband h1
    obtain ⟨h1, hfin⟩ := zband h1
    obtain ⟨h1, hk⟩ := zband h1
    obtain ⟨ha, hkd⟩ := zband h1
    have hk : k < zNf ci := Nat.blt_eq.mp hk
    have hkl : k < (zsh M a).2.2.length := Nat.blt_eq.mp hkl
    have ha : a < 1000 := Nat.blt_eq.mp ha
    have hkd : zkd M a = 10 + ci := Nat.eq_of_beq_eq_true hkd
    have hf : zfk ci k = 2 := Nat.eq_of_beq_eq_true hf
    have hoc : zoc mid = ci := Nat.eq_of_beq_eq_true hoc
    have hkn : zkn mid = 2 := Nat.eq_of_beq_eq_true hkn
    have hc9 := hR.cls hkd hci
    have hal : a < M.1.length := hR.lt (by omega)
    obtain ⟨cell, t1, t2, t3, t4⟩ := hR.obj hkd hc9
    obtain ⟨hS, hfc, kC, hkC, hkind⟩ := hK.1 ci _ (z_cl ci hc9)
    obtain ⟨cf, kf, fi, f, hi, hsl⟩ := hS k hk
    have hap := va_apart (own := zcn ci) hts (z_in ci hc9) (zty ci) (z_ty ci hc9) (z_nm ci hc9) hK (z_cl ci hc9)
    have hlay := hts _ (z_in ci hc9 _ (u_in_lay hk))
    unfold u_lay at hlay
    rw [if_pos hfin] at hlay
    have hst := (u_facts hfc hkC (u_lays hts (z_in ci hc9) hk) hi).1
    have hdecl : (zT ci k).1 = zcn (zoc mid) := by
      rw [hoc]
      exact (by decide +kernel : ∀ c, c < 9 → ∀ k, k < zNf c → (zT c k).1 = zcn c) ci hc9 k hk
    have hcf : m.cls = cf := by
      obtain ⟨_, _, c', _, _, _, -, -, hf', -, -, -, hown2, -⟩ := Cond.laysFinal_spec hlay
      have e1 : c' = cf := by have := hi.symm.trans hf'; simp at this; exact this.1.symm
      rw [hdecl] at hown2
      rw [← e1]; exact Option.some.inj (hown.symm.trans hown2)
    have hn : narrow (zty ci k) (.ref (zad B0 Ex v)) = .ref (zad B0 Ex v) ∧ fits (zty ci k) (.ref (zad B0 Ex v)) = true := by
      rcases (zfk_ty).2.2 hf with ⟨C, q⟩ | ⟨t, q⟩ <;> rw [q] <;> exact ⟨rfl, rfl⟩
    have h6 := u_fits hfc hkC hkind (Or.inr hlay) hi (z_ty ci hc9 k hk) hn.1 hn.2
    cases h
    refine W.putFinK hx hb hown (hts _ hw) hi hst hcf (hini hkn) (by rw [t2]; exact h6) (a := zad B0 Ex a) t1 t3 (by rw [hsl]; exact k2_hasslot (t4 k hk)) rfl rfl hd fun H1 e1 e2 e3 => ?_
    rw [hsl] at e1 ⊢
    have ekd : zkd (zwr M a k v) a = 10 + ci := by unfold zkd; rw [zsh_wr hal]; exact hkd
    refine zs_put2 S rfl ha hc9 (ci := ci) ekd hal (by unfold zwr; simp) (zsl_wr hal) (fun i hi => ⟨zsh_wr_ne hi, rfl, rfl⟩) (t_OB.to (V := updV (zval (zad B0 Ex) M a) k (.ref (zad B0 Ex v))) ⟨_, e1, t2, t3, t_set t4 hap hk _⟩ (fun j hj => ?_)) e2 e3
    rw [zval_obj ekd, zri_wr hal hkl]
    unfold updV
    by_cases ej : j = k
    · subst ej
      rw [if_pos rfl, hf, if_pos rfl]
      rfl
    · rw [if_neg ej, if_neg ej, zval_obj hkd]
      rfl
  · cases h
theorem zs_aast (S : zS p l e R s m args below meth c H locs cells slots Q B0 Hb Ex X y D mid ls lsA M q1) (h : zaast pc ls st M = some (.inl q1)) (hd : decode (zby mid) pc = .ok (.aastore, 1)) :
    W p l e R s m args below meth c H locs cells slots Q (F0 m pc lsA (st.map (zcv (zad B0 Ex)))) := by
  obtain ⟨hx, hb, hml, hown, hts, hini, hK, hE, -⟩ := S.1
  have hR := S.2.1
  unfold zaast at h
  split at h
  · rename_i v i a r
    obtain ⟨h1, h⟩ := zbif h (by intro q; cases q)
    obtain ⟨h1, hkl⟩ := zband h1
    obtain ⟨h1, hin⟩ := zband h1
    obtain ⟨h1, hkv⟩ := zband h1
    obtain ⟨h1, hka⟩ := zband h1
    obtain ⟨ha, hv⟩ := zband h1
    have ha : a < 1000 := Nat.blt_eq.mp ha
    have hkl : i.toNatClampNeg < (zsh M a).2.2.length := Nat.blt_eq.mp hkl
    have hka : zkd M a = 4 := Nat.eq_of_beq_eq_true hka
    have hkv : zkd M v = 10 + 4 := Nat.eq_of_beq_eq_true hkv
    have hal : a < M.1.length := hR.lt (by omega)
    have hlt := zin_lt hin
    cases h
    obtain ⟨cellV, g1, g2, g3, -⟩ := hR.obj hkv (by omega)
    have hcls := (hK.1 4 _ (z_cl 4 (by omega))).2
    obtain ⟨kA, comp, k1, k2, k3, -⟩ := (zkt_arr hK (kd := 4) (by omega)).2
    have hcomp : comp = D.1 4 := Option.some.inj (k3.symm.trans hcls.1)
    subst hcomp
    obtain ⟨kC, hkC, -⟩ := hcls.2
    have hc := hR.arr (a := a) (by omega)
    refine W.aast hx hb (a := zad B0 Ex a) hc (fun q h => by cases h) (fun h => by cases h) (by rw [hka]; exact k1) k2 rfl hkC ⟨fun q => zin_in hin (Or.inl q), by rw [arrV_size]; exact hlt⟩ (v := zad B0 Ex v) g1 (fun q h => by rw [g3] at h; cases h) (by rw [g2]; exact hkC) (by rw [g2]; exact va_assign hcls) rfl rfl hd fun H1 e1 e2 e3 => ?_
    obtain ⟨hC, -, hL, hl, -, -, kk⟩ := S
    have ekd : zkd (zwr M a i.toNatClampNeg v) a = 4 := by unfold zkd; rw [zsh_wr hal]; exact hka
    have eln : zln (zwr M a i.toNatClampNeg v) a = zln M a := by unfold zln; rw [zsh_wr hal]
    refine kk H1 _ lsA cells slots (hR.set hal (by unfold zwr; simp) ?_ e2 e3 (fun i hi => ⟨zsh_wr_ne hi, rfl, rfl⟩)) (zlocs hL ha) hl (by show cells + M.1.length = cells + (zwr M a _ v).1.length; unfold zwr; simp) (by show slots + zsl M = slots + zsl (zwr M a _ v); rw [zsl_wr hal])
    unfold zat
    rw [ekd, eln, if_neg (by omega), e1, arrV_store, hka]
    rw [← zval_up (M' := zwr M a i.toNatClampNeg v)]
    intro j
    rw [zval_q (Or.inl ekd), zval_q (Or.inl hka), zri_wr hal hkl]
    split <;> rfl
  · cases h
theorem zs_new {ci index : Nat} (hci : ci < 80) (S : zS p l e R s m args below meth c H locs cells slots Q B0 Hb Ex X y D mid ls lsA M q1) (h : znewo pc ci ls st M = some (.inl q1)) (hd : decode (zby mid) pc = .ok (.new index, 3))
    (hw : zNw (zoc mid, index, ci) ∈ zTs) (hi : Cond.instantiable (zcn ci) (zNf ci) ∈ zTs) (hz : Cond.initialized (zcn ci) ∈ zTs) :
    W p l e R s m args below meth c H locs cells slots Q (F0 m pc lsA (st.map (zcv (zad B0 Ex)))) := by
  obtain ⟨hx, hb, hml, hown, hts, hini, hK, hE, -⟩ := S.1
  have hR := S.2.1
  unfold znewo at h
  obtain ⟨h1, h⟩ := zbif h (by intro q; cases q)
  obtain ⟨h1, hc9⟩ := zband h1
  have hlen : M.1.length < 900 := Nat.blt_eq.mp h1
  have hc9 : ci < 9 := Nat.blt_eq.mp hc9
  cases h
  obtain ⟨-, -, hL, hl, hcs, hss, kk⟩ := S
  have hKn := hK.1 ci _ (z_cl ci hc9)
  have ez : zsl (znew M (10 + ci, zNf ci, List.replicate (zNf ci) none)) = zsl M + zNf ci := zsl_new
  have el : (znew M (10 + ci, zNf ci, List.replicate (zNf ci) none)).1.length = M.1.length + 1 := by unfold znew; simp
  dsimp only at hcs hss
  refine W.newcK hx hb hown (hts _ hw) (hts _ hi) (hts _ hz) rfl hd (by omega) (by omega) hKn.2.1 (h := zad B0 Ex M.1.length) (by rw [zad_lt (by omega)]; exact hR.2.1) fun H1 kC hkC e1 z1 o1 => ?_
  have hsz : H.size = zad B0 Ex M.1.length := by rw [zad_lt (by omega)]; exact hR.2.1
  refine kk H1 locs lsA (cells + 1) (slots + zNf ci) (hR.push (by omega) ?_ (by omega) (fun q hq => o1 q (by omega))) hL hl (by dsimp only; omega) (by dsimp only; omega)
  have ekd : zkd (znew M (10 + ci, zNf ci, List.replicate (zNf ci) none)) M.1.length = 10 + ci := by unfold zkd; rw [zsh_new_at]
  unfold zat
  rw [if_pos (by omega), ekd, Nat.add_sub_cancel_left]
  refine ⟨by omega, (u_born (zty ci) hts (z_in ci hc9) hKn hkC e1 (z_ty ci hc9)).to fun j hj => ?_⟩
  rw [zval_obj ekd]
  have e0 : (znew M (10 + ci, zNf ci, List.replicate (zNf ci) none)).2.1 M.1.length j = 0 := by
    unfold znew va_up
    dsimp only
    rw [if_pos rfl]
  have er : zri (znew M (10 + ci, zNf ci, List.replicate (zNf ci) none)) M.1.length j = none := by
    unfold zri
    rw [zsh_new_at]
    dsimp only
    rw [List.getD_eq_getElem?_getD]
    cases hg : (List.replicate (zNf ci) (none : Option Nat))[j]? with
    | none => rfl
    | some o =>
      have := List.mem_of_getElem? hg
      rw [List.eq_of_mem_replicate this]; rfl
  rw [e0, er]
  have h3 := (z_fk ci hc9 j hj).2
  rcases (by omega : zfk ci j = 0 ∨ zfk ci j = 1 ∨ zfk ci j = 2) with g | g | g
  · rw [(zfk_ty).1 g, g]; rfl
  · rw [(zfk_ty).2.1 g, g]; rfl
  · rw [g]
    rcases (zfk_ty).2.2 g with ⟨C, q⟩ | ⟨t, q⟩ <;> rw [q] <;> rfl
theorem zs_newarr {H1 : Heap} {kd N : Nat} {rs : List (Option Nat)} {f : Nat → Value} {pc1 : Nat} {st1 : List Value} (S : zS p l e R s m args below meth c H locs cells slots Q B0 Hb Ex X y D mid ls lsA M (pc1, ls, st1, znew M (kd, N, rs))) (hlen : M.1.length < 900) (hkd : kd < 10) (e1 : H1[zad B0 Ex M.1.length]? = some (arrV (y kd) N f)) (hf : ∀ j, zval (zad B0 Ex) (znew M (kd, N, rs)) M.1.length j = f j) (z1 : H1.size = H.size + 1) (o1 : ∀ q, q < H.size → H1[q]? = H[q]?) :
    W p l e R s m args below meth c H1 locs (cells + 1) (slots + N) Q (F0 m pc1 lsA (st1.map (zcv (zad B0 Ex)))) := by
  obtain ⟨-, hR, hL, hl, hcs, hss, kk⟩ := S
  have ez : zsl (znew M (kd, N, rs)) = zsl M + N := zsl_new
  have el : (znew M (kd, N, rs)).1.length = M.1.length + 1 := by unfold znew; simp
  refine kk H1 locs lsA (cells + 1) (slots + N) (hR.push (by omega) ?_ z1 o1) hL hl (by dsimp only; omega) (by dsimp only; omega)
  have ekd : zkd (znew M (kd, N, rs)) M.1.length = kd := by unfold zkd; rw [zsh_new_at]
  have eln : zln (znew M (kd, N, rs)) M.1.length = N := by unfold zln; rw [zsh_new_at]
  unfold zat
  rw [ekd, eln, if_neg (by omega), e1]
  congr 2
  funext j
  exact (hf j).symm
end ZS3
