/-! LAW(): what is joined, level by level; the whole of E -/
theorem part5_ok {nl T o D n : Nat} {g : yI → Option yI} (h : yRE nl T o D ((F22 n).2.1 (yn o)) g) : yRE nl T o D ((F22 (n + 1)).1 5 (yn o)) g := by
  intro p sz la A B hS
  show y2 (bf22_readPart (F22 n) 5 (yn o) A) (g B) _
  unfold bf22_readPart
  rw [if_neg (by decide)]
  exact guard_ok (h p sz la A B hS)
theorem ylv_bin {b l : Nat} (hl : l < 5) (h : ylv b = yn l) : yBin b ∧ b < 128 := by
  unfold ylv at h
  unfold yBin
  by_cases c1 : b = 124
  · omega
  rw [if_neg c1] at h
  by_cases c2 : b = 38
  · omega
  rw [if_neg c2] at h
  by_cases c3 : b = 60 ∨ b = 61 ∨ b = 62
  · omega
  rw [if_neg c3] at h
  by_cases c4 : b = 43 ∨ b = 45
  · omega
  rw [if_neg c4] at h
  by_cases c5 : b = 42 ∨ b = 47 ∨ b = 37
  · omega
  rw [if_neg c5] at h
  exact absurd h.symm (yn_ne1 (by omega))
/-- a round of the class's loop, by the byte that comes -/
theorem body_eq {rc : ((Int32 → Int32 → (Nat → Nat → Int32) → Option (Int32 × (Nat → Nat → Int32))) × (Int32 → (Nat → Nat → Int32) → Option (Int32 × (Nat → Nat → Int32))) × (Int32 → Int32 → (Nat → Nat → Int32) → Option (Int32 × (Nat → Nat → Int32))))} {v1 v2 v3 j : Int32} {A : yI} {b : Nat} (hb : b < 257) (n1 : f28_next A = some (yc b)) : f22_readPart_L39 rc v1 v2 v3 (j, A) = if v3 ≤ j then some (.inr (.inl (j, A))) else if v1 = ylv b then (Option.bind (rc.1 (v1 + 1) v2 (zu A 15 4 ((A 15 4) + 1))) fun t10 => if t10.1 = 0 then some (.inl (0, t10.2)) else Option.bind (f29_write (20000 + yc b) t10.2) fun t12 => some (.inr (.inr ((j + 1), t12)))) else some (.inr (.inl (j, A))) := by
  unfold f22_readPart_L39
  simp only [n1, ob, t_lvl b hb]
/-- a sign and what stands behind it -/
theorem join_step {nl T o D n p p0 sz0 la0 b : Nat} {f : yI → Option (Int32 × yI)} {g : yI → Option yI} {A0 B0 A B : yI} (j : Int32) (hf : yRE nl T o D f g) (hD : 1 ≤ D) (hb : yBin b) (h0 : la0 ≤ p0 ∧ sz0 ≤ p0) (hp : p < T) (kA : yk (wA nl sz0) A0 A) (kB : yk (wB la0) B0 B) (hG : yGd nl T p0 sz0 la0 o (D + 1) p n A B) : y2 (Option.bind (f (zu A 15 4 ((A 15 4) + 1))) fun t10 => if t10.1 = 0 then some (.inl ((0 : Int32), t10.2)) else Option.bind (f29_write (20000 + yn b) t10.2) fun t12 => some (.inr (.inr ((j + 1), t12)))) (Option.bind (g (zu B 73 20 (B 73 20 + 1))) fun t => f141_addStep (yn b) 0 t) (fun (z : (Int32 × yI) ⊕ ((Int32 × yI) ⊕ (Int32 × yI))) u => (∃ t p' n', z = .inr (.inr (j + 1, t)) ∧ p < p' ∧ yk (wA nl sz0) A0 t ∧ yk (wB la0) B0 u ∧ yGd nl T p0 sz0 la0 o (D + 1) p' n' t u) ∨ (∃ t p', yk (wA nl 0) A0 t ∧ yk (wB 0) B0 u ∧ yBd nl T p0 la0 p' t u ∧ (z = .inl (0, t) ∨ (z = .inr (.inr (j + 1, t)) ∧ yDg T p' t)))) := by
  obtain ⟨⟨hn1, hn2⟩, hS, hGG⟩ := hG
  have hb128 : b < 128 := by
    unfold yBin at hb
    omega
  have hT := hS.1.1
  obtain ⟨q1, q2, q3⟩ := adv_ok (sz0 + n) (la0 + n) hS hp
  refine y2_bind (hf _ _ _ _ _ q1) ?_
  rintro ⟨x1, A2⟩ y h
  dsimp only
  rcases h with ⟨h1, kA2, kB2, p', n', ⟨hm1, hm2⟩, hS', hG'⟩ | ⟨kA2, kB2, p', ⟨hp', hB⟩, h⟩
  · dsimp only at h1 kA2 kB2 hS' hG'
    subst h1
    obtain ⟨hC', ⟨g1, g2, g3, g4⟩, ⟨a1, a2⟩, ⟨b1, b2, b3, b4⟩⟩ := hS'
    rw [if_neg (by decide), write_ok hC' a2 (by omega), ob, add_ok b4 (by omega) hb128]
    have i1 : sz0 + n + n' = sz0 + (n + n') := by omega
    have i2 : la0 + n + n' = la0 + (n + n') := by omega
    have i3 : 520 + (la0 + n) = 520 + la0 + n := by omega
    have i4 : 520 + (la0 + (n + n')) = 520 + la0 + (n + n') := by omega
    rw [i1, i2, i4]
    rw [i1] at a2
    rw [i2] at b4
    rw [i3] at hG'
    have kA1 : yk (wA nl (sz0 + n)) A A2 := yk_trans q2 kA2 (fun _ _ z => z)
    have kB1 : yk (wB (la0 + n)) B y := yk_trans q3 kB2 (fun _ _ z => z)
    have kA3 : yk (wA nl (sz0 + n)) A (zu (zu A2 (18 + nl) (sz0 + (n + n')) (20000 + yn b)) 22 nl (yn (sz0 + (n + n') + 1))) := yk_zu (by unfold wA; omega) (yk_zu (by unfold wA; omega) kA1)
    have kB3 : yk (wB (la0 + n)) B (zu (zu (zu y 86 (520 + la0 + (n + n')) (yn b)) 87 (520 + la0 + (n + n')) 0) 73 23 (yn (la0 + (n + n') + 1))) := yk_zu (by unfold wB; omega) (yk_zu (by unfold wB; omega) (yk_zu (by unfold wB; omega) kB1))
    refine y2_some (Or.inl ⟨_, p', n + n' + 1, rfl, by omega, yk_trans kA kA3 (wA_le (by omega)), yk_trans kB kB3 (wB_le (by omega)), ⟨by omega, by omega⟩, ⟨yC_k hS.1 kA3 kB3, ⟨g1, by omega, by omega, g4⟩, ⟨?_, zu_same _ _ _ _⟩, ⟨?_, ?_, ?_, zu_same _ _ _ _⟩⟩, ?_⟩)
    · rw [zu_ne (by omega), zu_ne (by omega)]; exact a1
    · rw [zu_nej (by omega), zu_ne (by omega), zu_ne (by omega)]; exact b1
    · rw [zu_nej (by omega), zu_ne (by omega), zu_ne (by omega)]; exact b2
    · rw [zu_nej (by omega), zu_ne (by omega), zu_ne (by omega)]; exact b3
    · refine yG_bin (D := D + 1) (D' := D) (yG_cg hGG (fun j hj => ?_) (fun j hj => ?_) (fun j hj => ?_)) (yG_cg hG' (fun j hj => ?_) (fun j hj => ?_) (fun j hj => ?_)) (by omega) (by omega) (by omega) ?_
      · exact kA3 _ _ (by unfold wA; omega)
      · exact kB3 _ _ (by unfold wB; omega)
      · exact kB3 _ _ (by unfold wB; omega)
      · rw [zu_ne (by omega), zu_nej (by omega)]
      · rw [zu_ne (by omega), zu_ne (by omega), zu_nej (by omega)]
      · rw [zu_ne (by omega), zu_nej (by omega), zu_ne (by omega)]
      · rw [zu_ne (by omega), zu_same, zu_ne (by omega), zu_ne (by omega), zu_same, zu_ne (by omega), zu_same]
        exact Or.inr (Or.inr (Or.inr (Or.inr ⟨b, hb, rfl, by omega, rfl, yn_add 20000 b⟩)))
  · dsimp only at kA2 hB h
    obtain ⟨hC', hpT, a1, ⟨s', hs', a2⟩, b1, b2, l', hl', b3⟩ := id hB
    have kA' : yk (wA nl 0) A0 A2 := yk_trans (yk_trans (wA0 kA) (wA0 q2) (fun _ _ z => z)) kA2 (fun _ _ z => z)
    have kB' : yk (wB 0) B0 y := yk_trans (yk_trans (wB0 kB) (wB0 q3) (fun _ _ z => z)) kB2 (fun _ _ z => z)
    rcases h with h | ⟨h, hd, b', hb1, hb2⟩
    · subst h
      obtain ⟨u, u1, u2, u3⟩ := bad_add (p0 := p0) (la0 := la0) hb128 (by omega) hB (by omega) (by omega) (yk_refl (W := wA nl 0) A2) rfl ⟨s', hs', a2⟩ 0
      rw [if_pos rfl, u1]
      exact y2_some (Or.inr ⟨A2, p', kA', yk_trans kB' u3 (fun _ _ z => z), u2, Or.inl rfl⟩)
    · subst h
      obtain ⟨A3, w1, w2, w3, w4⟩ := write_any hC' a2 hs' (20000 + yn b)
      obtain ⟨u, u1, u2, u3⟩ := bad_add (p0 := p0) (la0 := la0) hb128 (by omega) hB (by omega) (by omega) w2 w3 w4 0
      rw [if_neg (by decide), w1, ob, u1]
      refine y2_some (Or.inr ⟨A3, p', yk_trans kA' w2 (fun _ _ z => z), yk_trans kB' u3 (fun _ _ z => z), u2, Or.inr ⟨rfl, hd, b', hb1, ?_⟩⟩)
      rw [w2 16 p' (by unfold wA; omega)]
      exact hb2
/-- a loop of the reference by what comes -/
def yGs (l : Nat) (g : yI → Option yI) (G : yI → Option (yI ⊕ yI)) : Prop := (∀ B, 0 ≤ B 73 21 → G B = some (.inl B)) ∧ (∀ B b, b < 257 → B 73 21 = -1 → f139_look B = some (yd b) → G B = if ylv b = yn l then Option.bind (Option.bind (g (zu B 73 20 (B 73 20 + 1))) fun t => f141_addStep (yn b) 0 t) fun u => some (.inr u) else some (.inl B))
def yLQ (nl T p0 sz0 la0 o D : Nat) (A B : yI) : (Int32 × yI) ⊕ (Int32 × yI) → yI → Prop
  | .inl x, y => x.1 = 0 ∧ yOut nl T p0 sz0 la0 o D A B x y
  | .inr x, y => yOut nl T p0 sz0 la0 o D A B (1, x.2) y
theorem zloop_sum {σ : Type} {B : σ → Option (σ ⊕ σ)} {n : Nat} {s : σ} : zloop B (n + 1) s = match B s with
    | none => none
    | some (.inl x) => some x
    | some (.inr s') => zloop B n s' := rfl
/-- both leave a loop where a digit stands that no text goes on with -/
theorem stuck_ok {nl T o D p0 sz0 la0 p l k : Nat} {rc : ((Int32 → Int32 → (Nat → Nat → Int32) → Option (Int32 × (Nat → Nat → Int32))) × (Int32 → (Nat → Nat → Int32) → Option (Int32 × (Nat → Nat → Int32))) × (Int32 → Int32 → (Nat → Nat → Int32) → Option (Int32 × (Nat → Nat → Int32))))} {A0 B0 A B : yI} {v2 v3 : Int32} (j : Int32) (hl : l < 5) (kA : yk (wA nl 0) A0 A) (kB : yk (wB 0) B0 B) (hB : yBd nl T p0 la0 p A B) (hd : yDg T p A) : ∃ x, zloopR (f22_readPart_L39 rc (yn l) v2 v3) (k + 1) (j, A) = some (.inr x) ∧ yOut nl T p0 sz0 la0 o D A0 B0 (1, x.2) B := by
  obtain ⟨hd1, b, hb1, hb2⟩ := hd
  have hb3 := ydg_t.mp hb1
  have n1 : f28_next A = some (yc b) := by
    rw [yc_n (by omega)]
    exact nx_ok hB.2.1 hd1 hB.2.2.2.1 hb2
  refine ⟨(j, A), ?_, Or.inr ⟨kA, kB, p, hB, Or.inr ⟨rfl, hd1, b, hb1, hb2⟩⟩⟩
  refine zloopR_out ?_
  rw [body_eq (by omega) n1, ydg_lv hb1, if_neg (show ¬ yn l = -1 from yn_ne1 (by omega)), ite_self]
theorem join_loop {nl T o D n l p0 sz0 la0 : Nat} {A0 B0 : yI} {g : yI → Option yI} {G : yI → Option (yI ⊕ yI)} (hl : l < 5) (hf : yRE nl T o D ((F22 n).1 (yn l + 1) (yn o)) g) (hG : yGs l g G) (hD : 1 ≤ D) (h0 : la0 ≤ p0 ∧ sz0 ≤ p0) : ∀ (r k1 k2 : Nat), r < k1 → r < k2 → ∀ (j p m : Nat) (A B : yI), T - p ≤ r → j < p → yk (wA nl sz0) A0 A → yk (wB la0) B0 B → yGd nl T p0 sz0 la0 o (D + 1) p m A B → y2 (zloopR (f22_readPart_L39 (F22 n) (yn l) (yn o) 120) k1 (yn j, A)) (zloop G k2 B) (yLQ nl T p0 sz0 la0 o (D + 1) A0 B0) := by
  intro r
  induction r with
  | zero =>
    intro k1 k2 h1 h2 j p m A B hr hj kA kB hGd
    obtain ⟨k1, rfl⟩ : ∃ k, k1 = k + 1 := ⟨k1 - 1, by omega⟩
    obtain ⟨k2, rfl⟩ : ∃ k, k2 = k + 1 := ⟨k2 - 1, by omega⟩
    obtain ⟨hC', ⟨g1, g2, g3, g4⟩, ⟨a1, a2⟩, ⟨b1, b2, b3, b4⟩⟩ := id hGd.2.1
    obtain ⟨b, hb, n1, n2, n3⟩ := ch_ok hC' g1 a1 b1
    have : p = T := by omega
    have : b = 256 := by omega
    subst this
    have e1 : ¬ yn l = ylv 256 := yn_ne1 (by omega)
    rw [zloopR_out (s := (yn j, A)) (x := (yn j, A)) (by rw [body_eq hb n1, if_neg e1, ite_self]), zloop_out (s := B) (x := B) (by rw [hG.2 B 256 hb b2 n2, if_neg (fun z => e1 z.symm)])]
    exact y2_some (Or.inl ⟨rfl, kA, kB, p, m, hGd⟩)
  | succ r ih =>
    intro k1 k2 h1 h2 j p m A B hr hj kA kB hGd
    obtain ⟨k1, rfl⟩ : ∃ k, k1 = k + 1 := ⟨k1 - 1, by omega⟩
    obtain ⟨k2, rfl⟩ : ∃ k, k2 = k + 1 := ⟨k2 - 1, by omega⟩
    obtain ⟨hC', ⟨g1, g2, g3, g4⟩, ⟨a1, a2⟩, ⟨b1, b2, b3, b4⟩⟩ := id hGd.2.1
    obtain ⟨b, hb, n1, n2, n3⟩ := ch_ok hC' g1 a1 b1
    have hT := hC'.1
    by_cases e : ylv b = yn l
    · obtain ⟨hbin, hb128⟩ := ylv_bin hl e
      have hpT : p < T := by omega
      have j120 : ¬ (120 : Int32) ≤ yn j := by
        show ¬ yn 120 ≤ yn j
        rw [yn_le (by omega) (by omega)]; omega
      have step := join_step (yn j) hf hD hbin h0 hpT kA kB hGd
      obtain ⟨z, u, s1, s2, s3⟩ := step
      rw [zloopR_succ, body_eq hb n1, if_neg j120, if_pos e.symm, show (20000 + yc b) = 20000 + yn b by rw [yc_n (by omega)], s1, zloop_sum, hG.2 B b hb b2 n2, if_pos e, s2, ob]
      dsimp only
      rcases s3 with ⟨t, p', n', rfl, hpp, kA', kB', hG'⟩ | ⟨t, p', kA', kB', hB', hz⟩
      · dsimp only
        rw [yn_succ]
        exact ih k1 k2 (by omega) (by omega) (j + 1) p' n' t u (by omega) (by omega) kA' kB' hG'
      · obtain ⟨k1, rfl⟩ : ∃ k, k1 = k + 1 := ⟨k1 - 1, by omega⟩
        obtain ⟨k2, rfl⟩ : ∃ k, k2 = k + 1 := ⟨k2 - 1, by omega⟩
        have hu : (0 : Int32) ≤ u 73 21 := by
          rw [hB'.2.2.2.2.2.2.1]
          exact yn_pos (by have := hB'.2.2.1; omega)
        rw [zloop_out (s := u) (x := u) (hG.1 u hu)]
        rcases hz with rfl | ⟨rfl, hd⟩
        · exact y2_some ⟨rfl, Or.inr ⟨kA', kB', p', hB', Or.inl rfl⟩⟩
        · dsimp only
          obtain ⟨x, x1, x2⟩ := stuck_ok (o := o) (D := D + 1) (sz0 := sz0) (rc := F22 n) (v2 := yn o) (v3 := 120) (k := k1) (yn j + 1) hl kA' kB' hB' hd
          rw [x1]
          exact y2_some x2
    · rw [zloopR_out (s := (yn j, A)) (x := (yn j, A)) (by rw [body_eq hb n1, if_neg (show ¬ yn l = ylv b from fun z => e z.symm), ite_self]), zloop_out (s := B) (x := B) (by rw [hG.2 B b hb b2 n2, if_neg e])]
      exact y2_some (Or.inl ⟨rfl, kA, kB, p, m, hGd⟩)
theorem yGd_mono {nl T p0 sz0 la0 o D E p n : Nat} {A B : yI} (h : yGd nl T p0 sz0 la0 o D p n A B) (hD : D ≤ E) : yGd nl T p0 sz0 la0 o E p n A B := ⟨h.1, h.2.1, yG_mono h.2.2 hD⟩
theorem join_ok {nl T o D n l : Nat} {g : yI → Option yI} {G : yI → Option (yI ⊕ yI)} (hl : l < 5) (hl2 : ¬ l = 2) (hf : yRE nl T o D ((F22 n).1 (yn l + 1) (yn o)) g) (hG : yGs l g G) (hD : 1 ≤ D) : yRE nl T o (D + 1) ((F22 (n + 1)).1 (yn l) (yn o)) (fun I => Option.bind (g I) fun t2 => Option.bind (zloop G 5000 t2) fun s => some s) := by
  intro p sz la A B hS
  show y2 (bf22_readPart (F22 n) (yn l) (yn o) A) _ _
  unfold bf22_readPart
  have l5 : yn l < (5 : Int32) := by
    show yn l < yn 5
    rw [yn_lt (by omega) (by omega)]; omega
  have l2 : ¬ yn l = (2 : Int32) := by
    show ¬ yn l = yn 2
    rw [yn_inj (by omega) (by omega)]; omega
  rw [if_pos l5]
  have hb0 := hS.2.1
  refine y2_bind (hf p sz la A B hS) ?_
  rintro ⟨x1, A2⟩ y h
  dsimp only
  rw [if_neg l2]
  rcases h with ⟨h1, kA2, kB2, p', n', hGd⟩ | ⟨kA2, kB2, p', hB, h⟩
  · dsimp only at h1 kA2 kB2 hGd
    subst h1
    rw [if_neg (by decide)]
    have hT := hGd.2.1.1.1
    obtain ⟨z, u, s1, s2, s3⟩ := join_loop hl hf hG hD ⟨hb0.2.2.1, hb0.2.1⟩ (T - p') 5000 5000 (by omega) (by omega) 0 p' n' A2 y (by omega) (by have := hGd.1; omega) kA2 kB2 (yGd_mono hGd (by omega))
    rw [show ((0 : Int32), A2) = (yn 0, A2) from rfl, s1, s2, ob]
    rcases z with z | z
    · exact y2_some s3.2
    · exact y2_some s3
  · dsimp only at kA2 hB h
    have hu : (0 : Int32) ≤ y 73 21 := by
      rw [hB.2.2.2.2.2.2.1]
      exact yn_pos (by have := hB.2.2.1; have := hB.2.1.1; omega)
    rw [zloop_out (n := 4999) (s := y) (x := y) (hG.1 y hu), ob]
    rcases h with h | ⟨h, hd⟩
    · subst h
      rw [if_pos rfl]
      exact y2_some (Or.inr ⟨kA2, kB2, p', hB, Or.inl rfl⟩)
    · subst h
      rw [if_neg (by decide)]
      obtain ⟨x, x1, x2⟩ := stuck_ok (o := o) (D := D + 1) (sz0 := sz) (rc := F22 n) (v2 := yn o) (v3 := 120) (k := 4999) 0 hl kA2 kB2 hB hd
      rw [x1]
      exact y2_some x2
