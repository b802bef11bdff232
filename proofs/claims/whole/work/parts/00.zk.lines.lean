/-! LAW(): lines -/
theorem seg_of {c r n : Nat} {C AC WI : Nat → Int32} (h : yG 60 C AC WI c r n) : ySeg C AC WI c r n := h
def wL (a j : Nat) : Prop := (a = 73 ∧ 20 ≤ j ∧ j ≤ 23) ∨ ((a = 86 ∨ a = 87) ∧ 520 ≤ j) ∨ ((a = 89 ∨ a = 90) ∧ 244 ≤ j) ∨ (a = 88 ∧ j = 4)
theorem wB_L {l : Nat} {A B : yI} (h : yk (wB l) A B) : yk wL A B := by
  refine yk_mono h fun a j q => ?_
  unfold wB at q
  unfold wL
  omega
theorem yC_l {nl T : Nat} {A B A' B' : yI} (h : yC nl T A B) (hA : yk (wA nl 0) A A') (hB : yk wL B B') : yC nl T A' B' := by
  obtain ⟨⟨h0, h1⟩, ⟨h2, h3, h4⟩, h5⟩ := h
  refine ⟨⟨h0, h1⟩, ⟨?_, ?_, ?_⟩, fun i hi => ?_⟩
  · rw [hA 15 6 (by unfold wA; omega)]; exact h2
  · rw [hA 15 7 (by unfold wA; omega)]; exact h3
  · rw [hB 73 19 (by unfold wL; omega)]; exact h4
  · rw [hA 16 i (by unfold wA; omega), hB 85 i (by unfold wL; omega)]; exact h5 i hi
theorem i16_ok : ∀ n, n < 200 → (yn n).toInt16.toInt32.toInt16.toInt32 = yn n := by decide +kernel
theorem yLine_cg {c st te en c' : Nat} {C AC WI C' AC' WI' : Nat → Int32} (h : yLine C AC WI c st te en c') (h1 : ∀ j, j < c' → C' j = C j) (h2 : ∀ j, j < en → AC' j = AC j) (h3 : ∀ j, j < en → WI' j = WI j) : yLine C' AC' WI' c st te en c' := by
  obtain ⟨g1, g2, g3, g4, g5⟩ := h
  refine ⟨g1, g2, g3, fun e => ?_, fun e => ?_⟩
  · obtain ⟨k1, k2, k3⟩ := g4 e
    refine ⟨yG_cg (D := 60) k1 (fun j hj => h1 _ (by omega)) (fun j hj => h2 _ (by omega)) (fun j hj => h3 _ (by omega)), ?_, k3⟩
    rw [h1 _ (by omega)]; exact k2
  · obtain ⟨k1, k2, k3, k4, k5⟩ := g5 e
    refine ⟨yG_cg (D := 60) k1 (fun j hj => h1 _ (by omega)) (fun j hj => h2 _ (by omega)) (fun j hj => h3 _ (by omega)), ?_, yG_cg (D := 60) k3 (fun j hj => h1 _ (by omega)) (fun j hj => h2 _ (by omega)) (fun j hj => h3 _ (by omega)), ?_, k5⟩
    · rw [h1 _ (by omega)]; exact k2
    · rw [h1 _ (by omega)]; exact k4
/-- L lines of the text are read -/
def yTx (nl L : Nat) (cs ts es : Nat → Nat) (A B : yI) : Prop := cs 0 = 0 ∧ B 88 4 = yn L ∧ ∀ k, k < L → (B 89 (244 + k) = yn (ts k) ∧ B 90 (244 + k) = yn (es k)) ∧ (cs (k + 1) ≤ cs L ∧ es k ≤ yst0 es L) ∧ yLine (A (18 + nl)) (fun j => B 86 (520 + j)) (fun j => B 87 (520 + j)) (cs k) (yst0 es k) (ts k) (es k) (cs (k + 1))
theorem ext_ok {nl L te en cN : Nat} {cs ts es : Nat → Nat} {A B A' B' : yI} (h : yTx nl L cs ts es A B) (h1 : ∀ j, j < cs L → A' (18 + nl) j = A (18 + nl) j) (h2 : ∀ j, j < yst0 es L → B' 86 (520 + j) = B 86 (520 + j)) (h3 : ∀ j, j < yst0 es L → B' 87 (520 + j) = B 87 (520 + j)) (h4 : ∀ k, k < L → B' 89 (244 + k) = B 89 (244 + k)) (h5 : ∀ k, k < L → B' 90 (244 + k) = B 90 (244 + k)) (h6 : B' 88 4 = yn (L + 1)) (h7 : B' 89 (244 + L) = yn te) (h8 : B' 90 (244 + L) = yn en) (h9 : yLine (A' (18 + nl)) (fun j => B' 86 (520 + j)) (fun j => B' 87 (520 + j)) (cs L) (yst0 es L) te en cN) : yTx nl (L + 1) (fun k => if k ≤ L then cs k else cN) (fun k => if k = L then te else ts k) (fun k => if k = L then en else es k) A' B' := by
  obtain ⟨g1, g2, g3⟩ := h
  have stE : ∀ k, k ≤ L → yst0 (fun k => if k = L then en else es k) k = yst0 es k := by
    intro k hk
    unfold yst0
    by_cases e : k = 0
    · rw [if_pos e, if_pos e]
    · rw [if_neg e, if_neg e]
      dsimp only
      rw [if_neg (by omega)]
  have stN : yst0 (fun k => if k = L then en else es k) (L + 1) = en := by
    unfold yst0
    rw [if_neg (by omega)]
    dsimp only
    rw [if_pos (by omega)]
  have cN1 : cs L ≤ cN := by
    obtain ⟨q1, q2, q3, q4, q5⟩ := h9
    by_cases e : te = yst0 es L
    · have := (q4 e).2.2; omega
    · have := (q5 (by omega)).2.2.2.2; omega
  have eN1 : yst0 es L ≤ en := by
    obtain ⟨q1, q2, -⟩ := h9
    omega
  refine ⟨?_, h6, fun k hk => ?_⟩
  · dsimp only
    rw [if_pos (by omega)]; exact g1
  · rw [stE k (by omega), stN]
    dsimp only
    by_cases e : k = L
    · subst e
      rw [if_pos rfl, if_pos rfl, if_neg (show ¬ k + 1 ≤ k by omega), if_pos (show k ≤ k by omega)]
      exact ⟨⟨h7, h8⟩, ⟨by omega, by omega⟩, h9⟩
    · obtain ⟨⟨p1, p2⟩, ⟨p3, p4⟩, p5⟩ := g3 k (by omega)
      rw [if_neg e, if_neg e, if_pos (show k + 1 ≤ L by omega), if_neg (show ¬ L + 1 ≤ L by omega), if_pos (show k ≤ L by omega), h4 k (by omega), h5 k (by omega)]
      exact ⟨⟨p1, p2⟩, ⟨by omega, by omega⟩, yLine_cg p5 (fun j hj => h1 j (by omega)) (fun j hj => h2 j (by omega)) (fun j hj => h3 j (by omega))⟩
def yLe (nl T p L : Nat) (cs ts es : Nat → Nat) (A B : yI) : Prop := yC nl T A B ∧ (p ≤ T ∧ cs L ≤ p + 1 ∧ yst0 es L ≤ p) ∧ (A 15 4 = yn p ∧ A 22 nl = yn (cs L)) ∧ (B 73 20 = yn p ∧ B 73 21 = -1 ∧ B 73 22 = yn 0 ∧ B 73 23 = yn (yst0 es L)) ∧ yTx nl L cs ts es A B
def yLb (nl T p : Nat) (x : Int32 × yI) (y : yI) : Prop := p ≤ T ∧ yC nl T x.2 y ∧ x.2 15 4 = yn p ∧ y 73 21 = yn p ∧ (x.1 = 0 ∨ (x.1 = 1 ∧ yDg T p x.2))
def yLo (nl T p L : Nat) (A B : yI) (x : Int32 × yI) (y : yI) : Prop := yk (wA nl 0) A x.2 ∧ yk wL B y ∧ ((x.1 = 1 ∧ ∃ p' cs ts es, p < p' ∧ yLe nl T p' (L + 1) cs ts es x.2 y) ∨ ∃ p', yLb nl T p' x y)
def yfin (L : Nat) (y : yI) : yI := zu (zu y 90 (244 + L) (y 73 23).toInt16.toInt32.toInt16.toInt32) 88 4 ((y 88 4) + 1)
theorem fin_k {L : Nat} {B y : yI} (h : yk wL B y) : yk wL B (yfin L y) := yk_zu (by unfold wL; omega) (yk_zu (by unfold wL; omega) h)
theorem yst0_c (es : Nat → Nat) (L en : Nat) : yst0 (fun k => if k = L then en else es k) (L + 1) = en := by
  unfold yst0
  rw [if_neg (by omega)]
  dsimp only
  rw [if_pos (by omega)]
theorem le_mk {nl T p L te en cN : Nat} {cs ts es : Nat → Nat} {A B : yI} (hC : yC nl T A B) (hp : p ≤ T) (h1 : cN ≤ p + 1) (h2 : en ≤ p) (a1 : A 15 4 = yn p) (a2 : A 22 nl = yn cN) (b1 : B 73 20 = yn p) (b2 : B 73 21 = -1) (b3 : B 73 22 = yn 0) (b4 : B 73 23 = yn en) (hX : yTx nl (L + 1) (fun k => if k ≤ L then cs k else cN) (fun k => if k = L then te else ts k) (fun k => if k = L then en else es k) A B) : yLe nl T p (L + 1) (fun k => if k ≤ L then cs k else cN) (fun k => if k = L then te else ts k) (fun k => if k = L then en else es k) A B := by
  have e1 : (fun k => if k ≤ L then cs k else cN) (L + 1) = cN := if_neg (by omega)
  have e2 := yst0_c es L en
  refine ⟨hC, ⟨hp, ?_, ?_⟩, ⟨a1, ?_⟩, ⟨b1, b2, b3, ?_⟩, hX⟩
  · rw [e1]; exact h1
  · rw [e2]; exact h2
  · rw [e1]; exact a2
  · rw [e2]; exact b4
/-- behind a bad E: the end of a line -/
theorem lbad_ok {nl T p0 la0 p p9 L : Nat} {A0 B0 A y : yI} {x1 : Int32} (c : Int32) (kA : yk (wA nl 0) A0 A) (kB : yk wL B0 y) (hB : yBd nl T p0 la0 p A y) (h : x1 = 0 ∨ (x1 = 1 ∧ yDg T p A)) : (x1 = 0 ∧ yLo nl T p9 L A0 B0 (0, A) (yfin L y)) ∨ (x1 = 1 ∧ (∃ b, b < 128 ∧ ydg b = true ∧ f28_next A = some (yc b)) ∧ ∃ A', f29_write c A = some A' ∧ yLo nl T p9 L A0 B0 (1, A') (yfin L y)) := by
  obtain ⟨hp, hC, hpT, a1, ⟨s, hs, a2⟩, b1, b2, b3⟩ := hB
  have k1 : yk wL y (yfin L y) := fin_k (yk_refl _)
  have e21 : yfin L y 73 21 = yn p := by
    unfold yfin
    rw [zu_ne (by omega), zu_ne (by omega)]; exact b2
  rcases h with h | ⟨h, hd, b, hb1, hb2⟩
  · exact Or.inl ⟨h, kA, fin_k kB, Or.inr ⟨p, hpT, yC_l hC (yk_refl _) k1, a1, e21, Or.inl rfl⟩⟩
  · obtain ⟨A', w1, w2, w3, w4⟩ := write_any hC a2 hs c
    have hb3 := ydg_t.mp hb1
    refine Or.inr ⟨h, ⟨b, by omega, hb1, ?_⟩, A', w1, yk_trans kA w2 (fun _ _ z => z), fin_k kB, Or.inr ⟨p, hpT, yC_l hC w2 k1, by dsimp only; rw [w3]; exact a1, e21, Or.inr ⟨rfl, hd, b, hb1, ?_⟩⟩⟩
    · rw [yc_n (by omega)]
      exact nx_ok hC hd a1 hb2
    · dsimp only
      rw [w2 16 p (by unfold wA; omega)]
      exact hb2
theorem line_ok {nl T L p : Nat} {cs ts es : Nat → Nat} {A B : yI} (hS : yPs nl T p (cs L) (yst0 es L) 0 A B) (hX : yTx nl L cs ts es A B) (hL : 2 * L ≤ p) : y2 (f21_readLine A) (f151_line B) (yLo nl T p L A B) := by
  obtain ⟨hC, ⟨g1, g2, g3, g4⟩, ⟨a1, a2⟩, ⟨b1, b2, b3, b4⟩⟩ := id hS
  have hT := hC.1
  have x4 := hX.2.1
  obtain ⟨la, hla⟩ : ∃ la, la = yst0 es L := ⟨_, rfl⟩
  rw [← hla] at hS b4 g3
  have i1 : (244 : Int32) + yn L = yn (244 + L) := yn_add 244 L
  unfold f21_readLine f151_line
  rw [x4, i1, zin_yn (m := 244 + L) (by omega) (by omega), yn_nat (n := 244 + L) (by omega), b4, i16_ok la (by omega)]
  have kB1 : yk wL B (zu B 89 (244 + L) (yn la)) := yk_zu (by unfold wL; omega) (yk_refl _)
  have hS1 : yPs nl T p (cs L) la 0 A (zu B 89 (244 + L) (yn la)) := by
    refine ⟨yC_l hC (yk_refl _) kB1, ⟨g1, g2, g3, by omega⟩, ⟨a1, a2⟩, ⟨?_, ?_, ?_, ?_⟩⟩
    · rw [zu_ne (by omega)]; exact b1
    · rw [zu_ne (by omega)]; exact b2
    · rw [zu_ne (by omega)]; exact b3
    · rw [zu_ne (by omega)]; exact b4
  obtain ⟨⟨x1, A2⟩, y, e1, e2, e3⟩ := E_ok nl T p (cs L) la A _ hS1
  rw [cond_true, e1, e2, ob, ob]
  dsimp only
  simp only [cond_true]
  rcases e3 with ⟨h1, kA2, kB2, p', n, ⟨hn1, hn2⟩, hS', hG⟩ | ⟨kA2, kB2, p', hB, h⟩
  · dsimp only at h1 kA2 kB2 hS' hG
    subst h1
    obtain ⟨hC', ⟨c1, c2, c3, c4⟩, ⟨d1, d2⟩, ⟨f1, f2, f3, f4⟩⟩ := id hS'
    obtain ⟨b, hb, n1, n2, n3⟩ := ch_ok hC' c1 d1 f1
    have c63 : yc b = 63 ↔ b = 63 := yc_m hb (m := 63) (by omega)
    have q63 : yd b = 63 ↔ b = 63 := yd_m hb (m := 63) (by omega)
    have kB2' : yk wL B y := yk_trans kB1 (wB_L kB2) (fun _ _ z => z)
    have m88 : y 88 4 = yn L := by
      rw [kB2 88 4 (by unfold wB; omega), zu_ne (by omega)]; exact x4
    have m89 : y 89 (244 + L) = yn la := by
      rw [kB2 89 _ (by unfold wB; omega), zu_same]
    rw [if_neg (by decide), n1, ob, if_neg (show ¬ (0 : Int32) ≤ y 73 21 by rw [f2]; decide), n2, ob]
    by_cases e : b = 63
    · have hpT : p' < T := by omega
      rw [if_pos (c63.mpr e), if_pos (q63.mpr e), f4, i16_ok (la + n) (by omega)]
      obtain ⟨q1, q2, q3⟩ := adv_ok (cs L) la hS' hpT
      have wr := write_ok (c := 20063) q1.1 q1.2.2.1.2 (by omega)
      rw [wr, ob]
      have kA3 : yk (wA nl (cs L)) A (zu (zu (zu A2 15 4 (A2 15 4 + 1)) (18 + nl) (cs L + n) 20063) 22 nl (yn (cs L + n + 1))) := yk_zu (by unfold wA; omega) (yk_zu (by unfold wA; omega) (yk_trans kA2 q2 (fun _ _ z => z)))
      have kB3 : yk wL B (zu (zu y 73 20 (y 73 20 + 1)) 89 (244 + L) (yn (la + n))) := yk_zu (by unfold wL; omega) (yk_trans kB2' (wB_L q3) (fun _ _ z => z))
      have rowK : ∀ j, j < cs L + n → (zu (zu (zu A2 15 4 (A2 15 4 + 1)) (18 + nl) (cs L + n) 20063) 22 nl (yn (cs L + n + 1))) (18 + nl) j = A2 (18 + nl) j := fun j hj => by
        rw [zu_ne (by omega), zu_nej (by omega), zu_ne (by omega)]
      have rowI : (zu (zu (zu A2 15 4 (A2 15 4 + 1)) (18 + nl) (cs L + n) 20063) 22 nl (yn (cs L + n + 1))) (18 + nl) (cs L + n) = 20063 := by
        rw [zu_ne (by omega), zu_same]
      have k86 : ∀ j, (zu (zu y 73 20 (y 73 20 + 1)) 89 (244 + L) (yn (la + n))) 86 j = y 86 j := fun j => by
        rw [zu_ne (by omega), zu_ne (by omega)]
      have k87 : ∀ j, (zu (zu y 73 20 (y 73 20 + 1)) 89 (244 + L) (yn (la + n))) 87 j = y 87 j := fun j => by
        rw [zu_ne (by omega), zu_ne (by omega)]
      have k88 : (zu (zu y 73 20 (y 73 20 + 1)) 89 (244 + L) (yn (la + n))) 88 4 = yn L := by
        rw [zu_ne (by omega), zu_ne (by omega)]; exact m88
      have k89' : ∀ k, k < L → (zu (zu y 73 20 (y 73 20 + 1)) 89 (244 + L) (yn (la + n))) 89 (244 + k) = B 89 (244 + k) := fun k hk => by
        rw [zu_nej (by omega), zu_ne (by omega), kB2 89 _ (by unfold wB; omega), zu_nej (by omega)]
      have k90 : ∀ k, (zu (zu y 73 20 (y 73 20 + 1)) 89 (244 + L) (yn (la + n))) 90 (244 + k) = B 90 (244 + k) := fun k => by
        rw [zu_ne (by omega), zu_ne (by omega), kB2 90 _ (by unfold wB; omega), zu_ne (by omega)]
      have k89 : (zu (zu y 73 20 (y 73 20 + 1)) 89 (244 + L) (yn (la + n))) 89 (244 + L) = yn (la + n) := zu_same _ _ _ _
      have hS2 : yPs nl T (p' + 1) (cs L + n + 1) (la + n) 0 (zu (zu (zu A2 15 4 (A2 15 4 + 1)) (18 + nl) (cs L + n) 20063) 22 nl (yn (cs L + n + 1))) (zu (zu y 73 20 (y 73 20 + 1)) 89 (244 + L) (yn (la + n))) := by
        obtain ⟨r1, r2, ⟨r3, r4⟩, ⟨r5, r6, r7, r8⟩⟩ := q1
        refine ⟨yC_l hC (wA0 kA3) kB3, ⟨by omega, by omega, by omega, by omega⟩, ⟨?_, zu_same _ _ _ _⟩, ⟨?_, ?_, ?_, ?_⟩⟩
        · rw [zu_ne (by omega), zu_ne (by omega)]; exact r3
        · rw [zu_ne (by omega)]; exact r5
        · rw [zu_ne (by omega)]; exact r6
        · rw [zu_ne (by omega)]; exact r7
        · rw [zu_ne (by omega)]; exact r8
      generalize (zu (zu (zu A2 15 4 (A2 15 4 + 1)) (18 + nl) (cs L + n) 20063) 22 nl (yn (cs L + n + 1))) = A3 at *
      generalize (zu (zu y 73 20 (y 73 20 + 1)) 89 (244 + L) (yn (la + n))) = B3 at *
      obtain ⟨⟨x1, A4⟩, y4, u1, u2, u3⟩ := E_ok nl T (p' + 1) (cs L + n + 1) (la + n) A3 B3 hS2
      rw [u1, u2, ob, ob]
      dsimp only
      rcases u3 with ⟨h1, kA4, kB4, p2, n2, ⟨hm1, hm2⟩, hS4, hG4⟩ | ⟨kA4, kB4, p2, hB4, h4⟩
      · dsimp only at h1 kA4 kB4 hS4 hG4
        subst h1
        obtain ⟨hC4, ⟨v1, v2, v3, v4⟩, ⟨t1, t2⟩, ⟨t3, t4, t5, t6⟩⟩ := hS4
        have wr2 := write_ok (c := 20059) hC4 t2 (by omega)
        rw [if_neg (by decide), wr2, ob]
        have kA5 : yk (wA nl (cs L)) A (zu (zu A4 (18 + nl) (cs L + n + 1 + n2) 20059) 22 nl (yn (cs L + n + 1 + n2 + 1))) := yk_zu (by unfold wA; omega) (yk_zu (by unfold wA; omega) (yk_trans kA3 kA4 (wA_le (by omega))))
        have kB5 : yk wL B (yfin L y4) := fin_k (yk_trans kB3 (wB_L kB4) (fun _ _ z => z))
        have z88 : y4 88 4 = yn L := by rw [kB4 88 4 (by unfold wB; omega)]; exact k88
        have z89 : ∀ k, y4 89 k = B3 89 k := fun k => kB4 89 _ (by unfold wB; omega)
        have w86 : ∀ j, j < n → y4 86 (520 + la + j) = y 86 (520 + la + j) := fun j hj => by
          rw [kB4 86 _ (by unfold wB; omega), k86]
        have w87 : ∀ j, j < n → y4 87 (520 + la + j) = y 87 (520 + la + j) := fun j hj => by
          rw [kB4 87 _ (by unfold wB; omega), k87]
        have f86 : ∀ j, yfin L y4 86 j = y4 86 j := fun j => by
          unfold yfin
          rw [zu_ne (by omega), zu_ne (by omega)]
        have f87 : ∀ j, yfin L y4 87 j = y4 87 j := fun j => by
          unfold yfin
          rw [zu_ne (by omega), zu_ne (by omega)]
        have rK : ∀ j, j < cs L + n + 1 + n2 → (zu (zu A4 (18 + nl) (cs L + n + 1 + n2) 20059) 22 nl (yn (cs L + n + 1 + n2 + 1))) (18 + nl) j = A4 (18 + nl) j := fun j hj => by
          rw [zu_ne (by omega), zu_nej (by omega)]
        have rI : (zu (zu A4 (18 + nl) (cs L + n + 1 + n2) 20059) 22 nl (yn (cs L + n + 1 + n2 + 1))) (18 + nl) (cs L + n + 1 + n2) = 20059 := by
          rw [zu_ne (by omega), zu_same]
        have rA : ∀ j, j < cs L + n + 1 → A4 (18 + nl) j = A3 (18 + nl) j := fun j hj => kA4 _ _ (by unfold wA; omega)
        have hLine : yLine ((zu (zu A4 (18 + nl) (cs L + n + 1 + n2) 20059) 22 nl (yn (cs L + n + 1 + n2 + 1))) (18 + nl)) (fun j => yfin L y4 86 (520 + j)) (fun j => yfin L y4 87 (520 + j)) (cs L) (yst0 es L) (la + n) (la + n + n2) (cs L + n + 1 + n2 + 1) := by
          rw [← hla]
          refine ⟨by omega, by omega, by omega, fun q => absurd q (by omega), fun _ => ⟨?_, ?_, ?_, ?_, by omega⟩⟩
          · have i2 : la + n - la = n := by omega
            rw [i2]
            refine seg_of (yG_cg (C := A2 (18 + nl)) (AC := fun j => y 86 (520 + j)) (WI := fun j => y 87 (520 + j)) ?_ (fun j hj => ?_) (fun j hj => ?_) (fun j hj => ?_))
            · obtain ⟨dp, s1, s2, s3⟩ := hG
              refine ⟨dp, s1, s2, fun j hj => ?_⟩
              have := s3 j hj
              dsimp only
              rw [← Nat.add_assoc]
              exact this
            · rw [rK _ (by omega), rA _ (by omega), rowK _ (by omega)]
            · rw [f86, ← Nat.add_assoc, w86 j hj]
            · rw [f87, ← Nat.add_assoc, w87 j hj]
          · have i2 : cs L + (la + n - la) = cs L + n := by omega
            rw [i2, rK _ (by omega), rA _ (by omega), rowI]
          · have i2 : cs L + (la + n - la) + 1 = cs L + n + 1 := by omega
            have i3 : la + n + n2 - (la + n) = n2 := by omega
            rw [i2, i3]
            obtain ⟨dp, s1, s2, s3⟩ := hG4
            refine ⟨dp, s1, s2, fun j hj => ?_⟩
            have := s3 j hj
            dsimp only
            rw [f86, f87, ← Nat.add_assoc, rK _ (by omega)]
            exact this
          · have i2 : cs L + (la + n + n2 - la) + 1 = cs L + n + 1 + n2 := by omega
            rw [i2, rI]
        have hX' := ext_ok (A' := (zu (zu A4 (18 + nl) (cs L + n + 1 + n2) 20059) 22 nl (yn (cs L + n + 1 + n2 + 1)))) (B' := yfin L y4) hX (fun j hj => by
            rw [rK _ (by omega), rA _ (by omega), rowK _ (by omega)]
            exact kA2 _ _ (by unfold wA; omega)) (fun j hj => by
            rw [f86, kB4 86 _ (by unfold wB; omega), k86, kB2 86 _ (by unfold wB; omega), zu_ne (by omega)]) (fun j hj => by
            rw [f87, kB4 87 _ (by unfold wB; omega), k87, kB2 87 _ (by unfold wB; omega), zu_ne (by omega)]) (fun k hk => by
            unfold yfin
            rw [zu_ne (by omega), zu_ne (by omega), z89, k89' k hk]) (fun k hk => by
            unfold yfin
            rw [zu_ne (by omega), zu_nej (by omega), kB4 90 _ (by unfold wB; omega), k90]) (by
            unfold yfin
            rw [zu_same, z88, yn_succ]) (by
            unfold yfin
            rw [zu_ne (by omega), zu_ne (by omega), z89, k89]) (by
            unfold yfin
            rw [zu_ne (by omega), zu_same, t6, i16_ok _ (by omega)]) hLine
        refine y2_some ⟨wA0 kA5, kB5, Or.inl ⟨rfl, p2, _, _, _, by omega, le_mk (yC_l hC (wA0 kA5) kB5) v1 (by omega) (by omega) ?_ (by dsimp only; exact zu_same _ _ _ _) ?_ ?_ ?_ ?_ hX'⟩⟩
        · dsimp only
          rw [zu_ne (by omega), zu_ne (by omega)]; exact t1
        · show yfin L y4 73 20 = _
          unfold yfin
          rw [zu_ne (by omega), zu_ne (by omega)]; exact t3
        · show yfin L y4 73 21 = _
          unfold yfin
          rw [zu_ne (by omega), zu_ne (by omega)]; exact t4
        · show yfin L y4 73 22 = _
          unfold yfin
          rw [zu_ne (by omega), zu_ne (by omega)]; exact t5
        · show yfin L y4 73 23 = _
          unfold yfin
          rw [zu_ne (by omega), zu_ne (by omega)]; exact t6
      · dsimp only at kA4 hB4 h4
        rcases lbad_ok (p9 := p) (L := L) 20059 (yk_trans (wA0 kA3) kA4 (fun _ _ z => z)) (yk_trans kB3 (wB_L kB4) (fun _ _ z => z)) hB4 h4 with ⟨rfl, o1⟩ | ⟨rfl, -, A', w1, o1⟩
        · rw [if_pos rfl]
          exact y2_some o1
        · rw [if_neg (by decide), w1, ob]
          exact y2_some o1
    · rw [if_neg (fun z => e (c63.mp z)), if_neg (fun z => e (q63.mp z)), write_ok (c := 20059) hC' d2 (by omega), ob]
      have kA5 : yk (wA nl (cs L)) A (zu (zu A2 (18 + nl) (cs L + n) 20059) 22 nl (yn (cs L + n + 1))) := yk_zu (by unfold wA; omega) (yk_zu (by unfold wA; omega) kA2)
      have kB5 : yk wL B (yfin L y) := fin_k kB2'
      have f86 : ∀ j, yfin L y 86 j = y 86 j := fun j => by
        unfold yfin
        rw [zu_ne (by omega), zu_ne (by omega)]
      have f87 : ∀ j, yfin L y 87 j = y 87 j := fun j => by
        unfold yfin
        rw [zu_ne (by omega), zu_ne (by omega)]
      have rK : ∀ j, j < cs L + n → (zu (zu A2 (18 + nl) (cs L + n) 20059) 22 nl (yn (cs L + n + 1))) (18 + nl) j = A2 (18 + nl) j := fun j hj => by
        rw [zu_ne (by omega), zu_nej (by omega)]
      have rI : (zu (zu A2 (18 + nl) (cs L + n) 20059) 22 nl (yn (cs L + n + 1))) (18 + nl) (cs L + n) = 20059 := by
        rw [zu_ne (by omega), zu_same]
      have hLine : yLine ((zu (zu A2 (18 + nl) (cs L + n) 20059) 22 nl (yn (cs L + n + 1))) (18 + nl)) (fun j => yfin L y 86 (520 + j)) (fun j => yfin L y 87 (520 + j)) (cs L) (yst0 es L) la (la + n) (cs L + n + 1) := by
        rw [← hla]
        have i2 : la + n - la = n := by omega
        refine ⟨by omega, by omega, by omega, fun _ => ⟨?_, ?_, by omega⟩, fun q => absurd q (by omega)⟩
        · rw [i2]
          obtain ⟨dp, s1, s2, s3⟩ := hG
          refine ⟨dp, s1, s2, fun j hj => ?_⟩
          have := s3 j hj
          dsimp only
          rw [f86, f87, ← Nat.add_assoc, rK _ (by omega)]
          exact this
        · rw [i2, rI]
      have hX' := ext_ok (A' := (zu (zu A2 (18 + nl) (cs L + n) 20059) 22 nl (yn (cs L + n + 1)))) (B' := yfin L y) hX (fun j hj => by
          rw [rK _ (by omega)]
          exact kA2 _ _ (by unfold wA; omega)) (fun j hj => by
          rw [f86, kB2 86 _ (by unfold wB; omega), zu_ne (by omega)]) (fun j hj => by
          rw [f87, kB2 87 _ (by unfold wB; omega), zu_ne (by omega)]) (fun k hk => by
          unfold yfin
          rw [zu_ne (by omega), zu_ne (by omega), kB2 89 _ (by unfold wB; omega), zu_nej (by omega)]) (fun k hk => by
          unfold yfin
          rw [zu_ne (by omega), zu_nej (by omega), kB2 90 _ (by unfold wB; omega), zu_ne (by omega)]) (by
          unfold yfin
          rw [zu_same, m88, yn_succ]) (by
          unfold yfin
          rw [zu_ne (by omega), zu_ne (by omega), m89]) (by
          unfold yfin
          rw [zu_ne (by omega), zu_same, f4, i16_ok _ (by omega)]) hLine
      refine y2_some ⟨wA0 kA5, kB5, Or.inl ⟨rfl, p', _, _, _, by omega, le_mk (yC_l hC (wA0 kA5) kB5) c1 (by omega) (by omega) ?_ (by dsimp only; exact zu_same _ _ _ _) ?_ ?_ ?_ ?_ hX'⟩⟩
      · dsimp only
        rw [zu_ne (by omega), zu_ne (by omega)]; exact d1
      · show yfin L y 73 20 = _
        unfold yfin
        rw [zu_ne (by omega), zu_ne (by omega)]; exact f1
      · show yfin L y 73 21 = _
        unfold yfin
        rw [zu_ne (by omega), zu_ne (by omega)]; exact f2
      · show yfin L y 73 22 = _
        unfold yfin
        rw [zu_ne (by omega), zu_ne (by omega)]; exact f3
      · show yfin L y 73 23 = _
        unfold yfin
        rw [zu_ne (by omega), zu_ne (by omega)]; exact f4
  · dsimp only at kA2 hB h
    have hu : (0 : Int32) ≤ y 73 21 := by
      rw [hB.2.2.2.2.2.2.1]
      exact yn_pos (by have := hB.2.2.1; omega)
    rw [if_pos hu]
    rcases lbad_ok (p9 := p) (L := L) 20059 kA2 (yk_trans kB1 (wB_L kB2) (fun _ _ z => z)) hB h with ⟨rfl, o1⟩ | ⟨rfl, ⟨b, hb1, hb2, n1⟩, A', w1, o1⟩
    · rw [if_pos rfl]
      exact y2_some o1
    · have hb3 := ydg_t.mp hb2
      have c63 : yc b = 63 ↔ b = 63 := yc_m (by omega) (m := 63) (by omega)
      rw [if_neg (by decide), n1, ob, if_neg (fun z => absurd (c63.mp z) (by omega)), w1, ob]
      exact y2_some o1
