/-! A RUN, noon 24: where a sort goes -/
theorem first {a w s k : Nat} {A B : yI} (hT : yTw a w s A B) (hk : k < s) (v2 : Int32) : y2 (f76_firstFor (A 9 k) A) (zbR (zloopR (f168_goal_L60 (yn k) v2 B) 5000 (0 : Int32)) (fun rr => some rr) fun _ => some (v2, B)) (fun x y => y.2 = B ∧ (x = y.1 ∨ (x = -1 ∧ y.1 = v2))) := by
  obtain ⟨⟨⟨ha, hw, hs⟩, ⟨a1, a2, a3⟩, ⟨b1, b2, b3⟩⟩, -, hSq, -, hSo, -⟩ := hT
  obtain ⟨-, ⟨-, r9⟩, -⟩ := hSo k hk
  have key : y2 (zloopR (f76_firstFor_L2 (A 9 k) A) 5000 (0 : Int32)) (zloopR (f168_goal_L60 (yn k) v2 B) 5000 (0 : Int32)) (fun y y' => match y, y' with
    | .inl x, .inl x' => x = x'.1 ∧ x'.2 = B
    | .inr _, .inr _ => True
    | _, _ => False) := by
    refine y2_loopR (fun j x y => ∃ i, i + j = a ∧ x = yn i ∧ y = yn i) ?_ 5000 a _ _ (by omega) ⟨0, by omega, rfl, rfl⟩
    rintro j x y ⟨i, hi, rfl, rfl⟩
    unfold f76_firstFor_L2 f168_goal_L60
    by_cases hia : i < a
    · rw [if_neg (show ¬ A 1 0 ≤ yn i by rw [a1, yn_le (by omega) (by omega)]; omega), if_neg (show ¬ B 73 1 ≤ yn i by rw [b1, yn_le (by omega) (by omega)]; omega)]
      refine y2_bifL (zin_yn (by omega) (by omega)) (y2_bifR (zin_yn (by omega) (by omega)) (y2_bifR (zin_yn (by omega) (by omega)) ?_))
      rw [yn_nat (n := i) (by omega), yn_nat (n := k) (by omega), (hSq i hia).2.2, r9]
      refine y2_ite Iff.rfl (fun _ => y2_some ⟨rfl, rfl⟩) fun _ => y2_some ⟨a - (i + 1), by omega, i + 1, by omega, yn_succ i, yn_succ i⟩
    · have : i = a := by omega
      subst this
      rw [if_pos (show A 1 0 ≤ yn i by rw [a1]; exact Int32.le_refl _), if_pos (show B 73 1 ≤ yn i by rw [b1]; exact Int32.le_refl _)]
      exact y2_some trivial
  unfold f76_firstFor
  obtain ⟨y, y', e1, e2, e3⟩ := key
  rw [e1, e2]
  rcases y with x | x <;> rcases y' with x' | x'
  · exact ⟨_, _, rfl, rfl, e3.2, Or.inl e3.1⟩
  · exact absurd e3 id
  · exact absurd e3 id
  · exact ⟨_, _, rfl, rfl, rfl, Or.inr ⟨rfl, rfl⟩⟩
theorem full {a w s T sm : Nat} {A B : yI} (ha0 : 0 < a) (hT : yTw a w s A B) (hG : yBeg a T A B) (hsm : sm < T) (hT60 : T ≤ 60) (v1 v2 v4 v5 v6 : Int32) (ix : ∀ q, q < 4 → 4 * v6 + yn q = yn (4 * sm + q)) : yP (zloop (f168_goal_L122 v1 v2 v4 v5 v6 B) 5000 ((0 : Int32), (1 : Int32))) (fun x => x.1 = yn (yful (fun q => A 34 (4 * sm + q)) a)) := by
  obtain ⟨⟨⟨ha, hw, hs⟩, ⟨a1, a2, a3⟩, ⟨b1, b2, b3⟩⟩, -⟩ := hT
  have u1 : yful (fun q => A 34 (4 * sm + q)) 1 = 0 := by
    unfold yful
    split <;> rfl
  refine yP_for a (fun i x => x.1 = yn (yful (fun q => A 34 (4 * sm + q)) i) ∧ x.2 = yn i ∧ 1 ≤ i) (k := 1) ⟨by rw [u1]; rfl, rfl, by omega⟩ (by omega) (by omega) ?_ ?_
  · rintro i ⟨x1, x2⟩ hi ⟨e1, e2, e3⟩
    dsimp only at e1 e2
    subst e1 e2
    have hf := yful_lt (f := fun q => A 34 (4 * sm + q)) (n := i) (by omega)
    unfold f168_goal_L122
    dsimp only
    refine yP_neg (by rw [b1, yn_le (by omega) (by omega)]; omega) ?_
    rw [ix i (by omega), ix _ (by omega)]
    refine yP_bif (zin_yn (by omega) (by omega)) (yP_bif (zin_yn (by omega) (by omega)) ?_)
    rw [yn_nat (n := 4 * sm + i) (by omega), yn_nat (n := 4 * sm + yful (fun q => A 34 (4 * sm + q)) i) (by omega), hG sm i hsm hi, hG sm _ hsm (by omega), yn_succ]
    have step : yful (fun q => A 34 (4 * sm + q)) (i + 1) = if A 34 (4 * sm + yful (fun q => A 34 (4 * sm + q)) i) < A 34 (4 * sm + i) then i else yful (fun q => A 34 (4 * sm + q)) i := rfl
    rw [step]
    refine yP_ite (fun c => yP_some ?_) (fun c => yP_some ?_)
    · rw [if_neg (Int32.not_lt.mpr c)]; exact ⟨rfl, rfl, by omega⟩
    · rw [if_pos (Int32.not_le.mp c)]; exact ⟨rfl, rfl, by omega⟩
  · rintro ⟨x1, x2⟩ ⟨e1, e2, -⟩
    dsimp only at e1 e2
    subst e1 e2
    unfold f168_goal_L122
    exact yP_pos (by dsimp only; rw [b1]; exact Int32.le_refl _) (yP_some rfl)
theorem goal {a w s S D K nl t k i : Nat} {A B : yI} (ha0 : 0 < a) (ht : t < S) (hS60 : S ≤ 60) (hk : k < s) (hi : i < a) (hB : yBase a w s S D A B) (hC : yCell (fun _ => K) A B) (hG : yBeg a (t + 1) A B) (hN : ySeen a S t A) (hL : yLaws nl A B) : y2 (f47_aim_24 (yn t) (yn k) (yn i) A) (f168_goal (yn k) (yn i) (yn t) (yn (S - t)) B) (fun x y => yTo a i x.1 y.1) := by
  obtain ⟨hT, hW, -⟩ := hB
  have hT0 := hT
  obtain ⟨⟨⟨ha, hw, hs⟩, ⟨a1, a2, a3⟩, ⟨b1, b2, b3⟩⟩, -, hSq, -, hSo, -⟩ := hT
  obtain ⟨-, ⟨-, wl⟩, -, ⟨w1, w2⟩, -, w3⟩ := hW
  obtain ⟨⟨lw, -, hlw, elw⟩, elw2⟩ := w3 k hk
  obtain ⟨lg, hlg, n0, n1, n2, n3, n4⟩ := hN
  obtain ⟨⟨hnl, l1, l2⟩, hL2⟩ := id hL
  have nok : ∀ {x : Int32}, yTo a i x x := Or.inl rfl
  unfold f47_aim_24 f168_goal
  rw [w1]
  refine y2_ite Iff.rfl (fun c => ?_) fun c => ?_
  · rcases w2 with w2 | ⟨w2, w4⟩
    · rw [w2] at c
      exact absurd c (yn_ne1 (by omega))
    · rw [w2, w4]
      refine y2_ite Iff.rfl (fun _ => y2_some (Or.inl rfl)) fun _ => y2_some (Or.inr ⟨?_, ?_⟩)
      · rintro ⟨⟨m, hm, e⟩, -⟩
        exact yn_ne1 (n := m) (by omega) e.symm
      · rintro ⟨-, e⟩
        exact e rfl
  · refine y2_bifL (zin_yn (by omega) (by omega)) ?_
    rw [yn_nat (n := k) (by omega), elw, l1]
    obtain ⟨⟨-, r8⟩, ⟨-, r9⟩, -⟩ := hSo k hk
    have main : y2 (if yn lw < yn nl then bif zin (yn k) 8 then bif zin (yn i * 8 + yn k) 32 then Option.bind (f43_seenIn_24 (yn i) (zu (zu (zu (zu A 36 1 (yn k)) 36 2 (A 9 k)) 36 3 (yn i)) 36 4 (A 28 (yn i * 8 + yn k).toNatClampNeg))) fun t6 => bif zin (yn k) 8 then Option.bind (f30_gives_15_36 (yn lw) (zu (zu (zu (zu (zu A 36 1 (yn k)) 36 2 (A 9 k)) 36 3 (yn i)) 36 4 (A 28 (yn i * 8 + yn k).toNatClampNeg)) 36 7 t6)) fun t9 => some (t9.1, t9.2) else none else none else none else bif zin (yn k) 8 then Option.bind (f76_firstFor (A 9 k) A) fun t12 => some (t12, A) else none)
      (Option.bind (f156_isLaw (yn lw) B) fun t35 =>
      if t35 = 0 then
        zbR (zloopR (f168_goal_L60 (yn k) (yn i) B) 5000 (0 : Int32)) (fun rr => some rr) fun s36 =>
        some (yn i, B)
      else
        if (B 73 16) ≤ yn t then
          Option.bind (zloop (f168_goal_L122 (yn k) (yn i) (yn (S - t)) (yn lw) (yn t - (B 73 16)) B) 5000 ((0 : Int32), (1 : Int32))) fun s39 =>
          bif zin (yn k) 8 then
          bif zin ((8 * yn i) + yn k) 32 then
          bif zin ((4 * (yn t - (B 73 16))) + s39.1) 240 then
          bif zin ((4 * (yn t - (B 73 16))) + yn i) 240 then
          Option.bind (f155_gives (yn lw) (zu (zu (zu (zu (zu (zu (zu (zu B 91 0 (yn (S - t))) 91 1 (yn k)) 91 2 (B 81 k)) 91 3 (yn i)) 91 4 (B 97 ((8 * yn i) + yn k).toNatClampNeg)) 91 5 s39.1) 91 6 (B 101 ((4 * (yn t - (B 73 16))) + s39.1).toNatClampNeg)) 91 7 (B 101 ((4 * (yn t - (B 73 16))) + yn i).toNatClampNeg))) fun t46 =>
          some (t46.1, t46.2)
          else none
          else none
          else none
          else none
        else
          Option.bind (zloop (f168_goal_L122 (yn k) (yn i) (yn (S - t)) (yn lw) 0 B) 5000 ((0 : Int32), (1 : Int32))) fun s47 =>
          bif zin (yn k) 8 then
          bif zin ((8 * yn i) + yn k) 32 then
          bif zin (0 + s47.1) 240 then
          bif zin (0 + yn i) 240 then
          Option.bind (f155_gives (yn lw) (zu (zu (zu (zu (zu (zu (zu (zu B 91 0 (yn (S - t))) 91 1 (yn k)) 91 2 (B 81 k)) 91 3 (yn i)) 91 4 (B 97 ((8 * yn i) + yn k).toNatClampNeg)) 91 5 s47.1) 91 6 (B 101 (0 + s47.1).toNatClampNeg)) 91 7 (B 101 (0 + yn i).toNatClampNeg))) fun t54 =>
          some (t54.1, t54.2)
          else none
          else none
          else none
          else none) (fun x y => yTo a i x.1 y.1) := by
      unfold f156_isLaw
      rw [f129_e, l2, ← yb_congr (yIs_in (n := nl) (v := yn lw) (by omega))]
      simp only [ob, yb_guard]
      rw [yb_ite0]
      have hz8 : zin (yn k) 8 = true := zin_yn (by omega) (by omega)
      have i1 : yn i * 8 + yn k = yn (8 * i + k) := by
        show yn i * yn 8 + yn k = _
        rw [yn_mul, yn_add]; congr 1; omega
      have i2 : 8 * yn i + yn k = yn (8 * i + k) := by
        show yn 8 * yn i + yn k = _
        rw [yn_mul, yn_add]
      have hz32 : zin (yn (8 * i + k)) 32 = true := zin_yn (by omega) (by omega)
      by_cases hl : lw < nl
      · rw [if_pos ((yn_lt (by omega) (by omega)).mpr hl), if_pos ((yIs_yn (by omega) (by omega)).mpr hl), i1, i2]
        refine y2_bifL hz8 (y2_bifL hz32 ?_)
        have z12 : (zu (zu (zu (zu A 36 1 (yn k)) 36 2 (A 9 k)) 36 3 (yn i)) 36 4 (A 28 (yn (8 * i + k)).toNatClampNeg)) 24 12 = yn (t - lg) := by simpa [zu_at] using n1
        rw [seenIn z12 (by omega), ob]
        refine y2_bifL hz8 ?_
        obtain ⟨xc, yc, c1, c2, -⟩ := hC (8 * i + k) (by omega)
        rw [yn_nat (n := 8 * i + k) (by omega)]
        have hf := yful_lt (f := fun q => A 34 (4 * (t - lg) + q)) ha0
        have fin : ∀ {f6 f7 : Int32}, f6 = A 34 (4 * (t - lg) + yful (fun q => A 34 (4 * (t - lg) + q)) a) → f7 = A 34 (4 * (t - lg) + i) → y2 (Option.bind (f30_gives_15_36 (yn lw) (zu (zu (zu (zu (zu A 36 1 (yn k)) 36 2 (A 9 k)) 36 3 (yn i)) 36 4 (A 28 (8 * i + k))) 36 7 ((zu (zu (zu (zu A 36 1 (yn k)) 36 2 (A 9 k)) 36 3 (yn i)) 36 4 (A 28 (8 * i + k))) 34 (4 * (t - lg) + i)))) fun t9 => some (t9.1, t9.2)) (Option.bind (f155_gives (yn lw) (zu (zu (zu (zu (zu (zu (zu (zu B 91 0 (yn (S - t))) 91 1 (yn k)) 91 2 (B 81 k)) 91 3 (yn i)) 91 4 (B 97 (8 * i + k))) 91 5 (yn (yful (fun q => A 34 (4 * (t - lg) + q)) a))) 91 6 f6) 91 7 f7)) fun t46 => some (t46.1, t46.2)) (fun x y => yTo a i x.1 y.1) := by
          intro f6 f7 e6 e7
          have hLz : yLaws nl (zu (zu (zu (zu (zu A 36 1 (yn k)) 36 2 (A 9 k)) 36 3 (yn i)) 36 4 (A 28 (8 * i + k))) 36 7 ((zu (zu (zu (zu A 36 1 (yn k)) 36 2 (A 9 k)) 36 3 (yn i)) 36 4 (A 28 (8 * i + k))) 34 (4 * (t - lg) + i))) (zu (zu (zu (zu (zu (zu (zu (zu B 91 0 (yn (S - t))) 91 1 (yn k)) 91 2 (B 81 k)) 91 3 (yn i)) 91 4 (B 97 (8 * i + k))) 91 5 (yn (yful (fun q => A 34 (4 * (t - lg) + q)) a))) 91 6 f6) 91 7 f7) := by
            refine yLaws_ag ?_ ?_ hL
            · exact yag_fr (W := [3699]) rfl (yfr_zu rfl (yfr_zu rfl (yfr_zu rfl (yfr_zu rfl (yfr_zu rfl (yfr_refl _))))))
            · exact yag_fr (W := [9199]) rfl (yfr_zu rfl (yfr_zu rfl (yfr_zu rfl (yfr_zu rfl (yfr_zu rfl (yfr_zu rfl (yfr_zu rfl (yfr_zu rfl (yfr_refl _)))))))))
          obtain ⟨x, y, g1, g2, g3⟩ := gives hLz hl (by
            intro j hj
            have hj8 : j = 0 ∨ j = 1 ∨ j = 2 ∨ j = 3 ∨ j = 4 ∨ j = 5 ∨ j = 6 ∨ j = 7 := by omega
            rcases hj8 with rfl | rfl | rfl | rfl | rfl | rfl | rfl | rfl
            · simp [zu_at, n2]
            · simp [zu_at]
            · simp [zu_at, r9]
            · simp [zu_at]
            · simp [zu_at, c1, c2]
            · simp [zu_at, n3]
            · simp [zu_at, n4, e6]
            · simp [zu_at, e7])
          rw [g1, g2]
          exact y2_some (Or.inl g3)
        rw [wl, n0]
        by_cases cl : lg ≤ t
        · rw [if_pos ((yn_le (by omega) (by omega)).mpr cl), yn_sub cl]
          have ix : ∀ q, q < 4 → 4 * yn (t - lg) + yn q = yn (4 * (t - lg) + q) := by
            intro q hq
            show yn 4 * yn (t - lg) + yn q = _
            rw [yn_mul, yn_add]
          obtain ⟨⟨x1, x2⟩, g1, g2⟩ := full (A := A) (T := t + 1) (sm := t - lg) ha0 hT0 hG (by omega) (by omega) (yn k) (yn i) (yn (S - t)) (yn lw) (yn (t - lg)) ix
          dsimp only at g2
          subst g2
          rw [g1, ob]
          refine y2_bifR hz8 (y2_bifR hz32 ?_)
          dsimp only
          rw [ix _ (by omega), ix i (by omega)]
          refine y2_bifR (zin_yn (by omega) (by omega)) (y2_bifR (zin_yn (by omega) (by omega)) ?_)
          rw [yn_nat (n := 4 * (t - lg) + yful (fun q => A 34 (4 * (t - lg) + q)) a) (by omega), yn_nat (n := 4 * (t - lg) + i) (by omega)]
          exact fin (hG _ _ (by omega) (by omega)) (hG _ _ (by omega) (by omega))
        · rw [if_neg (fun z => cl ((yn_le (by omega) (by omega)).mp z))]
          have ix : ∀ q, q < 4 → 4 * (0 : Int32) + yn q = yn (4 * (t - lg) + q) := by
            intro q hq
            have : t - lg = 0 := by omega
            rw [this]
            show yn 4 * yn 0 + yn q = _
            rw [yn_mul, yn_add]
          have ix0 : ∀ q, q < 4 → (0 : Int32) + yn q = yn (4 * (t - lg) + q) := by
            intro q hq
            have : t - lg = 0 := by omega
            rw [this]
            show yn 0 + yn q = _
            rw [yn_add]
          obtain ⟨⟨x1, x2⟩, g1, g2⟩ := full (A := A) (T := t + 1) (sm := t - lg) ha0 hT0 hG (by omega) (by omega) (yn k) (yn i) (yn (S - t)) (yn lw) 0 ix
          dsimp only at g2
          subst g2
          rw [g1, ob]
          refine y2_bifR hz8 (y2_bifR hz32 ?_)
          dsimp only
          rw [ix0 _ (by omega), ix0 i (by omega)]
          refine y2_bifR (zin_yn (by omega) (by omega)) (y2_bifR (zin_yn (by omega) (by omega)) ?_)
          rw [yn_nat (n := 4 * (t - lg) + yful (fun q => A 34 (4 * (t - lg) + q)) a) (by omega), yn_nat (n := 4 * (t - lg) + i) (by omega)]
          exact fin (hG _ _ (by omega) (by omega)) (hG _ _ (by omega) (by omega))
      · rw [if_neg (fun z => hl ((yn_lt (by omega) (by omega)).mp z)), if_neg (fun z => hl ((yIs_yn (by omega) (by omega)).mp z))]
        refine y2_bifL hz8 ?_
        obtain ⟨x, y, g1, g2, g3, g4⟩ := first hT0 hk (yn i)
        rw [g1, g2]
        refine y2_some ?_
        rcases g4 with g4 | ⟨g4, g5⟩
        · exact Or.inl g4
        · refine Or.inr ⟨?_, ?_⟩
          · rintro ⟨⟨m, hm, e⟩, -⟩
            have e : x = yn m := e
            rw [g4] at e
            exact yn_ne1 (n := m) (by omega) e.symm
          · rintro ⟨-, e⟩
            exact e g5
    by_cases c2 : yn k = B 73 50
    · rw [if_pos c2]
      rw [if_pos c2] at elw2
      rw [← elw2, elw]
      exact main
    · rw [if_neg c2]
      rw [if_neg c2] at elw2
      refine y2_bifR (zin_yn (by omega) (by omega)) ?_
      rw [← elw2, elw]
      exact main
