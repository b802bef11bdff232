/-! RUN: the run that is kept -/
theorem asIn_K {a w s : Nat} {A B : yI} (hT : yTown a w s A B) (hR : yTrans B) (h2 : yIs 4 (A 25 2)) : ∃ (A' : yI) (S : Nat), f81_asIn_25 A = some A' ∧ A 1 3 = yn S ∧ B 73 15 = yn S ∧ yWish a s S A' B ∧ A' 25 3 = 0 ∧ yfr [2500, 2501, 2503, 2504, 2699, 2799] A A' := by
  obtain ⟨⟨⟨ha, hw, hs⟩, -⟩, ⟨⟨⟨S, hS1, hS, eS⟩, r3⟩, ⟨⟨lg, hl1, hl, el⟩, r4⟩, -⟩, -, -, hSo⟩ := hT
  obtain ⟨t1, t2, t3⟩ := hR
  unfold f81_asIn_25
  have zc : zcpok 0 0 8 8 8 = true := by decide
  have k0 : (0 : Int32).toNatClampNeg = 0 := by decide
  have k8 : (8 : Int32).toNatClampNeg = 8 := by decide
  rw [zc]
  have fr : yfr [2500, 2501, 2503, 2504, 2699, 2799] A (zcp (zcp (zu (zu (zu (zu A 25 0 (A 1 3)) 25 1 (A 1 4)) 25 3 0) 25 4 (-1)) 10 26 0 0 8) 12 27 0 0 8) := yfr_zcp (fun _ => rfl) (yfr_zcp (fun _ => rfl) (yfr_zu rfl (yfr_zu rfl (yfr_zu rfl (yfr_zu rfl (yfr_refl _))))))
  have q0 : (zcp (zcp (zu (zu (zu (zu A 25 0 (A 1 3)) 25 1 (A 1 4)) 25 3 0) 25 4 (-1)) 10 26 0 0 8) 12 27 0 0 8) 25 0 = yn S := by simp [zcp_at, zu_at, eS]
  have q1 : (zcp (zcp (zu (zu (zu (zu A 25 0 (A 1 3)) 25 1 (A 1 4)) 25 3 0) 25 4 (-1)) 10 26 0 0 8) 12 27 0 0 8) 25 1 = yn lg := by simp [zcp_at, zu_at, el]
  have q3 : (zcp (zcp (zu (zu (zu (zu A 25 0 (A 1 3)) 25 1 (A 1 4)) 25 3 0) 25 4 (-1)) 10 26 0 0 8) 12 27 0 0 8) 25 3 = 0 := by simp [zcp_at, zu_at]
  have q4 : (zcp (zcp (zu (zu (zu (zu A 25 0 (A 1 3)) 25 1 (A 1 4)) 25 3 0) 25 4 (-1)) 10 26 0 0 8) 12 27 0 0 8) 25 4 = -1 := by simp [zcp_at, zu_at]
  have q40 : ∀ k, k < 8 → (zcp (zcp (zu (zu (zu (zu A 25 0 (A 1 3)) 25 1 (A 1 4)) 25 3 0) 25 4 (-1)) 10 26 0 0 8) 12 27 0 0 8) 26 k = A 10 k := fun k hk => by simp [zcp_at, zu_at, k0, k8, hk]
  have q41 : ∀ k, k < 8 → (zcp (zcp (zu (zu (zu (zu A 25 0 (A 1 3)) 25 1 (A 1 4)) 25 3 0) 25 4 (-1)) 10 26 0 0 8) 12 27 0 0 8) 27 k = A 12 k := fun k hk => by simp [zcp_at, zu_at, k0, k8, hk]
  refine ⟨_, S, rfl, eS, by rw [r3, eS], ?_, q3, fr⟩
  generalize zcp (zcp (zu (zu (zu (zu A 25 0 (A 1 3)) 25 1 (A 1 4)) 25 3 0) 25 4 (-1)) 10 26 0 0 8) 12 27 0 0 8 = Z at fr q0 q1 q3 q4 q40 q41
  refine ⟨⟨q0, hS1, hS⟩, ⟨⟨lg, by omega, hl, q1⟩, by rw [r4, el, q1]⟩, ⟨by rw [fr 25 2 rfl]; exact h2, ⟨0, by omega, by omega, q3⟩, by rw [t1, q3], Or.inl q3⟩, ⟨by rw [t2, q4], Or.inl q4⟩, fun k hk => ?_, fun k hk => ?_⟩
  · obtain ⟨-, -, ⟨p1, p2⟩, -⟩ := hSo k hk
    rw [q40 k (by omega)]
    exact ⟨p2, p1⟩
  · obtain ⟨-, -, -, -, ⟨p1, p2⟩⟩ := hSo k hk
    rw [q41 k (by omega), t3, if_neg (yn_ne1 (by omega)), p2]
    exact ⟨p1, rfl⟩
theorem ysum_split (f : Nat → Int32) (m : Nat) : ∀ n, ysum f (m + n) = ysum f m + ysum (fun k => f (m + k)) n
  | 0 => by
    show ysum f m = ysum f m + 0
    rw [Int32.add_zero]
  | n + 1 => by
    show ysum f (m + n) + f (m + n) = ysum f m + (ysum (fun k => f (m + k)) n + f (m + n))
    rw [ysum_split f m n, Int32.add_assoc]
theorem ysum_pair (f g : Nat → Int32) : ∀ n, ysum (fun k => f k + g k) n = ysum f n + ysum g n
  | 0 => by
    show (0 : Int32) = 0 + 0
    rw [Int32.add_zero]
  | n + 1 => by
    show ysum (fun k => f k + g k) n + (f n + g n) = (ysum f n + f n) + (ysum g n + g n)
    rw [ysum_pair f g n, Int32.add_assoc, Int32.add_assoc]
    congr 1
    rw [← Int32.add_assoc, ← Int32.add_assoc, Int32.add_comm (ysum g n)]
theorem run1 {s : Nat} {B : yI} (hs : s ≤ 8) (b3 : B 73 9 = yn s) (b0 : B 73 59 = 0) : yP (zloop f174_run_L74 5000 ((0 : Int32), B)) (fun x => yfr [7359] B x.2 ∧ x.2 73 59 = ysum (fun k => B 80 k) s) := by
  refine yP_for s (fun i x => x.1 = yn i ∧ yfr [7359] B x.2 ∧ x.2 73 59 = ysum (fun k => B 80 k) i) (k := 0) ⟨rfl, yfr_refl _, b0⟩ (by omega) (by omega) ?_ ?_
  · rintro i x hi ⟨e1, e2, e3⟩
    unfold f174_run_L74
    rw [e1, yn_succ, yn_nat (n := i) (by omega), e3, e2 80 i rfl]
    refine yP_neg (by rw [e2 73 9 rfl, b3, yn_le (by omega) (by omega)]; omega) (yP_bif (zin_yn (by omega) (by omega)) (yP_some ⟨rfl, yfr_zu rfl e2, by dsimp only; exact zu_same _ _ _ _⟩))
  · rintro x ⟨e1, e2, e3⟩
    unfold f174_run_L74
    rw [e1]
    exact yP_pos (by rw [e2 73 9 rfl, b3]; exact Int32.le_refl _) (yP_some ⟨e2, e3⟩)
theorem run2 {B : yI} : yP (zloop f174_run_L105 5000 ((0 : Int32), B)) (fun x => yfr [7359] B x.2 ∧ x.2 73 59 = B 73 59 - ysum (fun e => B 97 e) 32) := by
  refine yP_for 32 (fun i x => x.1 = yn i ∧ yfr [7359] B x.2 ∧ x.2 73 59 = B 73 59 - ysum (fun e => B 97 e) i) (k := 0) ⟨rfl, yfr_refl _, by show B 73 59 = B 73 59 - 0; rw [Int32.sub_zero]⟩ (by omega) (by omega) ?_ ?_
  · rintro i x hi ⟨e1, e2, e3⟩
    unfold f174_run_L105
    rw [e1, yn_succ, yn_nat (n := i) (by omega), e3, e2 97 i rfl]
    refine yP_neg (by show ¬ yn 32 ≤ yn i
                      rw [yn_le (by omega) (by omega)]; omega) (yP_bif (zin_yn (by omega) (by omega)) (yP_some ⟨rfl, yfr_zu rfl e2, ?_⟩))
    dsimp only
    rw [zu_same]
    show _ = B 73 59 - (ysum (fun e => B 97 e) i + B 97 i)
    rw [i_sub_add]
  · rintro x ⟨e1, e2, e3⟩
    unfold f174_run_L105
    rw [e1]
    exact yP_pos (Int32.le_refl _) (yP_some ⟨e2, e3⟩)
theorem run3 {B : yI} : yP (zloop f174_run_L134 5000 ((0 : Int32), B)) (fun x => yfr [10499] B x.2 ∧ ∀ j, j < 1952 → x.2 104 j = B 100 j) := by
  refine yP_for 1952 (fun i x => x.1 = yn i ∧ yfr [10499] B x.2 ∧ ∀ j, j < i → x.2 104 j = B 100 j) (k := 0) ⟨rfl, yfr_refl _, fun j hj => absurd hj (Nat.not_lt_zero _)⟩ (by omega) (by omega) ?_ ?_
  · rintro i x hi ⟨e1, e2, e3⟩
    unfold f174_run_L134
    rw [e1, yn_succ, yn_nat (n := i) (by omega), e2 100 i rfl]
    refine yP_neg (by show ¬ yn 1952 ≤ yn i
                      rw [yn_le (by omega) (by omega)]; omega) (yP_bif (zin_yn (by omega) (by omega)) (yP_bif (zin_yn (by omega) (by omega)) (yP_some ⟨rfl, yfr_zu rfl e2, fun j hj => ?_⟩)))
    dsimp only
    by_cases g : j = i
    · subst g
      rw [zu_same]
    · rw [zu_nej g]
      exact e3 j (by omega)
  · rintro x ⟨e1, e2, e3⟩
    unfold f174_run_L134
    rw [e1]
    exact yP_pos (Int32.le_refl _) (yP_some ⟨e2, e3⟩)
theorem run4 {a : Nat} {B : yI} (ha : a ≤ 4) (b1 : B 73 1 = yn a) : yP (zloop f174_run_L161 5000 ((0 : Int32), B)) (fun x => yfr [10599] B x.2 ∧ ∀ j, j < a → x.2 105 j = B 103 j) := by
  refine yP_for a (fun i x => x.1 = yn i ∧ yfr [10599] B x.2 ∧ ∀ j, j < i → x.2 105 j = B 103 j) (k := 0) ⟨rfl, yfr_refl _, fun j hj => absurd hj (Nat.not_lt_zero _)⟩ (by omega) (by omega) ?_ ?_
  · rintro i x hi ⟨e1, e2, e3⟩
    unfold f174_run_L161
    rw [e1, yn_succ, yn_nat (n := i) (by omega), e2 103 i rfl]
    refine yP_neg (by rw [e2 73 1 rfl, b1, yn_le (by omega) (by omega)]; omega) (yP_bif (zin_yn (by omega) (by omega)) (yP_bif (zin_yn (by omega) (by omega)) (yP_some ⟨rfl, yfr_zu rfl e2, fun j hj => ?_⟩)))
    dsimp only
    by_cases g : j = i
    · subst g
      rw [zu_same]
    · rw [zu_nej g]
      exact e3 j (by omega)
  · rintro x ⟨e1, e2, e3⟩
    unfold f174_run_L161
    rw [e1]
    exact yP_pos (by rw [e2 73 1 rfl, b1]; exact Int32.le_refl _) (yP_some ⟨e2, e3⟩)
theorem many_sum {a w s : Nat} {A B : yI} (hT : yTown a w s A B) : ysum (fun k => B 80 k) s = ywant A 0 s + ywant A 1 s := by
  unfold ywant
  rw [← ysum_pair]
  refine ysum_congr fun k hk => ?_
  obtain ⟨⟨-, e8⟩, ⟨⟨m, -, hm, e9⟩, -⟩, -⟩ := hT.2.2.2.2 k hk
  rw [e8, e9]
  have : m = 0 ∨ m = 1 := by omega
  rcases this with rfl | rfl
  · rw [if_pos (show yn 0 = 0 from rfl), if_neg (show ¬ yn 0 = 1 by decide), Int32.add_zero]
  · rw [if_neg (show ¬ yn 1 = 0 by decide), if_pos (show yn 1 = 1 from rfl), Int32.zero_add]
theorem c_run {a w s nl : Nat} {A B : yI} (hT : yTown a w s A B) (hD : yMD A w) (hL : yLaws nl A B) (hR : yTrans B) (h2 : yIs 4 (A 25 2)) (hK : yKept A B) : y2 (f96_run A) (f174_run B) (fun x y => x.1 = y.1 ∧ yKept x.2 y.2) := by
  obtain ⟨⟨ha, hw, hs⟩, ⟨a1, a2, a3⟩, ⟨b1, b2, b3⟩⟩ := hT.1
  unfold f96_run f174_run
  rw [a1, b1]
  by_cases e : a = 0
  · rw [if_pos ((sq0 ha).mpr e), if_pos ((sq0 ha).mpr e)]
    exact y2_some ⟨rfl, hK⟩
  · rw [if_neg (fun z => e ((sq0 ha).mp z)), if_neg (fun z => e ((sq0 ha).mp z))]
    obtain ⟨A1, S, e1, eS, eS', hW, z3, fr⟩ := asIn_K hT hR h2
    have hTw : yTw a w s A1 B := yTw_ag (yag_fr rfl fr) (yag_refl _) (yTown_Tw hT hD)
    have hL1 : yLaws nl A1 B := yLaws_ag (yag_fr rfl fr) (yag_refl _) hL
    obtain ⟨A2, y, k2, k3, k4, d1, d2, d3, d4, d5, d6, d7, d8, d9, d10, c, d11, d12, d13⟩ := pass (by omega) hTw hW hL1
    have f2 : yfr w_f40_pass_24 A1 A2 := (fr_f40_pass_24 _) _ k2
    have f3 : yfr w_f171_goTo B y.2 := (fr_f171_goTo _ _) _ k3
    have hS6 := hW.1.2.2
    rw [e1, ob, k2, ob, eS', k3, ob]
    have g1 : y.2 73 15 = yn S := by rw [f3 73 15 rfl]; exact eS'
    have g2 : y.2 73 1 = yn a := by rw [f3 73 1 rfl]; exact b1
    have g3 : y.2 73 9 = yn s := by rw [f3 73 9 rfl]; exact b3
    have fB : yfr [7355, 7356, 7357, 7358, 7359, 7360, 7361] y.2 (zu (zu (zu (zu (zu (zu (zu y.2 73 55 (y.2 73 15)) 73 56 (y.2 73 53)) 73 57 (y.2 73 52)) 73 58 (y.2 73 54)) 73 60 (y.2 73 1)) 73 61 (y.2 73 9)) 73 59 0) := yfr_zu rfl (yfr_zu rfl (yfr_zu rfl (yfr_zu rfl (yfr_zu rfl (yfr_zu rfl (yfr_zu rfl (yfr_refl _)))))))
    have m55 : (zu (zu (zu (zu (zu (zu (zu y.2 73 55 (y.2 73 15)) 73 56 (y.2 73 53)) 73 57 (y.2 73 52)) 73 58 (y.2 73 54)) 73 60 (y.2 73 1)) 73 61 (y.2 73 9)) 73 59 0) 73 55 = yn S := by simp [zu_at, g1]
    have m56 : (zu (zu (zu (zu (zu (zu (zu y.2 73 55 (y.2 73 15)) 73 56 (y.2 73 53)) 73 57 (y.2 73 52)) 73 58 (y.2 73 54)) 73 60 (y.2 73 1)) 73 61 (y.2 73 9)) 73 59 0) 73 56 = A2 24 16 := by simp [zu_at, d3]
    have m57 : (zu (zu (zu (zu (zu (zu (zu y.2 73 55 (y.2 73 15)) 73 56 (y.2 73 53)) 73 57 (y.2 73 52)) 73 58 (y.2 73 54)) 73 60 (y.2 73 1)) 73 61 (y.2 73 9)) 73 59 0) 73 57 = A2 24 17 := by simp [zu_at, d4]
    have m58 : (zu (zu (zu (zu (zu (zu (zu y.2 73 55 (y.2 73 15)) 73 56 (y.2 73 53)) 73 57 (y.2 73 52)) 73 58 (y.2 73 54)) 73 60 (y.2 73 1)) 73 61 (y.2 73 9)) 73 59 0) 73 58 = A2 24 18 := by simp [zu_at, d5]
    have m60 : (zu (zu (zu (zu (zu (zu (zu y.2 73 55 (y.2 73 15)) 73 56 (y.2 73 53)) 73 57 (y.2 73 52)) 73 58 (y.2 73 54)) 73 60 (y.2 73 1)) 73 61 (y.2 73 9)) 73 59 0) 73 60 = yn a := by simp [zu_at, g2]
    have m61 : (zu (zu (zu (zu (zu (zu (zu y.2 73 55 (y.2 73 15)) 73 56 (y.2 73 53)) 73 57 (y.2 73 52)) 73 58 (y.2 73 54)) 73 60 (y.2 73 1)) 73 61 (y.2 73 9)) 73 59 0) 73 61 = yn s := by simp [zu_at, g3]
    have m59 : (zu (zu (zu (zu (zu (zu (zu y.2 73 55 (y.2 73 15)) 73 56 (y.2 73 53)) 73 57 (y.2 73 52)) 73 58 (y.2 73 54)) 73 60 (y.2 73 1)) 73 61 (y.2 73 9)) 73 59 0) 73 59 = 0 := zu_same _ _ _ _
    generalize (zu (zu (zu (zu (zu (zu (zu y.2 73 55 (y.2 73 15)) 73 56 (y.2 73 53)) 73 57 (y.2 73 52)) 73 58 (y.2 73 54)) 73 60 (y.2 73 1)) 73 61 (y.2 73 9)) 73 59 0) = B2 at *
    obtain ⟨x1, r1, p1, q1⟩ := run1 (B := B2) hs (by rw [fB 73 9 rfl]; exact g3) m59
    obtain ⟨x2, r2, p2, q2⟩ := run2 (B := x1.2)
    obtain ⟨x3, r3, p3, q3⟩ := run3 (B := x2.2)
    obtain ⟨x4, r4, p4, q4⟩ := run4 (a := a) (B := x3.2) ha (by rw [p3 73 1 rfl, p2 73 1 rfl, p1 73 1 rfl, fB 73 1 rfl]; exact g2)
    rw [r1, ob, r2, ob, r3, ob, r4, ob]
    have z52 : x4.2 73 52 = A2 24 17 := by rw [p4 73 52 rfl, p3 73 52 rfl, p2 73 52 rfl, p1 73 52 rfl, fB 73 52 rfl]; exact d4
    refine y2_some ⟨z52.symm, Or.inr ⟨?_, a, s, S, ha, hs, hS6, ⟨?_, ?_⟩, ⟨?_, ?_⟩, ⟨?_, ?_⟩, ⟨?_, ?_, ?_, ?_⟩, fun i hi => ?_, fun t c ht hc => ?_, fun t i k ht hi hk hsk => ?_⟩⟩
    · dsimp only
      exact zu_same _ _ _ _
    · dsimp only
      rw [zu_ne (by omega)]; exact d1
    · dsimp only
      rw [p4 73 55 rfl, p3 73 55 rfl, p2 73 55 rfl, p1 73 55 rfl]; exact m55
    · dsimp only
      rw [zu_ne (by omega)]; exact d7
    · dsimp only
      rw [p4 73 60 rfl, p3 73 60 rfl, p2 73 60 rfl, p1 73 60 rfl]; exact m60
    · dsimp only
      rw [zu_ne (by omega)]; exact d8
    · dsimp only
      rw [p4 73 61 rfl, p3 73 61 rfl, p2 73 61 rfl, p1 73 61 rfl]; exact m61
    · dsimp only
      rw [zu_ne (by omega), p4 73 56 rfl, p3 73 56 rfl, p2 73 56 rfl, p1 73 56 rfl]; exact m56
    · dsimp only
      rw [zu_ne (by omega), p4 73 57 rfl, p3 73 57 rfl, p2 73 57 rfl, p1 73 57 rfl]; exact m57
    · dsimp only
      rw [zu_ne (by omega), p4 73 58 rfl, p3 73 58 rfl, p2 73 58 rfl, p1 73 58 rfl]; exact m58
    · dsimp only
      have f9 : A2 25 3 = 0 := by rw [f2 25 3 rfl]; exact z3
      have w0 : ∀ v, ywant A2 v s = ywant A v s := by
        intro v
        unfold ywant
        refine ysum_congr fun k _ => ?_
        rw [f2 9 k rfl, fr 9 k rfl, f2 8 k rfl, fr 8 k rfl]
      have s80 : ysum (fun k => B2 80 k) s = ywant A 0 s + ywant A 1 s := by
        rw [← many_sum hT]
        exact ysum_congr fun k _ => by rw [fB 80 k rfl, f3 80 k rfl]
      have s97 : ysum (fun e => x1.2 97 e) 32 = ysum (fun k => c k) 8 + ysum (fun k => c (8 + k)) 8 + ysum (fun k => c (16 + k)) 8 + ysum (fun k => c (24 + k)) 8 := by
        have : ysum (fun e => x1.2 97 e) 32 = ysum c (8 + 8 + 8 + 8) := ysum_congr fun i hi => by rw [p1 97 i rfl, fB 97 i rfl]; exact d11 i (by omega)
        rw [this, ysum_split c (8 + 8 + 8) 8, ysum_split c (8 + 8) 8, ysum_split c 8 8]
      rw [zu_ne (by omega), p4 73 59 rfl, p3 73 59 rfl, q2, q1, d13 f9, w0, w0, s80, s97, i_sub_add, i_sub_add, i_sub_add]
    · dsimp only
      rw [zu_ne (by omega), q4 i hi, p3 103 i rfl, p2 103 i rfl, p1 103 i rfl, fB 103 i rfl]
      exact d6 i hi
    · dsimp only
      rw [zu_ne (by omega), p4 104 _ rfl, q3 _ (by omega), p2 100 _ rfl, p1 100 _ rfl, fB 100 _ rfl]
      exact d9 t c ht hc
    · dsimp only
      rw [zu_ne (by omega)]
      exact d10 t i k ht hi hk hsk
