theorem c_bell {a w s nl nb : Nat} {A B : yI} {JA JB : yJ} (hnb : nb ≤ 50) (h : yRdy a w s nl A B) (hS : ySh nb A B JA JB) (v1 v2 : Int32) : y2 (f105_bell v1 v2 A JA) (f187_bell v1 v2 B JB) (yThQ2 A B) := by
  have h0 := h
  obtain ⟨hT, hD, hL, hR, h2⟩ := h
  obtain ⟨⟨ha, hw, hs⟩, ⟨a1, a2, a3⟩, ⟨b1, b2, b3⟩⟩ := hT.1
  obtain ⟨⟨S, hS1, hS6, eS⟩, eS'⟩ := hT.2.1.1
  unfold f105_bell f187_bell
  rw [f127_e, f210_e, f126_e, f129_e]
  simp only [ob, yb_ite0]
  by_cases hv : yIs 6 v1
  · rw [if_pos hv, if_pos hv]
    by_cases hq : 0 ≤ v2 ∧ v2 ≤ 2
    · rw [if_pos hq, if_pos hq]
      obtain ⟨i, hi, rfl⟩ := hv
      have z6 : zin (yn i) 6 = true := zin_yn (by omega) (by omega)
      refine y2_bifL z6 (y2_bifR z6 ?_)
      rw [zshelf_yn hi, yn_nat (by omega)]
      obtain ⟨hs1, hJ⟩ := hS i hi
      rcases hs1 with he | hb | ⟨t, n, hr⟩
      · rw [(empty_e he).2, ob, if_neg (by decide), if_pos he.2.2.2]
        exact done_th2 h2
      · obtain ⟨b, hb1, hb2, hb3, hb4, hb5⟩ := id hb
        rw [(body_e hnb hb).2.2, ob, if_neg (by decide), if_neg (by rw [hb5]; exact yn_ne1 (by omega))]
        refine y2_bifR z6 ?_
        rw [if_neg (by
          rw [hb5]; intro z
          have := yn_pos (n := b) (by omega)
          rw [z] at this
          exact absurd this (by decide))]
        exact done_th2 h2
      · obtain ⟨ht, hn, g1, g2, g3, g4, g5, g6⟩ := id hr
        have b110 : B 110 i ≠ -1 ∧ (B 110 i = -2 ↔ t = 0) := by
          rw [g4]
          have : t = 0 ∨ t = 1 ∨ t = 2 ∨ t = 3 ∨ t = 4 := by omega
          rcases this with rfl | rfl | rfl | rfl | rfl <;> decide
        rw [show (f55_refusal (61 + 2 * i) 0 A) = some (if 0 = t then 0 else -12) from (row_e hr).2.2.2 0 (by omega), ob, if_neg b110.1]
        refine y2_bifR z6 ?_
        by_cases t0 : t = 0
        · subst t0
          rw [if_pos rfl, if_pos rfl, if_pos (b110.2.mpr rfl)]
          refine y2_bifR z6 ?_
          rw [g3, g5]
          refine y2_ite Iff.rfl (fun h10 => ?_) fun _ => done_th2 h2
          rw [show (10 : Int32) = yn 10 from rfl, yn_le (by omega) (by omega)] at h10
          obtain ⟨x, y, e1, e2, e3⟩ := bell_sum (B := B) (JB := JB) hi ⟨h10, hn⟩ g3 g6 hJ v2
          rw [e1, ob, e2]
          rcases y with r | r
          · obtain ⟨rfl, rfl⟩ := e3
            exact done_th2 h2
          · obtain ⟨rfl, hm⟩ := e3
            show y2 (if yb (r.1 = 100) = 0 then _ else _) (if r.1 = 100 then _ else _) _
            rw [yb_ite0]
            by_cases c : r.1 = 100
            · rw [if_pos c, if_pos c, a1, b1]
              by_cases e : a = 0
              · rw [if_pos ((sq0 ha).mpr e), if_pos ((sq0 ha).mpr e)]
                exact done_th2 h2
              · rw [if_neg (fun z => e ((sq0 ha).mp z)), if_neg (fun z => e ((sq0 ha).mp z))]
                have a0 : 0 < a := by omega
                have key : y2 (zloop (f105_bell_L81 v2 (61 + 2 * i) JA) 5000 ((0 : Int32), (0 : Int32), A)) (zloop (f187_bell_L136 (yn i) v2 JB) 5000 ((0 : Int32), (0 : Int32), B)) (fun (x y : Int32 × Int32 × yI) => x.1 = y.1 ∧ yfr kWT A x.2.2 ∧ yIs 4 (x.2.2 39 2) ∧ yfr kWR2 B y.2.2) := by
                  refine y2_for 10 (fun k (x y : Int32 × Int32 × yI) => x.2.1 = yn k ∧ y.2.1 = yn k ∧ x.1 = y.1 ∧ yfr kWT A x.2.2 ∧ yIs 4 (x.2.2 39 2) ∧ yfr kWR2 B y.2.2) (k := 0) ⟨rfl, rfl, rfl, yfr_refl _, h2, yfr_refl _⟩ (by omega) (by omega) ?_ ?_
                  · rintro k ⟨x1, x2, A'⟩ ⟨y1, y2', B'⟩ - hk ⟨p1, p2, p3, p4, p5, p6⟩
                    dsimp only at p1 p2 p3 p4 p5 p6
                    subst p1 p2 p3
                    unfold f105_bell_L81 f187_bell_L136
                    have g : ¬ (10 : Int32) ≤ yn k := by
                      show ¬ yn 10 ≤ yn k
                      rw [yn_le (by omega) (by omega)]; omega
                    rw [if_neg g, if_neg g]
                    dsimp only
                    have sz : A' (61 + 2 * i) 2 = yn n := by
                      rw [p4 (61 + 2 * i) 2 ?_, g3]
                      have : i = 0 ∨ i = 1 ∨ i = 2 ∨ i = 3 ∨ i = 4 ∨ i = 5 := by omega
                      rcases this with rfl | rfl | rfl | rfl | rfl | rfl <;> rfl
                    obtain ⟨m, hm1, hm2⟩ := hm k hk
                    obtain ⟨d, d1, d2, d3, d4, d5⟩ := bell_stroke hS1 hS6 hk
                    have eB : B' 73 15 = yn S := by rw [p6 73 15 rfl, eS', eS]
                    obtain ⟨A1, A2, y, k1, k2, k3, k4, k5, k6, k7, k8⟩ := bellT h0 a0 d1 d2 p4 p5 p6
                    have ei : 60 * yn i + yn k = yn (60 * i + k) := by
                      rw [show (60 : Int32) = yn 60 from rfl, yn_mul, yn_add]
                    have z360 : zin (yn (60 * i + k)) 360 = true := zin_yn (by omega) (by omega)
                    have right : f187_bell_L136 (yn i) v2 JB (x1, yn k, B') = some (.inr (if y.1 = v2 then x1 + yn m else x1, yn (k + 1), y.2)) := by
                      unfold f187_bell_L136
                      rw [if_neg g]
                      dsimp only
                      by_cases c1 : (1 : Int32) ≤ yn S - yn k
                      · rw [if_pos (by rw [eB]; exact c1), eB, d4 c1, k4, ob, ei, z360, yn_nat (by omega), hJ k (by omega), hm2, yn_succ]
                        by_cases q : y.1 = v2
                        · rw [if_pos q, if_pos q]; rfl
                        · rw [if_neg q, if_neg q]
                      · have k4' : f171_goTo 1 B' = some y := by rw [d5 c1]; exact k4
                        rw [if_neg (by rw [eB]; exact c1), k4', ob, ei, z360, yn_nat (by omega), hJ k (by omega), hm2, yn_succ]
                        by_cases q : y.1 = v2
                        · rw [if_pos q, if_pos q]; rfl
                        · rw [if_neg q, if_neg q]
                    unfold f187_bell_L136 at right
                    rw [if_neg g] at right
                    rw [right, f57_ok (n := n) (by omega) hn sz, ob, hm2]
                    have m0 : yn m ≤ 0 ↔ m = 0 := by
                      rw [show (0 : Int32) = yn 0 from rfl, yn_le (by omega) (by omega)]
                      omega
                    by_cases c0 : m = 0
                    · rw [if_pos (m0.mpr c0)]
                      refine y2_some ⟨yn_succ k, rfl, ?_, p4, p5, k8⟩
                      dsimp only
                      subst c0
                      rw [show yn 0 = (0 : Int32) from rfl, Int32.add_zero, ite_self]
                    · rw [if_neg (fun z => c0 (m0.mp z)), k1, ob]
                      have es : A1 1 3 = yn S := by rw [k2, eS]
                      rw [es, d3, k3, ob, ← k5]
                      by_cases q : y.1 = v2
                      · rw [if_pos q, if_pos q]
                        exact y2_some ⟨yn_succ k, rfl, rfl, k6, k7, k8⟩
                      · rw [if_neg q, if_neg q]
                        exact y2_some ⟨yn_succ k, rfl, Int32.add_zero _, k6, k7, k8⟩
                  · rintro ⟨x1, x2, A'⟩ ⟨y1, y2', B'⟩ ⟨p1, p2, p3, p4, p5, p6⟩
                    dsimp only at p1 p2 p3 p4 p5 p6
                    subst p1 p2 p3
                    unfold f105_bell_L81 f187_bell_L136
                    rw [if_pos (show (10 : Int32) ≤ yn 10 from Int32.le_refl _), if_pos (show (10 : Int32) ≤ yn 10 from Int32.le_refl _)]
                    exact y2_some ⟨rfl, p4, p5, p6⟩
                obtain ⟨x, y, e1, e2, e3⟩ := key
                rw [e1, e2, ob, ob]
                exact y2_some e3
            · rw [if_neg c, if_neg c]
              exact done_th2 h2
        · rw [show (if 0 = t then (0 : Int32) else -12) = -12 from if_neg (fun z => t0 z.symm), if_neg (show ¬ (-12 : Int32) = 0 by decide), if_neg (fun z => t0 (b110.2.mp z))]
          exact done_th2 h2
    · rw [if_neg hq, if_neg hq]
      exact done_th2 h2
  · rw [if_neg hv, if_neg hv]
    exact done_th2 h2
