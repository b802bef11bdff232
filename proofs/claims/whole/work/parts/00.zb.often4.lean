theorem c_often {a w s nl : Nat} {A B : yI} (h : yRdy a w s nl A B) (v1 v2 : Int32) : y2 (f103_often v1 v2 A) (f185_often v1 v2 B) (yThQ2 A B) := by
  have h0 := h
  obtain ⟨hT, hD, hL, hR, h2⟩ := h
  obtain ⟨⟨ha, hw, hs⟩, ⟨a1, a2, a3⟩, ⟨b1, b2, b3⟩⟩ := hT.1
  unfold f103_often f185_often
  refine y2_ite Iff.rfl (fun _ => done_th2 h2) fun hn => ?_
  obtain ⟨m, hm, rfl⟩ : ∃ m, m < 2147483648 ∧ v2 = yn m := by
    refine ⟨v2.toInt.toNat, ?_, ?_⟩
    · have := i32_rg v2; omega
    · apply Int32.toInt_inj.mp
      have r := i32_rg v2
      rw [Int32.not_lt, Int32.le_iff_toInt_le] at hn
      have z : (0 : Int32).toInt = 0 := by decide
      rw [yn_toInt (by omega)]
      omega
  rw [yn_mod10 hm, yn_div10 hm, f126_e, f129_e, f126_e]
  simp only [ob, yb_ite0]
  by_cases hv : 1 ≤ yn (m / 10) ∧ yn (m / 10) ≤ 20
  · rw [if_pos hv, if_pos hv]
    have p0 : (0 : Int32) ≤ yn (m % 10) := yn_pos (by omega)
    by_cases hq : yn (m % 10) ≤ 2
    · rw [if_pos ⟨p0, hq⟩, if_pos hq, a1, b1]
      by_cases e : a = 0
      · rw [if_pos ((sq0 ha).mpr e), if_pos ((sq0 ha).mpr e)]
        exact done_th2 h2
      · rw [if_neg (fun z => e ((sq0 ha).mp z)), if_neg (fun z => e ((sq0 ha).mp z))]
        have a0 : 0 < a := by omega
        have hN : m / 10 ≤ 20 := by
          have := hv.2
          rw [show (20 : Int32) = yn 20 from rfl, yn_le (by omega) (by omega)] at this
          exact this
        obtain ⟨s6, k1, k2⟩ := oft_save hs b3 v1 (yn m)
        rw [k1, ob]
        have O0 : yOft s A B A s6.2 := by
          refine ⟨yfr_refl _, h2, fun b k hk => ?_, fun k hk => ?_, fun k hk => ?_⟩
          · by_cases g : b = 82
            · exact (if_pos g).trans (by rw [g])
            · rw [ybk_ne _ _ g, k2 b k]
              by_cases q : b = 107 ∧ k < s
              · exfalso
                obtain ⟨rfl, -⟩ := q
                have t : ymem kWR2 (ykey 107 k) = true := rfl
                rw [t] at hk; cases hk
              · rw [if_neg q]
          · rw [k2, if_neg (by omega)]
          · rw [k2, if_pos ⟨rfl, hk⟩]
        refine y2_bind (R := fun (x y : Int32 × Int32 × Int32 × yI) => x.2.1 = y.2.1 ∧ yOft s A B x.2.2.2 y.2.2.2) ?_ ?_
        · refine y2_for (m / 10) (fun i (x y : Int32 × Int32 × Int32 × yI) => x.1 = y.1 ∧ x.2.1 = y.2.1 ∧ x.2.2.1 = yn i ∧ y.2.2.1 = yn i ∧ yOft s A B x.2.2.2 y.2.2.2) (k := 0) ⟨rfl, rfl, rfl, rfl, O0⟩ (by omega) (by omega) ?_ ?_
          · rintro i ⟨x1, x2, x3, A'⟩ ⟨y1, y2', y3, B'⟩ - hi ⟨p1, p2, p3, p4, p5⟩
            dsimp only at p1 p2 p3 p4 p5
            subst p1 p2 p3 p4
            unfold f103_often_L59 f185_often_L73
            have g : ¬ yn (m / 10) ≤ yn i := by rw [yn_le (by omega) (by omega)]; omega
            obtain ⟨A1, x, y, A2, z, e1, e2, e3, q1, e4, e5, q2, q3⟩ := strewT h0 a0 p5 (yn m) x2 (yn i) x1
            rw [if_neg g, if_neg (show ¬ yn m / 10 ≤ yn i by rw [yn_div10 hm]; exact g)]
            dsimp only
            rw [e1, ob, e2, ob, e4, ob, e3, ob, e5, ob]
            refine y2_ite (by rw [q2, yn_mod10 hm]) (fun _ => ?_) fun _ => ?_
            · exact y2_some ⟨q1, rfl, yn_succ i, yn_succ i, q3⟩
            · exact y2_some ⟨q1, rfl, yn_succ i, yn_succ i, q3⟩
          · rintro ⟨x1, x2, x3, A'⟩ ⟨y1, y2', y3, B'⟩ ⟨p1, p2, p3, p4, p5⟩
            dsimp only at p1 p2 p3 p4 p5
            subst p1 p2 p3 p4
            unfold f103_often_L59 f185_often_L73
            rw [if_pos (Int32.le_refl _), if_pos (show yn m / 10 ≤ yn (m / 10) by rw [yn_div10 hm]; exact Int32.le_refl _)]
            exact y2_some ⟨rfl, p5⟩
        · rintro x y ⟨p1, p2, p3, p4, p5, p6⟩
          have b9 : y.2.2.2 73 9 = yn s := by
            have u := p4 73 9 rfl
            rw [ybk_ne _ _ (by omega)] at u
            rw [u]; exact b3
          obtain ⟨s22, j1, j2⟩ := oft_back hs b9 y.2.1
          rw [j1, ob]
          refine y2_some ⟨p1, p2, p3, fun b k hk => ?_⟩
          dsimp only
          rw [j2]
          by_cases g : b = 82
          · subst g
            by_cases q : k < s
            · rw [if_pos ⟨rfl, q⟩]; exact p6 k q
            · rw [if_neg (fun z => q z.2)]; exact p5 k (by omega)
          · rw [if_neg (fun z => g z.1), ← ybk_ne B y.2.2.2 g]
            exact p4 b k hk
    · rw [if_neg (fun z => hq z.2), if_neg hq]
      exact done_th2 h2
  · rw [if_neg hv, if_neg hv]
    exact done_th2 h2
