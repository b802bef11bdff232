/-! THE RUN THAT IS KEPT: TOLD -/
def yKept (A B : yI) : Prop := (A 0 7 = 0 ∧ B 73 55 = -1) ∨ (A 0 7 = 1 ∧ ∃ ka ks S, ka ≤ 4 ∧ ks ≤ 8 ∧ S ≤ 60 ∧ (A 25 0 = yn S ∧ B 73 55 = yn S) ∧ (A 24 13 = yn ka ∧ B 73 60 = yn ka) ∧ (A 24 14 = yn ks ∧ B 73 61 = yn ks) ∧ (B 73 56 = A 24 16 ∧ B 73 57 = A 24 17 ∧ B 73 58 = A 24 18 ∧ B 73 59 = A 24 19) ∧ (∀ i, i < ka → B 105 i = A 37 i) ∧ (∀ t c, t < S + 1 → c < 32 → B 104 (32 * t + c) = A 33 (32 * t + c)) ∧ ∀ t i k, t < S + 1 → i < 4 → k < 8 → ks ≤ k → A 33 (32 * t + (8 * i + k)) = 0)
theorem f36_e {ka : Nat} {A : yI} (h : A 24 13 = yn ka) (hk : ka ≤ 4) (v : Int32) : f36_hasSquare_24 v A = some (yb (yIs ka v)) := by
  unfold f36_hasSquare_24
  rw [h]
  by_cases h1 : v < 0
  · rw [if_pos h1, yb_f]; rw [yIs_iff (by omega)]; exact fun h => Int32.not_le.mpr h1 h.1
  · rw [if_neg h1]
    by_cases h2 : yn ka ≤ v
    · rw [if_pos h2, yb_f]; rw [yIs_iff (by omega)]; exact fun h => Int32.not_le.mpr h.2 h2
    · rw [if_neg h2, yb_t]; rw [yIs_iff (by omega)]; exact ⟨Int32.not_lt.mp h1, Int32.not_le.mp h2⟩
theorem c_told {A B : yI} (h : yKept A B) (v : Int32) : ∃ r, f98_told v A = some r ∧ f176_told v B = some r := by
  unfold f98_told f176_told
  rcases h with ⟨h1, h2⟩ | ⟨h1, ka, ks, S, hka, hks, hS, ⟨g1, g2⟩, ⟨g3, g4⟩, -, ⟨g5, g6, g7, g8⟩, g9, -⟩
  · rw [if_pos h1, if_neg (show ¬ (0 : Int32) ≤ B 73 55 by rw [h2]; decide)]
    exact ⟨_, rfl, rfl⟩
  · have e9 : 9 + B 73 60 = yn (9 + ka) := by
      rw [g4]
      show yn 9 + yn ka = _
      rw [yn_add]
    rw [if_neg (show ¬ A 0 7 = 0 by rw [h1]; decide), if_pos (show (0 : Int32) ≤ B 73 55 by rw [g2]; exact yn_pos (by omega)), f129_e, f36_e g3 hka, e9]
    simp only [ob, yb_ite0]
    by_cases c0 : v = 0
    · subst c0
      rw [if_pos (by decide), if_neg (show ¬ ((10 : Int32) ≤ 0 ∧ (0 : Int32) ≤ yn (9 + ka)) from fun z => absurd z.1 (by decide)), if_pos (by decide)]
      exact ⟨_, rfl, by rw [g1, g2]⟩
    · have n0 : ¬ v.toInt = 0 := fun z => c0 (Int32.toInt_inj.mp z)
      rw [if_neg n0]
      by_cases c1 : v = 1
      · subst c1
        rw [if_pos (by decide), if_neg (show ¬ ((10 : Int32) ≤ 1 ∧ (1 : Int32) ≤ yn (9 + ka)) from fun z => absurd z.1 (by decide)), if_neg (by decide), if_pos (by decide), g5]
        exact ⟨_, rfl, rfl⟩
      · have n1 : ¬ v.toInt = 1 := fun z => c1 (Int32.toInt_inj.mp z)
        rw [if_neg n1]
        by_cases c2 : v = 2
        · subst c2
          rw [if_pos (by decide), if_neg (show ¬ ((10 : Int32) ≤ 2 ∧ (2 : Int32) ≤ yn (9 + ka)) from fun z => absurd z.1 (by decide)), if_neg (by decide), if_neg (by decide), if_pos (by decide), g6]
          exact ⟨_, rfl, rfl⟩
        · have n2 : ¬ v.toInt = 2 := fun z => c2 (Int32.toInt_inj.mp z)
          rw [if_neg n2]
          by_cases c3 : v = 3
          · subst c3
            rw [if_pos (by decide), if_neg (show ¬ ((10 : Int32) ≤ 3 ∧ (3 : Int32) ≤ yn (9 + ka)) from fun z => absurd z.1 (by decide)), if_neg (by decide), if_neg (by decide), if_neg (by decide), if_pos (by decide), g7]
            exact ⟨_, rfl, rfl⟩
          · have n3 : ¬ v.toInt = 3 := fun z => c3 (Int32.toInt_inj.mp z)
            rw [if_neg n3]
            by_cases c4 : v = 4
            · subst c4
              rw [if_pos (by decide), if_neg (show ¬ ((10 : Int32) ≤ 4 ∧ (4 : Int32) ≤ yn (9 + ka)) from fun z => absurd z.1 (by decide)), if_neg (by decide), if_neg (by decide), if_neg (by decide), if_neg (by decide), if_pos (by decide), g8]
              exact ⟨_, rfl, rfl⟩
            · have n4 : ¬ v.toInt = 4 := fun z => c4 (Int32.toInt_inj.mp z)
              rw [if_neg n4]
              rw [if_neg n0, if_neg n1, if_neg n2, if_neg n3, if_neg n4]
              by_cases c : (10 : Int32) ≤ v ∧ v ≤ yn (9 + ka)
              · have hk1 : 10 ≤ 9 + ka := (yn_le (a := 10) (b := 9 + ka) (by omega) (by omega)).mp (Int32.le_trans c.1 c.2)
                obtain ⟨m, hm1, hm, rfl⟩ := yq_of (lo := 10) (hi := 9 + ka) (by omega) hk1 c.1 c.2
                have e10 : yn m - 10 = yn (m - 10) := yn_sub (a := m) (b := 10) (by omega)
                rw [if_pos c, if_neg (Int32.not_lt.mpr c.1), e10, if_pos (show yIs ka (yn (m - 10)) from ⟨m - 10, by omega, rfl⟩), zin_yn (by omega) (by omega), yn_nat (by omega), g9 _ (by omega)]
                exact ⟨_, rfl, rfl⟩
              · rw [if_neg c]
                refine ⟨-2000000000, ?_, rfl⟩
                by_cases q : v < 10
                · rw [if_pos q]
                · rw [if_neg q, if_neg]
                  rintro ⟨i, hi, ei⟩
                  apply c
                  have ev : v = yn (i + 10) := by
                    have := congrArg (fun x => x + 10) ei
                    simp only [Int32.sub_add_cancel] at this
                    rw [this]
                    exact yn_add i 10
                  rw [ev]
                  refine ⟨?_, (yn_le (by omega) (by omega)).mpr (by omega)⟩
                  show yn 10 ≤ yn (i + 10)
                  exact (yn_le (by omega) (by omega)).mpr (by omega)
theorem f37_e {ks : Nat} {A : yI} (h : A 24 14 = yn ks) (hk : ks ≤ 8) (v : Int32) : f37_hasSort_24 v A = some (yb (yIs ks v)) := by
  unfold f37_hasSort_24
  rw [h]
  by_cases h1 : v < 0
  · rw [if_pos h1, yb_f]; rw [yIs_iff (by omega)]; exact fun h => Int32.not_le.mpr h1 h.1
  · rw [if_neg h1]
    by_cases h2 : yn ks ≤ v
    · rw [if_pos h2, yb_f]; rw [yIs_iff (by omega)]; exact fun h => Int32.not_le.mpr h.2 h2
    · rw [if_neg h2, yb_t]; rw [yIs_iff (by omega)]; exact ⟨Int32.not_lt.mp h1, Int32.not_le.mp h2⟩
theorem ysum_one {f : Nat → Int32} {x : Nat} : ∀ {n : Nat}, x < n → ysum (fun k => if k = x then f k else 0) n = f x
  | 0, h => absurd h (Nat.not_lt_zero _)
  | n + 1, h => by
    show ysum _ n + (if n = x then f n else 0) = f x
    by_cases e : n = x
    · subst e
      rw [if_pos rfl]
      have : ysum (fun k => if k = n then f k else 0) n = 0 := by
        have z := ysum_zero (f := fun k => if k = n then f k else 0) (m := 0) (n := n) (by omega) (fun j _ hj => if_neg (by omega))
        rw [z]; rfl
      rw [this, Int32.zero_add]
    · rw [if_neg e, Int32.add_zero]
      exact ysum_one (by omega)
theorem c_led {A B : yI} (h : yKept A B) (v1 v2 v3 : Int32) : ∃ r, f97_led v1 v2 v3 A = some r ∧ f175_led v1 v2 v3 B = some r := by
  unfold f97_led f175_led
  rcases h with ⟨h1, h2⟩ | ⟨h1, ka, ks, S, hka, hks, hS, ⟨g1, g2⟩, ⟨g3, g4⟩, ⟨g5, g6⟩, -, -, g9, g10⟩
  · rw [if_pos h1, if_pos (show B 73 55 < 0 by rw [h2]; decide)]
    exact ⟨_, rfl, rfl⟩
  · rw [if_neg (show ¬ A 0 7 = 0 by rw [h1]; decide), if_neg (show ¬ B 73 55 < 0 by rw [g2]; exact Int32.not_lt.mpr (yn_pos (by omega))), f126_e, f129_e, f129_e, f129_e, f36_e g3 hka, f37_e g5 hks, g1, g2, g4, g6, ← yb_congr (yIs_in (n := ka) (v := v2) (by omega))]
    simp only [ob, yb_ite0]
    by_cases c1 : 0 ≤ v1 ∧ v1 ≤ yn S
    · rw [if_pos c1, if_pos c1]
      by_cases c2 : yIs ka v2
      · rw [if_pos c2, if_pos c2]
        obtain ⟨t, -, ht, rfl⟩ := yq_of (lo := 0) (hi := S) (by omega) (by omega) c1.1 c1.2
        obtain ⟨i, hi, rfl⟩ := c2
        have ixA : ∀ k, yn t * 32 + yn i * 8 + yn k = yn (32 * t + (8 * i + k)) := by
          intro k
          show yn t * yn 32 + yn i * yn 8 + yn k = _
          rw [yn_mul, yn_mul, yn_add, yn_add]
          have : t * 32 + i * 8 + k = 32 * t + (8 * i + k) := by omega
          rw [this]
        have ixB : ∀ k, 32 * yn t + 8 * yn i + yn k = yn (32 * t + (8 * i + k)) := by
          intro k
          show yn 32 * yn t + yn 8 * yn i + yn k = _
          rw [yn_mul, yn_mul, yn_add, yn_add, Nat.add_assoc]
        have atE : ∀ k, k < 8 → f38_atEnd_24 (yn t) (yn i) (yn k) A = some (A 33 (32 * t + (8 * i + k))) := by
          intro k hk
          unfold f38_atEnd_24
          rw [ixA, zin_yn (by omega) (by omega), yn_nat (by omega)]
          rfl
        have refL : ∀ (p : Nat → Prop), (∀ k, k < ks → ((v3 < 0 ∨ yn k = v3) ↔ p k)) → yP (zloop (f175_led_L57 (yn t) (yn i) v3 B) 5000 ((0 : Int32), (0 : Int32))) (fun x => x.1 = ysum (fun k => @ite _ (p k) (Classical.propDecidable _) (A 33 (32 * t + (8 * i + k))) 0) ks) := by
          intro p hp
          refine yP_for ks (fun k x => x.1 = ysum (fun k => @ite _ (p k) (Classical.propDecidable _) (A 33 (32 * t + (8 * i + k))) 0) k ∧ x.2 = yn k) (k := 0) ⟨rfl, rfl⟩ (by omega) (by omega) ?_ ?_
          · rintro k x hk ⟨e1, e2⟩
            have hk' := hp k hk
            unfold f175_led_L57
            rw [e2, e1, ixB, yn_succ]
            refine yP_neg (by rw [g6, yn_le (by omega) (by omega)]; omega) ?_
            have val : B 104 (yn (32 * t + (8 * i + k))).toNatClampNeg = A 33 (32 * t + (8 * i + k)) := by
              rw [yn_nat (by omega)]; exact g9 t (8 * i + k) (by omega) (by omega)
            have hz : zin (yn (32 * t + (8 * i + k))) 1952 = true := zin_yn (by omega) (by omega)
            rw [val]
            by_cases q : v3 < 0
            · refine yP_pos q (yP_bif hz (yP_some ⟨?_, rfl⟩))
              show _ = ysum _ k + @ite _ (p k) (Classical.propDecidable _) _ _
              rw [if_pos (hk'.mp (Or.inl q))]
            · refine yP_neg q (yP_ite (fun q2 => yP_bif hz (yP_some ⟨?_, rfl⟩)) (fun q2 => yP_some ⟨?_, rfl⟩))
              · show _ = ysum _ k + @ite _ (p k) (Classical.propDecidable _) _ _
                rw [if_pos (hk'.mp (Or.inr q2))]
              · show _ = ysum _ k + @ite _ (p k) (Classical.propDecidable _) _ _
                rw [if_neg (fun z => (hk'.mpr z).elim q q2), Int32.add_zero]
          · rintro x ⟨e1, e2⟩
            unfold f175_led_L57
            rw [e2]
            exact yP_pos (by rw [g6]; exact Int32.le_refl _) (yP_some e1)
        by_cases c3 : v3 = -1
        · subst c3
          have z1 : (-1 : Int32) ≤ -1 ∧ (-1 : Int32) ≤ yn ks - 1 := by
            refine ⟨Int32.le_refl _, ?_⟩
            rw [Int32.le_iff_toInt_le, Int32.toInt_sub, yn_toInt (by omega)]
            have e1 : (-1 : Int32).toInt = -1 := by decide
            have e2 : (1 : Int32).toInt = 1 := by decide
            rw [e1, e2, Int.bmod_eq_of_le (by omega) (by omega)]
            omega
          rw [if_pos rfl, if_pos z1]
          obtain ⟨x, k1, k2⟩ := refL (fun _ => True) (fun k _ => ⟨fun _ => trivial, fun _ => Or.inl (by decide)⟩)
          have all : f39_allAtEnd_24 (yn t) (yn i) A = some (ysum (fun k => A 33 (32 * t + (8 * i + k))) 8) := by
            refine yP_eq ?_
            unfold f39_allAtEnd_24
            refine yP_bind ?_
            refine yP_for 8 (fun k x => x.1 = ysum (fun k => A 33 (32 * t + (8 * i + k))) k ∧ x.2 = yn k) (k := 0) ⟨rfl, rfl⟩ (by omega) (by omega) ?_ ?_
            · rintro k x hk ⟨e1, e2⟩
              unfold f39_allAtEnd_24_L5
              rw [e2, e1, atE k hk, ob, yn_succ]
              refine yP_neg (by show ¬ yn 8 ≤ yn k
                                rw [yn_le (by omega) (by omega)]; omega) (yP_some ⟨rfl, rfl⟩)
            · rintro x ⟨e1, e2⟩
              unfold f39_allAtEnd_24_L5
              rw [e2]
              exact yP_pos (Int32.le_refl _) (yP_some (yP_some e1))
          rw [all, k1]
          refine ⟨_, rfl, ?_⟩
          have s8 : ysum (fun k => A 33 (32 * t + (8 * i + k))) 8 = ysum (fun k => A 33 (32 * t + (8 * i + k))) ks := ysum_zero (n := 8) (m := ks) (by omega) (fun j p1 p2 => g10 t i j (by omega) (by omega) p2 p1)
          have sx : x.1 = ysum (fun k => A 33 (32 * t + (8 * i + k))) ks := by
            rw [k2]
            exact ysum_congr fun k _ => if_pos trivial
          show some x.1 = _
          rw [sx, s8]
        · rw [if_neg c3]
          by_cases c4 : yIs ks v3
          · obtain ⟨k, hk, rfl⟩ := id c4
            have z1 : (-1 : Int32) ≤ yn k ∧ yn k ≤ yn ks - 1 := by
              refine ⟨?_, ((yIs_in (n := ks) (v := yn k) (by omega)).mp c4).2⟩
              exact Int32.le_trans (by decide) (yn_pos (n := k) (by omega))
            rw [if_pos c4, if_pos z1, atE k (by omega)]
            obtain ⟨x, k1, k2⟩ := refL (fun j => j = k) (fun j hj => by
              rw [yn_inj (by omega) (by omega)]
              exact ⟨fun z => z.elim (fun q => absurd q (Int32.not_lt.mpr (yn_pos (by omega)))) id, Or.inr⟩)
            rw [k1]
            refine ⟨_, rfl, ?_⟩
            show some x.1 = _
            rw [k2, ← ysum_one (f := fun k => A 33 (32 * t + (8 * i + k))) hk]
            congr 1
            exact ysum_congr fun j _ => by
              by_cases q : j = k
              · rw [if_pos q, if_pos q]
              · rw [if_neg q, if_neg q]
          · rw [if_neg c4, if_neg]
            · exact ⟨_, rfl, rfl⟩
            · rintro ⟨z1, z2⟩
              apply c4
              rw [yIs_in (by omega)]
              refine ⟨?_, z2⟩
              rw [Int32.le_iff_toInt_le] at z1 ⊢
              have e1 : (-1 : Int32).toInt = -1 := by decide
              have e0 : (0 : Int32).toInt = 0 := by decide
              have ne : ¬ v3.toInt = -1 := fun z => c3 (Int32.toInt_inj.mp (by rw [z, e1]))
              omega
      · rw [if_neg c2, if_neg c2]; exact ⟨_, rfl, rfl⟩
    · rw [if_neg c1, if_neg c1]; exact ⟨_, rfl, rfl⟩
