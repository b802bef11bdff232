/-! THE END: the objects as they are made hold all of it; the law's run; the claim -/
def yI0 : yI := yq108.2.1
def yJ0 : yJ := yq108.2.2
theorem s_13 : ∀ j, j < 16 → yI0 13 j = -1 := by decide +kernel
theorem s_14 : ∀ p, p < 4 → ∀ q, q < 4 → yI0 14 (4 * p + q) = yn (if p = q then 0 else 1000000) := by decide +kernel
theorem s_sh : ∀ i, i < 6 → yI0 (61 + 2 * i) 0 = -1 ∧ yI0 (61 + 2 * i) 1 = -1 ∧ yI0 (61 + 2 * i) 2 = 0 ∧ yI0 110 i = -1 := by decide +kernel
theorem s_el : ∀ i, i < 6 → ∀ k, k < 60 → yJ0 112 (60 * i + k) = yJ0 (62 + 2 * i) k := by decide +kernel
theorem s_town : (yI0 1 0 = yn 0 ∧ yI0 1 1 = yn 0 ∧ yI0 1 2 = yn 0) ∧ (yI0 73 1 = yn 0 ∧ yI0 73 4 = yn 0 ∧ yI0 73 9 = yn 0) ∧ (yI0 1 3 = yn 30 ∧ yI0 73 15 = yI0 1 3) ∧ (yI0 1 4 = yn 0 ∧ yI0 73 16 = yI0 1 4) ∧ (yI0 1 5 = yn 0 ∧ yI0 73 17 = yI0 1 5) := by decide +kernel
theorem s_law : (yI0 15 7 = yn 0 ∧ yI0 73 31 = yn 0) ∧ (yI0 15 6 = yn 0 ∧ yI0 73 19 = yn 0) := by decide +kernel
theorem s_x : (yI0 73 45 = 0 ∧ yI0 73 47 = -1 ∧ yI0 73 50 = -1) ∧ yI0 39 2 = yn 0 ∧ yI0 25 2 = yn 0 := by decide +kernel
theorem s_chg : yI0 52 5 = yn 0 ∧ yI0 52 4 = yn (0 + 0) ∧ yI0 73 32 = yn 0 ∧ yI0 73 33 = yn 0 := by decide +kernel
theorem s_act : (yI0 57 2 = yn 0 ∧ yI0 73 66 = yn 0) ∧ yI0 57 3 = yn 0 ∧ yI0 73 68 = yn 0 := by decide +kernel
theorem s_kept : yI0 0 7 = 0 ∧ yI0 73 55 = -1 := by decide +kernel
theorem start_all : yWhl yI0 yI0 yJ0 yJ0 := by
  have hf : ∀ p q, p < 4 → q < 4 → yf yI0 p q = if p = q then 0 else 1000000 := by
    intro p q hp hq
    unfold yf
    rw [s_14 p hp q hq]
    exact yn_nat (by split <;> omega)
  obtain ⟨t1, t2, ⟨t3, t4⟩, ⟨t5, t6⟩, t7, t8⟩ := s_town
  refine ⟨0, 0, 0, 0, 0, 0, 0, 0, ⟨⟨⟨by omega, by omega, by omega⟩, t1, t2⟩, ⟨⟨⟨30, by omega, by omega, t3⟩, t4⟩, ⟨⟨0, by omega, by omega, t5⟩, t6⟩, ⟨⟨0, by omega, by omega, t7⟩, t8⟩⟩, fun i hi => absurd hi (Nat.not_lt_zero _), fun i hi => absurd hi (Nat.not_lt_zero _), fun i hi => absurd hi (Nat.not_lt_zero _)⟩, ⟨fun p q hp hq _ => s_13 _ (by omega), fun p q hp hq => ?_, fun p hp => ?_, fun p q hp hq => ?_, fun i p u v hi => absurd hi (Nat.not_lt_zero _), fun p q hp hq hne hl => ?_⟩, ⟨⟨by omega, s_law.1⟩, fun l hl => absurd hl (Nat.not_lt_zero _)⟩, ⟨⟨by omega, s_law.2⟩, fun l hl => absurd hl (Nat.not_lt_zero _)⟩, ⟨s_x.1, ⟨0, by omega, s_x.2.1⟩, ⟨0, by omega, s_x.2.2⟩⟩, ⟨⟨by omega, s_chg⟩, fun l hl => absurd hl (Nat.not_lt_zero _)⟩, ⟨⟨by omega, s_act.1⟩, fun l hl => absurd hl (Nat.not_lt_zero _), 0, by omega, s_act.2.1, s_act.2.2, fun l hl => absurd hl (Nat.not_lt_zero _)⟩, fun i hi => ⟨Or.inl (s_sh i hi), s_el i hi⟩, Or.inl s_kept⟩
  · rw [hf p q hp hq]; exact s_14 p hp q hq
  · rw [hf p p hp hp, if_pos rfl]
  · rw [hf p q hp hq]
    unfold INF
    split <;> omega
  · rw [hf p q hp hq, if_neg hne] at hl
    unfold INF at hl
    omega
theorem zpure : zPure := by
  intro L xs hL
  obtain ⟨I', J', e⟩ := law_all (X := (L, xs)) hL start_all
  have r := ok_f0_law (X := (L, xs)) (d := 2000) (by omega) _ e
  have e0 : yq108 = (SH, yI0, yJ0) := Prod.ext st_sh rfl
  obtain ⟨n, hn⟩ := st_main (X := (L, xs)) (d := 2000) (by omega) (by rw [e0]; exact r)
  refine ⟨n, _, hn, ?_, ?_⟩
  · show SH.length ≤ 600000
    decide +kernel
  · show (SH.map fun s => s.2.1).sum ≤ 7302250
    decide +kernel
