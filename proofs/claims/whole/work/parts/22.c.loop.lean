/-! THE LAW'S LOOP over the script (written by wip/whole/loop.py) -/
theorem law_exit {X : zX} {i : Nat} {I : yI} {J : yJ} (hX : X.1 ≤ 384) (h1 : i ≤ X.1) (h2 : X.1 < i + 6) : f0_law_L18 X (yn i, I, J) = some (.inr (.inl (yn i, I, J))) := by
  have g : (Int32.ofNat X.1 - 6) < yn i := by
    have e : (Int32.ofNat X.1 - 6).toInt = (X.1 : Int) - 6 := by
      have e6 : (6 : Int32).toInt = 6 := by decide
      rw [Int32.toInt_sub, e6, show (Int32.ofNat X.1).toInt = (X.1 : Int) from yn_toInt (by omega), Int.bmod_eq_of_le (by omega) (by omega)]
    rw [Int32.lt_iff_toInt_lt, e, yn_toInt (by omega)]
    omega
  unfold f0_law_L18
  rw [if_pos g]
set_option maxRecDepth 100000 in
set_option maxHeartbeats 40000000 in
theorem law_step {X : zX} {i : Nat} {I : yI} {J : yJ} (hX : X.1 ≤ 384) (hi : i + 6 ≤ X.1) (h : yWhl I I J J) : ∃ I' J', f0_law_L18 X (yn i, I, J) = some (.inr (.inr (yn (i + 6), I', J'))) ∧ yWhl I' I' J' J' := by
  have g0 : ¬ (Int32.ofNat X.1 - 6) < yn i := by
    show ¬ (yn X.1 - yn 6) < yn i
    rw [yn_sub (by omega), yn_lt (by omega) (by omega)]
    omega
  have z0 : zin (yn i) X.1 = true := zin_yn (by omega) (by omega)
  have z1 : zin (yn i + 1) X.1 = true := by
    rw [show yn i + 1 = yn (i + 1) from yn_add i 1]
    exact zin_yn (by omega) (by omega)
  have z2 : zin (yn i + 2) X.1 = true := by
    rw [show yn i + 2 = yn (i + 2) from yn_add i 2]
    exact zin_yn (by omega) (by omega)
  have z3 : zin (yn i + 3) X.1 = true := by
    rw [show yn i + 3 = yn (i + 3) from yn_add i 3]
    exact zin_yn (by omega) (by omega)
  have z4 : zin (yn i + 4) X.1 = true := by
    rw [show yn i + 4 = yn (i + 4) from yn_add i 4]
    exact zin_yn (by omega) (by omega)
  have z5 : zin (yn i + 5) X.1 = true := by
    rw [show yn i + 5 = yn (i + 5) from yn_add i 5]
    exact zin_yn (by omega) (by omega)
  have e6 : yn i + 6 = yn (i + 6) := yn_add i 6
  unfold f0_law_L18
  rw [if_neg g0, z0, cond_true]
  by_cases c0 : ((X.2 (yn i).toNatClampNeg) &&& 63).toInt = 0
  · rw [if_pos c0]
    simp only [z1, z2, cond_true]
    obtain ⟨x, y, e1, e2, e3, h'⟩ := l_square h (X.2 (yn i + 1).toNatClampNeg) (X.2 (yn i + 2).toNatClampNeg)
    rw [e1, ob, e2, ob, if_pos e3, e6]
    exact ⟨_, _, rfl, h'⟩
  rw [if_neg c0]
  by_cases c1 : ((X.2 (yn i).toNatClampNeg) &&& 63).toInt = 1
  · rw [if_pos c1]
    simp only [z1, z2, z3, cond_true]
    obtain ⟨x, y, e1, e2, e3, h'⟩ := l_way h (X.2 (yn i + 1).toNatClampNeg) (X.2 (yn i + 2).toNatClampNeg) (X.2 (yn i + 3).toNatClampNeg)
    rw [e1, ob, e2, ob, if_pos e3, e6]
    exact ⟨_, _, rfl, h'⟩
  rw [if_neg c1]
  by_cases c2 : ((X.2 (yn i).toNatClampNeg) &&& 63).toInt = 2
  · rw [if_pos c2]
    simp only [z1, z2, z3, cond_true]
    obtain ⟨x, y, e1, e2, e3, h'⟩ := l_sort h (X.2 (yn i + 1).toNatClampNeg) (X.2 (yn i + 2).toNatClampNeg) (X.2 (yn i + 3).toNatClampNeg)
    rw [e1, ob, e2, ob, if_pos e3, e6]
    exact ⟨_, _, rfl, h'⟩
  rw [if_neg c2]
  by_cases c3 : ((X.2 (yn i).toNatClampNeg) &&& 63).toInt = 3
  · rw [if_pos c3]
    simp only [z1, z2, z3, cond_true]
    obtain ⟨x, y, e1, e2, e3, h'⟩ := l_sorts h (X.2 (yn i + 1).toNatClampNeg) (X.2 (yn i + 2).toNatClampNeg) (X.2 (yn i + 3).toNatClampNeg)
    rw [e1, ob, e2, ob, if_pos e3, e6]
    exact ⟨_, _, rfl, h'⟩
  rw [if_neg c3]
  by_cases c4 : ((X.2 (yn i).toNatClampNeg) &&& 63).toInt = 4
  · rw [if_pos c4]
    simp only [z1, cond_true]
    obtain ⟨x, y, e1, e2, e3, h'⟩ := l_feed h (X.2 (yn i + 1).toNatClampNeg)
    rw [e1, ob, e2, ob, if_pos e3, e6]
    exact ⟨_, _, rfl, h'⟩
  rw [if_neg c4]
  by_cases c5 : ((X.2 (yn i).toNatClampNeg) &&& 63).toInt = 5
  · rw [if_pos c5]
    obtain ⟨x, y, e1, e2, e3, h'⟩ := l_law h 
    rw [e1, ob, e2, ob, if_pos e3, e6]
    exact ⟨_, _, rfl, h'⟩
  rw [if_neg c5]
  by_cases c6 : ((X.2 (yn i).toNatClampNeg) &&& 63).toInt = 6
  · rw [if_pos c6]
    simp only [z1, z2, cond_true]
    obtain ⟨x, y, e1, e2, e3, h'⟩ := l_set h (X.2 (yn i + 1).toNatClampNeg) (X.2 (yn i + 2).toNatClampNeg)
    rw [e1, ob, e2, ob, if_pos e3, e6]
    exact ⟨_, _, rfl, h'⟩
  rw [if_neg c6]
  by_cases c7 : ((X.2 (yn i).toNatClampNeg) &&& 63).toInt = 7
  · rw [if_pos c7]
    simp only [z1, z2, z3, cond_true]
    obtain ⟨x, y, e1, e2, e3, h'⟩ := l_mend h (X.2 (yn i + 1).toNatClampNeg) (X.2 (yn i + 2).toNatClampNeg) (X.2 (yn i + 3).toNatClampNeg)
    rw [e1, ob, e2, ob, if_pos e3, e6]
    exact ⟨_, _, rfl, h'⟩
  rw [if_neg c7]
  by_cases c8 : ((X.2 (yn i).toNatClampNeg) &&& 63).toInt = 8
  · rw [if_pos c8]
    simp only [z1, z2, cond_true]
    obtain ⟨r, e1, e2⟩ := l_of h (X.2 (yn i + 1).toNatClampNeg) (X.2 (yn i + 2).toNatClampNeg)
    rw [e1, ob, e2, ob, if_pos rfl, e6]
    exact ⟨_, _, rfl, h⟩
  rw [if_neg c8]
  by_cases c9 : ((X.2 (yn i).toNatClampNeg) &&& 63).toInt = 9
  · rw [if_pos c9]
    obtain ⟨x, y, e1, e2, e3, h'⟩ := l_run h 
    rw [e1, ob, e2, ob, if_pos e3, e6]
    exact ⟨_, _, rfl, h'⟩
  rw [if_neg c9]
  by_cases c10 : ((X.2 (yn i).toNatClampNeg) &&& 63).toInt = 10
  · rw [if_pos c10]
    simp only [z1, z2, z3, cond_true]
    obtain ⟨r, e1, e2⟩ := l_led h (X.2 (yn i + 1).toNatClampNeg) (X.2 (yn i + 2).toNatClampNeg) (X.2 (yn i + 3).toNatClampNeg)
    rw [e1, ob, e2, ob, if_pos rfl, e6]
    exact ⟨_, _, rfl, h⟩
  rw [if_neg c10]
  by_cases c11 : ((X.2 (yn i).toNatClampNeg) &&& 63).toInt = 11
  · rw [if_pos c11]
    simp only [z1, cond_true]
    obtain ⟨r, e1, e2⟩ := l_told h (X.2 (yn i + 1).toNatClampNeg)
    rw [e1, ob, e2, ob, if_pos rfl, e6]
    exact ⟨_, _, rfl, h⟩
  rw [if_neg c11]
  by_cases c12 : ((X.2 (yn i).toNatClampNeg) &&& 63).toInt = 12
  · rw [if_pos c12]
    simp only [z1, cond_true]
    obtain ⟨x, y, e1, e2, e3, h'⟩ := l_last h (X.2 (yn i + 1).toNatClampNeg)
    rw [e1, ob, e2, ob, if_pos e3, e6]
    exact ⟨_, _, rfl, h'⟩
  rw [if_neg c12]
  by_cases c13 : ((X.2 (yn i).toNatClampNeg) &&& 63).toInt = 13
  · rw [if_pos c13]
    simp only [z1, cond_true]
    obtain ⟨r, e1, e2⟩ := l_flow h (X.2 (yn i + 1).toNatClampNeg)
    rw [e1, ob, e2, ob, if_pos rfl, e6]
    exact ⟨_, _, rfl, h⟩
  rw [if_neg c13]
  by_cases c14 : ((X.2 (yn i).toNatClampNeg) &&& 63).toInt = 14
  · rw [if_pos c14]
    simp only [z1, cond_true]
    obtain ⟨x, y, e1, e2, e3, h'⟩ := l_fewer h (X.2 (yn i + 1).toNatClampNeg)
    rw [e1, ob, e2, ob, if_pos e3, e6]
    exact ⟨_, _, rfl, h'⟩
  rw [if_neg c14]
  by_cases c15 : ((X.2 (yn i).toNatClampNeg) &&& 63).toInt = 15
  · rw [if_pos c15]
    simp only [z1, z2, cond_true]
    obtain ⟨x, y, e1, e2, e3, h'⟩ := l_often h (X.2 (yn i + 1).toNatClampNeg) (X.2 (yn i + 2).toNatClampNeg)
    rw [e1, ob, e2, ob, if_pos e3, e6]
    exact ⟨_, _, rfl, h'⟩
  rw [if_neg c15]
  by_cases c16 : ((X.2 (yn i).toNatClampNeg) &&& 63).toInt = 16
  · rw [if_pos c16]
    simp only [z1, cond_true]
    obtain ⟨x, y, e1, e2, e3, h'⟩ := l_sooner h (X.2 (yn i + 1).toNatClampNeg)
    rw [e1, ob, e2, ob, if_pos e3, e6]
    exact ⟨_, _, rfl, h'⟩
  rw [if_neg c16]
  by_cases c17 : ((X.2 (yn i).toNatClampNeg) &&& 63).toInt = 17
  · rw [if_pos c17]
    simp only [z1, z2, cond_true]
    obtain ⟨x, y, e1, e2, e3, h'⟩ := l_bell h (X.2 (yn i + 1).toNatClampNeg) (X.2 (yn i + 2).toNatClampNeg)
    rw [e1, ob, e2, ob, if_pos e3, e6]
    exact ⟨_, _, rfl, h'⟩
  rw [if_neg c17]
  by_cases c18 : ((X.2 (yn i).toNatClampNeg) &&& 63).toInt = 18
  · rw [if_pos c18]
    simp only [z1, cond_true]
    obtain ⟨x, y, e1, e2, e3, h'⟩ := l_paid h (X.2 (yn i + 1).toNatClampNeg)
    rw [e1, ob, e2, ob, if_pos e3, e6]
    exact ⟨_, _, rfl, h'⟩
  rw [if_neg c18]
  by_cases c19 : ((X.2 (yn i).toNatClampNeg) &&& 63).toInt = 19
  · rw [if_pos c19]
    simp only [z1, cond_true]
    obtain ⟨x, y, e1, e2, e3, h'⟩ := l_lead h (X.2 (yn i + 1).toNatClampNeg)
    rw [e1, ob, e2, ob, if_pos e3, e6]
    exact ⟨_, _, rfl, h'⟩
  rw [if_neg c19]
  by_cases c20 : ((X.2 (yn i).toNatClampNeg) &&& 63).toInt = 20
  · rw [if_pos c20]
    simp only [z1, cond_true]
    obtain ⟨x, y, e1, e2, e3, h'⟩ := l_serves h (X.2 (yn i + 1).toNatClampNeg)
    rw [e1, ob, e2, ob, if_pos e3, e6]
    exact ⟨_, _, rfl, h'⟩
  rw [if_neg c20]
  by_cases c21 : ((X.2 (yn i).toNatClampNeg) &&& 63).toInt = 21
  · rw [if_pos c21]
    simp only [z1, cond_true]
    obtain ⟨x, y, e1, e2, e3, h'⟩ := l_judge h (X.2 (yn i + 1).toNatClampNeg)
    rw [e1, ob, e2, ob, if_pos e3, e6]
    exact ⟨_, _, rfl, h'⟩
  rw [if_neg c21]
  by_cases c22 : ((X.2 (yn i).toNatClampNeg) &&& 63).toInt = 22
  · rw [if_pos c22]
    obtain ⟨x, y, e1, e2, e3, h'⟩ := l_undo h 
    rw [e1, ob, e2, ob, if_pos e3, e6]
    exact ⟨_, _, rfl, h'⟩
  rw [if_neg c22]
  by_cases c23 : ((X.2 (yn i).toNatClampNeg) &&& 63).toInt = 23
  · rw [if_pos c23]
    obtain ⟨x, y, e1, e2, e3, h'⟩ := l_redo h 
    rw [e1, ob, e2, ob, if_pos e3, e6]
    exact ⟨_, _, rfl, h'⟩
  rw [if_neg c23]
  by_cases c24 : ((X.2 (yn i).toNatClampNeg) &&& 63).toInt = 24
  · rw [if_pos c24]
    simp only [z1, cond_true]
    obtain ⟨x, y, e1, e2, e3, h'⟩ := l_body h (X.2 (yn i + 1).toNatClampNeg)
    rw [e1, ob, e2, ob, if_pos e3, e6]
    exact ⟨_, _, rfl, h'⟩
  rw [if_neg c24]
  by_cases c25 : ((X.2 (yn i).toNatClampNeg) &&& 63).toInt = 25
  · rw [if_pos c25]
    simp only [z1, z2, z3, cond_true]
    obtain ⟨x, y, e1, e2, e3, h'⟩ := l_act h (X.2 (yn i + 1).toNatClampNeg) (X.2 (yn i + 2).toNatClampNeg) (X.2 (yn i + 3).toNatClampNeg)
    rw [e1, ob, e2, ob, if_pos e3, e6]
    exact ⟨_, _, rfl, h'⟩
  rw [if_neg c25]
  by_cases c26 : ((X.2 (yn i).toNatClampNeg) &&& 63).toInt = 26
  · rw [if_pos c26]
    simp only [z1, cond_true]
    obtain ⟨r, e1, e2⟩ := l_trace h (X.2 (yn i + 1).toNatClampNeg)
    rw [e1, ob, e2, ob, if_pos rfl, e6]
    exact ⟨_, _, rfl, h⟩
  rw [if_neg c26]
  by_cases c27 : ((X.2 (yn i).toNatClampNeg) &&& 63).toInt = 27
  · rw [if_pos c27]
    simp only [z1, z2, cond_true]
    obtain ⟨x, y, e1, e2, e3, h'⟩ := l_keep h (X.2 (yn i + 1).toNatClampNeg) (X.2 (yn i + 2).toNatClampNeg)
    rw [e1, ob, e2, ob, if_pos e3, e6]
    exact ⟨_, _, rfl, h'⟩
  rw [if_neg c27]
  by_cases c28 : ((X.2 (yn i).toNatClampNeg) &&& 63).toInt = 28
  · rw [if_pos c28]
    simp only [z1, z2, z3, cond_true]
    obtain ⟨x, y, e1, e2, e3, h'⟩ := l_row h (X.2 (yn i + 1).toNatClampNeg) (X.2 (yn i + 2).toNatClampNeg) (X.2 (yn i + 3).toNatClampNeg)
    rw [e1, ob, e2, ob, if_pos e3, e6]
    exact ⟨_, _, rfl, h'⟩
  rw [if_neg c28]
  by_cases c29 : ((X.2 (yn i).toNatClampNeg) &&& 63).toInt = 29
  · rw [if_pos c29]
    simp only [z1, z2, z3, z4, cond_true]
    obtain ⟨x, y, e1, e2, e3, h'⟩ := l_put h (X.2 (yn i + 1).toNatClampNeg) (X.2 (yn i + 2).toNatClampNeg) (((X.2 (yn i + 3).toNatClampNeg).toInt64 <<< ((32 : Int32).toInt64 &&& 63)) ||| ((X.2 (yn i + 4).toNatClampNeg).toInt64 &&& 4294967295))
    rw [e1, ob, e2, ob, if_pos e3, e6]
    exact ⟨_, _, rfl, h'⟩
  rw [if_neg c29]
  by_cases c30 : ((X.2 (yn i).toNatClampNeg) &&& 63).toInt = 30
  · rw [if_pos c30]
    simp only [z1, z2, cond_true]
    obtain ⟨r, e1, e2⟩ := l_element h (X.2 (yn i + 1).toNatClampNeg) (X.2 (yn i + 2).toNatClampNeg)
    rw [e1, ob, e2, ob, if_pos (lg_eq0.mpr rfl), e6]
    exact ⟨_, _, rfl, h⟩
  rw [if_neg c30]
  by_cases c31 : ((X.2 (yn i).toNatClampNeg) &&& 63).toInt = 31
  · rw [if_pos c31]
    simp only [z1, z2, z3, z4, z5, cond_true]
    obtain ⟨x, y, e1, e2, e3, h'⟩ := l_shift h (X.2 (yn i + 1).toNatClampNeg) (X.2 (yn i + 2).toNatClampNeg) (X.2 (yn i + 3).toNatClampNeg) (X.2 (yn i + 4).toNatClampNeg) (X.2 (yn i + 5).toNatClampNeg)
    rw [e1, ob, e2, ob, if_pos e3, e6]
    exact ⟨_, _, rfl, h'⟩
  rw [if_neg c31]
  by_cases c32 : ((X.2 (yn i).toNatClampNeg) &&& 63).toInt = 32
  · rw [if_pos c32]
    simp only [z1, z2, cond_true]
    obtain ⟨r, e1, e2⟩ := l_taken h (X.2 (yn i + 1).toNatClampNeg) (X.2 (yn i + 2).toNatClampNeg)
    rw [e1, ob, e2, ob, if_pos rfl, e6]
    exact ⟨_, _, rfl, h⟩
  rw [if_neg c32]
  by_cases c33 : ((X.2 (yn i).toNatClampNeg) &&& 63).toInt = 33
  · rw [if_pos c33]
    simp only [z1, cond_true]
    obtain ⟨r, e1, e2⟩ := l_count h (X.2 (yn i + 1).toNatClampNeg)
    rw [e1, ob, e2, ob, if_pos rfl, e6]
    exact ⟨_, _, rfl, h⟩
  rw [if_neg c33]
  rw [e6]
  exact ⟨_, _, rfl, h⟩
theorem law_loop {X : zX} (hX : X.1 ≤ 384) : ∀ (r n i : Nat) (I : yI) (J : yJ), X.1 ≤ i + 6 * r + 5 → i ≤ X.1 → r < n → yWhl I I J J → ∃ i' I' J', zloopR (f0_law_L18 X) n (yn i, I, J) = some (.inr (i', I', J')) := by
  intro r
  induction r with
  | zero =>
    intro n i I J h1 h2 h3 h
    obtain ⟨n, rfl⟩ : ∃ m, n = m + 1 := ⟨n - 1, by omega⟩
    exact ⟨_, _, _, zloopR_out (law_exit hX h2 (by omega))⟩
  | succ r ih =>
    intro n i I J h1 h2 h3 h
    obtain ⟨n, rfl⟩ : ∃ m, n = m + 1 := ⟨n - 1, by omega⟩
    by_cases c : i + 6 ≤ X.1
    · obtain ⟨I', J', e, h'⟩ := law_step hX c h
      rw [zloopR_in e]
      exact ih n (i + 6) I' J' (by omega) c (by omega) h'
    · exact ⟨_, _, _, zloopR_out (law_exit hX h2 (by omega))⟩
theorem law_all {X : zX} {I : yI} {J : yJ} (hX : X.1 ≤ 384) (h : yWhl I I J J) : ∃ I' J', f0_law X I J = some (1, I', J') := by
  obtain ⟨i', I', J', e⟩ := law_loop hX 64 5000 0 I J (by omega) (by omega) (by omega) h
  have e : zloopR (f0_law_L18 X) 5000 ((0 : Int32), I, J) = some (.inr (i', I', J')) := e
  refine ⟨I', J', ?_⟩
  unfold f0_law
  rw [e]
  rfl
