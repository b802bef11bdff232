/-! WAY: both sides -/
theorem yLead_congr {A A' : yI} {i p q : Nat} (h4 : A' 4 i = A 4 i) (h5 : A' 5 i = A 5 i) : yLead A' i p q ↔ yLead A i p q := by
  unfold yLead
  rw [h4, h5]
theorem yWk_mono {A A' : yI} {w w' : Nat} (hw : w ≤ w') (h : ∀ i, i < w → A' 4 i = A 4 i ∧ A' 5 i = A 5 i ∧ A' 6 i = A 6 i) : ∀ (e p q n : Nat), yWk A w e p q n → yWk A' w' e p q n
  | 0, p, q, n, hk => hk
  | e + 1, p, q, n, hk => by
    obtain ⟨u, i, hu, hi, hl, hm, h3⟩ := hk
    obtain ⟨g4, g5, g6⟩ := h i hi
    have em : yM A' i = yM A i := by unfold yM; rw [g6]
    refine ⟨u, i, hu, by omega, (yLead_congr g4 g5).mpr hl, by rw [em]; exact hm, ?_⟩
    rw [em]
    exact yWk_mono hw h e p u _ h3
theorem yFew_congr {A A' : yI} {w : Nat} {f f' : Nat → Nat → Nat} (hf : ∀ p q, p < 4 → q < 4 → f' p q = f p q) (h : ∀ i, i < w → A' 4 i = A 4 i ∧ A' 5 i = A 5 i ∧ A' 6 i = A 6 i) (hF : yFew A w f) : yFew A' w f' := by
  obtain ⟨h1, h2, h3, h4⟩ := hF
  refine ⟨fun p hp => by rw [hf p p hp hp]; exact h1 p hp, fun p q hp hq => by rw [hf p q hp hq]; exact h2 p q hp hq, ?_, ?_⟩
  · intro i p u v hi hp hu hv hl
    obtain ⟨g4, g5, g6⟩ := h i hi
    have em : yM A' i = yM A i := by unfold yM; rw [g6]
    rw [hf p v hp hv, hf p u hp hu, em]
    exact h3 i p u v hi hp hu hv ((yLead_congr g4 g5).mp hl)
  · intro p q hp hq hne hlt
    rw [hf p q hp hq] at hlt
    obtain ⟨i, u, hi, hu, hl, e⟩ := h4 p q hp hq hne hlt
    obtain ⟨g4, g5, g6⟩ := h i hi
    have em : yM A' i = yM A i := by unfold yM; rw [g6]
    exact ⟨i, u, hi, hu, (yLead_congr g4 g5).mpr hl, by rw [hf p q hp hq, hf p u hp hu, em]; exact e⟩
theorem yMD_ag {A A' : yI} {w : Nat} (h : ∀ i, i < w → A' 4 i = A 4 i ∧ A' 5 i = A 5 i ∧ A' 6 i = A 6 i) (h13 : ∀ j, A' 13 j = A 13 j) (hD : yMD A w) : yMD A' w := by
  intro p q hp hq hne
  rw [h13, hD p q hp hq hne, ydir_congr w h]
theorem yMF_ag {A A' : yI} {w : Nat} (h : ∀ i, i < w → A' 4 i = A 4 i ∧ A' 5 i = A 5 i ∧ A' 6 i = A 6 i) (h14 : ∀ j, A' 14 j = A 14 j) (hF : yMF A w) : yMF A' w := by
  obtain ⟨h1, h2⟩ := hF
  have e : ∀ p q, yf A' p q = yf A p q := fun p q => by unfold yf; rw [h14]
  exact ⟨fun p q hp hq => by rw [h14, e]; exact h1 p q hp hq, yFew_congr (fun p q _ _ => e p q) h h2⟩
def ynew (A : yI) (w x y m n : Nat) : yI := zu (zu (zu (zu A 4 w (yn x)) 5 w (yn y)) 6 w (yn m)) 7 w (yn n)
theorem f65_P {a w : Nat} {A : yI} (ha : a ≤ 4) (hw : w < 12) (h1 : A 1 1 = yn w) (hW : yWA a w A) (hD : yMD A w) (hF : yMF A w) {x y m n : Nat} (hx : x < a) (hy : y < a) (hxy : x ≠ y) (hm1 : 1 ≤ m) (hm : m ≤ 30) : yP (f65_addWay (yn x) (yn y) (yn m) (yn n) A) (fun r => r.1 = yn w ∧ yfr [101, 1399, 1499] (ynew A w x y m n) r.2 ∧ r.2 1 1 = yn (w + 1) ∧ yMD r.2 (w + 1) ∧ yMF r.2 (w + 1)) := by
  unfold f65_addWay
  have e12 : ¬ A 1 1 = 12 := by
    rw [h1]
    show ¬ yn w = yn 12
    rw [yn_inj (by omega) (by omega)]; omega
  rw [if_neg e12, h1, yn_nat (by omega)]
  refine yP_bif (zin_yn (by omega) (by omega)) (yP_bif (zin_yn (by omega) (by omega)) (yP_bif (zin_yn (by omega) (by omega)) (yP_bif (zin_yn (by omega) (by omega)) ?_)))
  show yP (Option.bind (f66_lay (yn x) (yn y) (ynew A w x y m n)) _) _
  obtain ⟨F1, F2⟩ := hF
  have c4 : ∀ i, i < w → ynew A w x y m n 4 i = A 4 i ∧ ynew A w x y m n 5 i = A 5 i ∧ ynew A w x y m n 6 i = A 6 i := by
    intro i hi
    have : i ≠ w := by omega
    simp [ynew, zu_at, this]
  have n4 : ynew A w x y m n 4 w = yn x := by simp [ynew, zu_at]
  have n5 : ynew A w x y m n 5 w = yn y := by simp [ynew, zu_at]
  have n6 : ynew A w x y m n 6 w = yn m := by simp [ynew, zu_at]
  have n11 : ynew A w x y m n 1 1 = yn w := by simp [ynew, zu_at, h1]
  have n13 : ∀ j, ynew A w x y m n 13 j = A 13 j := fun j => by simp [ynew, zu_at]
  have n14 : ∀ j, ynew A w x y m n 14 j = A 14 j := fun j => by simp [ynew, zu_at]
  generalize hN : ynew A w x y m n = N at c4 n4 n5 n6 n11 n13 n14 ⊢
  have hl : yLead N w x y := Or.inl ⟨n4, n5⟩
  have fb := F2.2.1
  have s1 := f66_P hw n11 (x := x) (y := y) (by omega) (by omega) hxy hl n6 (by omega) (by rw [n13, hD x y (by omega) (by omega) hxy, ydir_congr w c4]) (by rw [n14, F1 x y (by omega) (by omega)]) (fb x y (by omega) (by omega))
  refine yP_bind (yP_mono s1 ?_)
  rintro N1 rfl
  have t11 : (zu (zu N 13 (4 * x + y) (ydir N x y (w + 1))) 14 (4 * x + y) (yn (min (yf A x y) m))) 1 1 = yn w := by simp [zu_at, n11]
  have t4 : ∀ i, (zu (zu N 13 (4 * x + y) (ydir N x y (w + 1))) 14 (4 * x + y) (yn (min (yf A x y) m))) 4 i = N 4 i ∧ (zu (zu N 13 (4 * x + y) (ydir N x y (w + 1))) 14 (4 * x + y) (yn (min (yf A x y) m))) 5 i = N 5 i ∧ (zu (zu N 13 (4 * x + y) (ydir N x y (w + 1))) 14 (4 * x + y) (yn (min (yf A x y) m))) 6 i = N 6 i := fun i => by simp [zu_at]
  have t13 : ∀ j, (zu (zu N 13 (4 * x + y) (ydir N x y (w + 1))) 14 (4 * x + y) (yn (min (yf A x y) m))) 13 j = if j = 4 * x + y then ydir N x y (w + 1) else A 13 j := fun j => by simp [zu_at, n13]
  have t14 : ∀ j, (zu (zu N 13 (4 * x + y) (ydir N x y (w + 1))) 14 (4 * x + y) (yn (min (yf A x y) m))) 14 j = if j = 4 * x + y then yn (min (yf A x y) m) else A 14 j := fun j => by simp [zu_at, n14]
  have tfr : yfr [101, 1399, 1499] N (zu (zu N 13 (4 * x + y) (ydir N x y (w + 1))) 14 (4 * x + y) (yn (min (yf A x y) m))) := yfr_zu rfl (yfr_zu rfl (yfr_refl _))
  generalize zu (zu N 13 (4 * x + y) (ydir N x y (w + 1))) 14 (4 * x + y) (yn (min (yf A x y) m)) = N1 at t11 t4 t13 t14 tfr ⊢
  have cN1 : ∀ p q v, ydir N1 p q v = ydir N p q v := fun p q v => ydir_congr v (fun i _ => t4 i)
  have s2 := f66_P (A := N1) hw t11 (x := y) (y := x) (by omega) (by omega) (Ne.symm hxy) (Or.inr ⟨by rw [(t4 w).1]; exact n4, by rw [(t4 w).2.1]; exact n5⟩) (by rw [(t4 w).2.2]; exact n6) (by omega) (by rw [t13, if_neg (by omega), hD y x (by omega) (by omega) (Ne.symm hxy), cN1, ydir_congr w c4]) (f := yf A y x) (by rw [t14, if_neg (by omega), F1 y x (by omega) (by omega)]) (fb y x (by omega) (by omega))
  refine yP_bind (yP_mono s2 ?_)
  rintro N2 rfl
  have u11 : (zu (zu N1 13 (4 * y + x) (ydir N1 y x (w + 1))) 14 (4 * y + x) (yn (min (yf A y x) m))) 1 1 = yn w := by simp [zu_at, t11]
  have u4 : ∀ i, (zu (zu N1 13 (4 * y + x) (ydir N1 y x (w + 1))) 14 (4 * y + x) (yn (min (yf A y x) m))) 4 i = N 4 i ∧ (zu (zu N1 13 (4 * y + x) (ydir N1 y x (w + 1))) 14 (4 * y + x) (yn (min (yf A y x) m))) 5 i = N 5 i ∧ (zu (zu N1 13 (4 * y + x) (ydir N1 y x (w + 1))) 14 (4 * y + x) (yn (min (yf A y x) m))) 6 i = N 6 i := fun i => by simp [zu_at, t4 i]
  have u13 : ∀ j, (zu (zu N1 13 (4 * y + x) (ydir N1 y x (w + 1))) 14 (4 * y + x) (yn (min (yf A y x) m))) 13 j = if j = 4 * y + x then ydir N y x (w + 1) else if j = 4 * x + y then ydir N x y (w + 1) else A 13 j := fun j => by simp [zu_at, t13, cN1]
  have u14 : ∀ j, (zu (zu N1 13 (4 * y + x) (ydir N1 y x (w + 1))) 14 (4 * y + x) (yn (min (yf A y x) m))) 14 j = if j = 4 * y + x then yn (min (yf A y x) m) else if j = 4 * x + y then yn (min (yf A x y) m) else A 14 j := fun j => by simp [zu_at, t14]
  have ufr : yfr [101, 1399, 1499] N (zu (zu N1 13 (4 * y + x) (ydir N1 y x (w + 1))) 14 (4 * y + x) (yn (min (yf A y x) m))) := yfr_zu rfl (yfr_zu rfl tfr)
  generalize zu (zu N1 13 (4 * y + x) (ydir N1 y x (w + 1))) 14 (4 * y + x) (yn (min (yf A y x) m)) = N2 at u11 u4 u13 u14 ufr ⊢
  -- the matrix laid
  have hg : ∃ g : Nat → Nat → Nat, ∀ p q, g p q = if (p = x ∧ q = y) ∨ (p = y ∧ q = x) then min (yf A p q) m else yf A p q := ⟨_, fun _ _ => rfl⟩
  obtain ⟨g, hg⟩ := hg
  have g14 : ∀ p q, p < 4 → q < 4 → N2 14 (4 * p + q) = yn (g p q) := by
    intro p q hp hq
    rw [u14, hg]
    by_cases k1 : 4 * p + q = 4 * y + x
    · have e1 : p = y := by omega
      have e2 : q = x := by omega
      subst e1 e2
      rw [if_pos rfl, if_pos (Or.inr ⟨rfl, rfl⟩)]
    · rw [if_neg k1]
      by_cases k2 : 4 * p + q = 4 * x + y
      · have e1 : p = x := by omega
        have e2 : q = y := by omega
        subst e1 e2
        rw [if_pos rfl, if_pos (Or.inl ⟨rfl, rfl⟩)]
      · rw [if_neg k2, if_neg (by omega), F1 p q hp hq]
  have g0 : ∀ p, p < 4 → g p p = 0 := by
    intro p hp
    rw [hg, if_neg (by omega)]
    exact F2.1 p hp
  have gb : ∀ p q, p < 4 → q < 4 → g p q ≤ INF := by
    intro p q hp hq
    have := fb p q hp hq
    rw [hg]
    split <;> omega
  refine yP_bind (yP_with (f67_P g0 gb g14) ?_)
  intro N3 e3 h3
  have fr3 : yfr w_f67_shorten N2 N3 := (fr_f67_shorten N2) _ e3
  have v11 : N3 1 1 = yn w := by rw [fr3 1 1 rfl]; exact u11
  have v4 : ∀ i, N3 4 i = N 4 i ∧ N3 5 i = N 5 i ∧ N3 6 i = N 6 i := fun i => by rw [fr3 4 i rfl, fr3 5 i rfl, fr3 6 i rfl]; exact u4 i
  have v13 : ∀ j, N3 13 j = N2 13 j := fun j => fr3 13 j rfl
  rw [v11, yn_ss, yn_succ]
  have z4 : ∀ i, zu N3 1 1 (yn (w + 1)) 4 i = N 4 i ∧ zu N3 1 1 (yn (w + 1)) 5 i = N 5 i ∧ zu N3 1 1 (yn (w + 1)) 6 i = N 6 i := fun i => by simpa [zu_at] using v4 i
  have z13 : ∀ j, zu N3 1 1 (yn (w + 1)) 13 j = N2 13 j := fun j => by simp [zu_at, v13]
  have z14 : ∀ j, zu N3 1 1 (yn (w + 1)) 14 j = N3 14 j := fun j => by simp [zu_at]
  have z11 : zu N3 1 1 (yn (w + 1)) 1 1 = yn (w + 1) := zu_same _ _ _ _
  have zfr : yfr [101, 1399, 1499] N (zu N3 1 1 (yn (w + 1))) := yfr_zu rfl (yfr_trans _ _ _ ufr (yfr_mono rfl fr3))
  generalize zu N3 1 1 (yn (w + 1)) = Z at z4 z13 z14 z11 zfr ⊢
  refine yP_some ⟨rfl, zfr, z11, ?_, ?_⟩
  · intro p q hp hq hne
    dsimp only
    rw [z13, u13, ydir_congr (A := N) (w + 1) (fun i _ => z4 i)]
    by_cases k1 : 4 * p + q = 4 * y + x
    · have e1 : p = y := by omega
      have e2 : q = x := by omega
      subst e1 e2
      rw [if_pos rfl]
    · rw [if_neg k1]
      by_cases k2 : 4 * p + q = 4 * x + y
      · have e1 : p = x := by omega
        have e2 : q = y := by omega
        subst e1 e2
        rw [if_pos rfl]
      · rw [if_neg k2, hD p q hp hq hne, ← ydir_congr (A := A) (A' := N) w c4]
        have nl : ¬ yLead N w p q := by
          unfold yLead
          rw [n4, n5, yn_inj (by omega) (by omega), yn_inj (by omega) (by omega), yn_inj (by omega) (by omega), yn_inj (by omega) (by omega)]
          omega
        have : ydir N p q (w + 1) = @ite _ (yLead N w p q ∧ (ydir N p q w < 0 ∨ N 6 w < N 6 (ydir N p q w).toNatClampNeg)) (Classical.propDecidable _) (yn w) (ydir N p q w) := rfl
        rw [this, if_neg (fun z => nl z.1)]
  · have hphs : ∀ p q, p < 4 → q < 4 → Z 14 (4 * p + q) = yn (yphs g 4 p q) := fun p q hp hq => by rw [z14]; exact h3 p q hp hq
    have hb4 := (yphs_ok g0 gb 4).2
    have hyf : ∀ p q, p < 4 → q < 4 → yf Z p q = yphs g 4 p q := by
      intro p q hp hq
      have := hb4 p q hp hq
      unfold INF at this
      unfold yf
      rw [hphs p q hp hq, yn_nat (by omega)]
    have zm : ∀ i, yM Z i = yM N i := fun i => by unfold yM; rw [(z4 i).2.2]
    have mw : yM N w = m := yM_yn (by omega) n6
    have mi : ∀ i, i < w → yM N i = yM A i := fun i hi => by unfold yM; rw [(c4 i hi).2.2]
    have hmA : ∀ i, i < w → 1 ≤ yM A i := by
      intro i hi
      obtain ⟨-, k, k1, k2, k3⟩ := hW i hi
      rw [yM_yn (by omega) k3]; exact k1
    have hmZ : ∀ i, i < w + 1 → 1 ≤ yM Z i := by
      intro i hi
      rw [zm]
      by_cases e : i = w
      · rw [e, mw]; exact hm1
      · rw [mi i (by omega)]; exact hmA i (by omega)
    have cAZ : ∀ i, i < w → Z 4 i = A 4 i ∧ Z 5 i = A 5 i ∧ Z 6 i = A 6 i := fun i hi => by rw [(z4 i).1, (z4 i).2.1, (z4 i).2.2]; exact c4 i hi
    have zl : yLead Z w x y := by
      unfold yLead
      rw [(z4 w).1, (z4 w).2.1]
      exact hl
    have wold : ∀ p q, p < 4 → q < 4 → yf A p q < INF → ∃ e, yWk Z (w + 1) e p q (yf A p q) := by
      intro p q hp hq hlt
      obtain ⟨e, we⟩ := yFew_walk F2 hmA hp _ q hq rfl hlt
      exact ⟨e, yWk_mono (by omega) cAZ e p q _ we⟩
    have wnew : ∀ p q, p < 4 → yLead Z w p q → yWk Z (w + 1) 1 p q m := by
      intro p q hp hlq
      refine ⟨p, w, hp, by omega, hlq, by rw [zm, mw]; omega, rfl, ?_⟩
      rw [zm, mw]; omega
    refine ⟨fun p q hp hq => by
      dsimp only
      rw [hphs p q hp hq, hyf p q hp hq], ?_⟩
    refine yFew_congr (A := Z) (f := yphs g 4) hyf (fun i _ => ⟨rfl, rfl, rfl⟩) ?_
    refine floyd (g := g) hmZ g0 ?_ ?_
    · intro p q hp hq
      refine ⟨gb p q hp hq, fun hlt => ?_⟩
      rw [hg] at hlt ⊢
      by_cases k : (p = x ∧ q = y) ∨ (p = y ∧ q = x)
      · rw [if_pos k] at hlt ⊢
        by_cases c : yf A p q ≤ m
        · rw [Nat.min_eq_left c] at hlt ⊢
          exact wold p q hp hq hlt
        · rw [Nat.min_eq_right (by omega)]
          refine ⟨1, wnew p q hp ?_⟩
          rcases k with ⟨rfl, rfl⟩ | ⟨rfl, rfl⟩
          · exact zl
          · exact yLead_sym zl
      · rw [if_neg k] at hlt ⊢
        exact wold p q hp hq hlt
    · intro i u v hi hu hv hlq
      rw [zm, hg]
      by_cases e : i = w
      · subst e
        rw [mw]
        have k : (u = x ∧ v = y) ∨ (u = y ∧ v = x) := by
          unfold yLead at hlq
          rw [(z4 i).1, (z4 i).2.1, n4, n5, yn_inj (by omega) (by omega), yn_inj (by omega) (by omega), yn_inj (by omega) (by omega), yn_inj (by omega) (by omega)] at hlq
          omega
        rw [if_pos k]
        omega
      · have hi' : i < w := by omega
        rw [mi i hi']
        have hA : yLead A i u v := (yLead_congr (cAZ i hi').1 (cAZ i hi').2.1).mp hlq
        have := F2.2.2.1 i u u v hi' hu hu hv hA
        rw [F2.1 u hu] at this
        split <;> omega
theorem c_way {a w s : Nat} {A B : yI} (hT : yTown a w s A B) (hD : yMD A w) (hF : yMF A w) (v1 v2 v3 : Int32) : y2 (f87_way v1 v2 v3 A) (f133_way v1 v2 v3 B) (fun x y => x.1 = y.1 ∧ ∃ w', yTown a w' s x.2 y.2 ∧ yMD x.2 w' ∧ yMF x.2 w') := by
  have hT0 := hT
  obtain ⟨⟨⟨ha, hw, hs⟩, ⟨a1, a2, a3⟩, ⟨b1, b2, b3⟩⟩, hSet, hSq, hWy, hSo⟩ := hT
  have done : ∀ {r : Int32}, y2 (some (r, A)) (some (r, B)) (fun x y => x.1 = y.1 ∧ ∃ w', yTown a w' s x.2 y.2 ∧ yMD x.2 w' ∧ yMF x.2 w') := ⟨_, _, rfl, rfl, rfl, w, hT0, hD, hF⟩
  unfold f87_way f133_way
  simp only [f63_e a1 ha, f130_e b1 ha, f126_e, f129_e, ob, yb_ite0]
  by_cases h0 : v1 < 0
  · rw [if_pos h0, if_neg (fun z => absurd z.1 (Int32.not_le.mpr h0))]; exact done
  · rw [if_neg h0]
    by_cases h1 : yIs a (v1 / 10)
    · rw [if_pos h1]
      by_cases h2 : yIs a (v1 - v1 / 10 * 10)
      · rw [if_pos h2]
        by_cases h3 : v1 / 10 = v1 - v1 / 10 * 10
        · rw [if_pos h3, if_neg (fun z => z.2.2.2 h3)]; exact done
        · rw [if_neg h3, if_pos ⟨Int32.not_lt.mp h0, h1, h2, h3⟩]
          by_cases h4 : 1 ≤ v2 ∧ v2 ≤ 30
          · rw [if_pos h4, if_pos h4]
            by_cases h5 : 1 ≤ v3 ∧ v3 ≤ 99
            · rw [if_pos h5, if_pos h5]
              obtain ⟨x, hx, ex⟩ := h1
              obtain ⟨y, hy, ey⟩ := h2
              obtain ⟨m, hm1, hm, rfl⟩ := yq_of (lo := 1) (hi := 30) (by omega) (by omega) h4.1 h4.2
              obtain ⟨n, hn1, hn, rfl⟩ := yq_of (lo := 1) (hi := 99) (by omega) (by omega) h5.1 h5.2
              rw [ey, ex] at h3 ⊢
              have hxy : x ≠ y := fun z => h3 (by rw [z])
              by_cases e12 : w = 12
              · subst e12
                have q1 : A 1 1 = 12 := a2
                have q2 : B 73 4 = 12 := b2
                unfold f65_addWay
                rw [if_pos q1, if_pos q2]
                exact done
              · have hWA : yWA a w A := fun i hi => ⟨(hWy i hi).1, (hWy i hi).2.2.1.1⟩
                obtain ⟨⟨r, Z⟩, e, r1, r2, r3, r4, r5⟩ := f65_P ha (by omega) a2 hWA hD hF hx hy hxy hm1 hm (n := n)
                dsimp only at r1 r2 r3 r4 r5
                have q2 : ¬ B 73 4 = 12 := by
                  rw [b2]
                  show ¬ yn w = yn 12
                  rw [yn_inj (by omega) (by omega)]; exact e12
                rw [e, if_neg q2, b2, zin_yn (by omega) (by omega), yn_nat (by omega), yn_ss, yn_succ]
                refine ⟨_, _, rfl, rfl, r1, w + 1, ?_, r4, r5⟩
                dsimp only
                have z : ∀ b j, b ≠ 13 → b ≠ 14 → b ≠ 1 → (ymem [101, 1399, 1499] (ykey b j) = false) → Z b j = ynew A w x y m n b j := fun b j _ _ _ hb => r2 b j hb
                have k0 : Z 1 0 = A 1 0 := by rw [r2 1 0 rfl]; simp [ynew, zu_at]
                have k2 : Z 1 2 = A 1 2 := by rw [r2 1 2 rfl]; simp [ynew, zu_at]
                have k3 : Z 1 3 = A 1 3 := by rw [r2 1 3 rfl]; simp [ynew, zu_at]
                have k4 : Z 1 4 = A 1 4 := by rw [r2 1 4 rfl]; simp [ynew, zu_at]
                have k5 : Z 1 5 = A 1 5 := by rw [r2 1 5 rfl]; simp [ynew, zu_at]
                have a2' : ∀ i, Z 2 i = A 2 i := fun i => by rw [r2 2 i rfl]; simp [ynew, zu_at]
                have a3' : ∀ i, Z 3 i = A 3 i := fun i => by rw [r2 3 i rfl]; simp [ynew, zu_at]
                have a8 : ∀ i, Z 8 i = A 8 i := fun i => by rw [r2 8 i rfl]; simp [ynew, zu_at]
                have a9 : ∀ i, Z 9 i = A 9 i := fun i => by rw [r2 9 i rfl]; simp [ynew, zu_at]
                have a10 : ∀ i, Z 10 i = A 10 i := fun i => by rw [r2 10 i rfl]; simp [ynew, zu_at]
                have a11 : ∀ i, Z 11 i = A 11 i := fun i => by rw [r2 11 i rfl]; simp [ynew, zu_at]
                have a12 : ∀ i, Z 12 i = A 12 i := fun i => by rw [r2 12 i rfl]; simp [ynew, zu_at]
                have w4 : ∀ i, Z 4 i = if i = w then yn x else A 4 i := fun i => by rw [r2 4 i rfl]; simp [ynew, zu_at]
                have w5 : ∀ i, Z 5 i = if i = w then yn y else A 5 i := fun i => by rw [r2 5 i rfl]; simp [ynew, zu_at]
                have w6 : ∀ i, Z 6 i = if i = w then yn m else A 6 i := fun i => by rw [r2 6 i rfl]; simp [ynew, zu_at]
                have w7 : ∀ i, Z 7 i = if i = w then yn n else A 7 i := fun i => by rw [r2 7 i rfl]; simp [ynew, zu_at]
                refine ⟨⟨⟨ha, by omega, hs⟩, ⟨by rw [k0]; exact a1, r3, by rw [k2]; exact a3⟩, ?_⟩, ?_, ?_, ?_, ?_⟩
                · simp [zu_at, b1, b3]
                · unfold ySet
                  rw [k3, k4, k5]
                  simpa [ySet, zu_at] using hSet
                · intro i hi
                  rw [a2', a3']
                  simpa [zu_at] using hSq i hi
                · intro i hi
                  rw [w4, w5, w6, w7]
                  by_cases e : i = w
                  · subst e
                    have q6 : yq (yn m) 1 30 := ⟨m, hm1, hm, rfl⟩
                    have q7 : yq (yn n) 1 99 := ⟨n, hn1, hn, rfl⟩
                    refine ⟨⟨x, y, hx, hy, hxy, by simp, by simp⟩, ?_⟩
                    simp [zu_at, q6, q7]
                  · obtain ⟨h6, h7⟩ := hWy i (by omega)
                    simp only [if_neg e]
                    exact ⟨h6, by simpa [zu_at, e] using h7⟩
                · intro i hi
                  rw [a8, a9, a10, a11, a12]
                  simpa [zu_at] using hSo i hi
            · rw [if_neg h5, if_neg h5]; exact done
          · rw [if_neg h4, if_neg h4]; exact done
      · rw [if_neg h2, if_neg (fun z => h2 z.2.2.1)]; exact done
    · rw [if_neg h1, if_neg (fun z => h1 z.2.1)]; exact done
