/-! LAST, FLOW -/
def yTrip (a s v : Nat) : Prop := v / 100 < s ∧ v / 10 % 10 < a ∧ v % 10 < a ∧ v / 10 % 10 ≠ v % 10
theorem yIs_yn {n m : Nat} (hm : m < 2147483648) (hn : n < 2147483648) : yIs n (yn m) ↔ m < n := by
  constructor
  · rintro ⟨i, hi, e⟩
    rw [yn_inj hm (by omega)] at e
    omega
  · intro h; exact ⟨m, h, rfl⟩
theorem f101_e {a s : Nat} {A : yI} (ha : a ≤ 4) (hs : s ≤ 8) (a1 : A 1 0 = yn a) (a3 : A 1 2 = yn s) {v : Nat} (hv : v < 2147483648) : f101_isSortAndWay (yn v) A = some (yb (yTrip a s v)) := by
  unfold f101_isSortAndWay
  have d100 : yn v / 100 = yn (v / 100) := yn_div (d := 100) hv (by decide)
  have m100 : yn v - yn v / 100 * 100 = yn (v % 100) := yn_mod (d := 100) hv (by decide)
  rw [if_neg (Int32.not_lt.mpr (yn_pos hv)), m100, d100, f62_e a3 hs, f63_e a1 ha]
  simp only [ob, yb_ite0]
  have t : yTwo a (yn (v % 100)) ↔ v / 10 % 10 < a ∧ v % 10 < a ∧ v / 10 % 10 ≠ v % 10 := by
    unfold yTwo
    rw [yn_mod10 (by omega), yn_div10 (by omega), yIs_yn (by omega) (by omega), yIs_yn (by omega) (by omega), ne_eq, yn_inj (by omega) (by omega)]
    have e1 : v % 100 / 10 = v / 10 % 10 := by omega
    have e2 : v % 100 % 10 = v % 10 := by omega
    rw [e1, e2]
    exact ⟨fun h => h.2, fun h => ⟨yn_pos (by omega), h⟩⟩
  by_cases h1 : yIs s (yn (v / 100))
  · rw [if_pos h1]
    rw [yIs_yn (by omega) (by omega)] at h1
    by_cases h2 : yTwo a (yn (v % 100))
    · rw [if_pos h2, yb_t]; exact ⟨h1, t.mp h2⟩
    · rw [if_neg h2, yb_f]; exact fun q => h2 (t.mpr q.2)
  · rw [if_neg h1, yb_f]
    rw [yIs_yn (by omega) (by omega)] at h1
    exact fun q => h1 q.1
theorem f180_e {a s : Nat} {B : yI} (ha : a ≤ 4) (hs : s ≤ 8) (b1 : B 73 1 = yn a) (b3 : B 73 9 = yn s) {v : Nat} (hv : v < 2147483648) : f180_isTrip (yn v) B = some (yb (yTrip a s v)) := by
  unfold f180_isTrip
  have d100 : yn v / 100 = yn (v / 100) := yn_div (d := 100) hv (by decide)
  rw [if_neg (Int32.not_lt.mpr (yn_pos hv)), yn_mod10 hv, yn_div10 hv, yn_mod10 (m := v / 10) (by omega), d100, f131_e b3 hs, f130_e b1 ha, f130_e b1 ha]
  simp only [ob, yb_ite0]
  unfold yTrip
  by_cases h1 : v / 100 < s
  · rw [if_pos ((yIs_yn (by omega) (by omega)).mpr h1)]
    by_cases h2 : v / 10 % 10 < a
    · rw [if_pos ((yIs_yn (by omega) (by omega)).mpr h2)]
      by_cases h3 : v % 10 < a
      · rw [if_pos ((yIs_yn (by omega) (by omega)).mpr h3)]
        by_cases h4 : v / 10 % 10 = v % 10
        · rw [if_pos ((yn_inj (by omega) (by omega)).mpr h4), yb_f]; exact fun q => q.2.2.2 h4
        · rw [if_neg (fun q => h4 ((yn_inj (by omega) (by omega)).mp q)), yb_t]; exact ⟨h1, h2, h3, h4⟩
      · rw [if_neg (fun q => h3 ((yIs_yn (by omega) (by omega)).mp q)), yb_f]; exact fun q => h3 q.2.2.1
    · rw [if_neg (fun q => h2 ((yIs_yn (by omega) (by omega)).mp q)), yb_f]; exact fun q => h2 q.2.1
  · rw [if_neg (fun q => h1 ((yIs_yn (by omega) (by omega)).mp q)), yb_f]; exact fun q => h1 q.1
/-- the reference's far[]: -1, or minutes that are not too few -/
def yFar (B : yI) (a p : Nat) (f : Nat → Nat → Nat) (T : Nat) : Prop := ∀ v, v < a → B 106 v = -1 ∨ ∃ d, d ≤ T ∧ f p v ≤ d ∧ B 106 v = yn d
/-- how many are nearer -/
def yrk (f : Nat → Nat → Nat) (p v : Nat) : Nat := (if f p 0 < f p v then 1 else 0) + (if f p 1 < f p v then 1 else 0) + (if f p 2 < f p v then 1 else 0) + (if f p 3 < f p v then 1 else 0)
theorem yrk_lt {f : Nat → Nat → Nat} {p u v : Nat} (hu : u < 4) (h : f p u < f p v) : yrk f p u < yrk f p v := by
  unfold yrk
  have hu4 : u = 0 ∨ u = 1 ∨ u = 2 ∨ u = 3 := by omega
  rcases hu4 with rfl | rfl | rfl | rfl <;> (repeat' split) <;> omega
theorem yrk_4 {f : Nat → Nat → Nat} {p v : Nat} (hv : v < 4) : yrk f p v < 4 := by
  unfold yrk
  have hv4 : v = 0 ∨ v = 1 ∨ v = 2 ∨ v = 3 := by omega
  rcases hv4 with rfl | rfl | rfl | rfl <;> (repeat' split) <;> omega
/-- one relaxation -/
theorem f178_P {B : yI} {a p T u v m : Nat} {f : Nat → Nat → Nat} (ha : a ≤ 4) (hT : T < 10000) (hu : u < a) (hv : v < a) (hm : m ≤ 30) (hb : ∀ x, x < 4 → f p x ≤ INF) (hs : f p v ≤ f p u + m) (h : yFar B a p f T) : yP (f178_nearer (yn u) (yn v) (yn m) B) (fun B' => yFar B' a p f (T + 30) ∧ (∀ x, x < a → B 106 x = yn (f p x) → B' 106 x = yn (f p x)) ∧ (B 106 u = yn (f p u) → f p v = f p u + m → B' 106 v = yn (f p v))) := by
  have up : yFar B a p f (T + 30) := by
    intro x hx
    rcases h x hx with e | ⟨d, h1, h2, h3⟩
    · exact Or.inl e
    · exact Or.inr ⟨d, by omega, h2, h3⟩
  have bu := hb u (by omega)
  have bv := hb v (by omega)
  unfold INF at bu bv
  unfold f178_nearer
  refine yP_bif (zin_yn (by omega) (by omega)) ?_
  rw [yn_nat (n := u) (by omega), yn_nat (n := v) (by omega)]
  rcases h u hu with e | ⟨du, h1, h2, h3⟩
  · rw [e]
    exact yP_pos (by decide) (yP_some ⟨up, fun _ _ q => q, fun q => absurd q.symm (yn_ne1 (by omega))⟩)
  · have n1 : ¬ yn du < 0 := Int32.not_lt.mpr (yn_pos (by omega))
    have es : yn du + yn m = yn (du + m) := yn_add _ _
    rw [h3]
    refine yP_neg n1 (yP_bif (zin_yn (by omega) (by omega)) ?_)
    rw [es]
    have far' : yFar (zu B 106 v (yn (du + m))) a p f (T + 30) := by
      intro x hx
      by_cases e : x = v
      · subst e
        exact Or.inr ⟨du + m, by omega, by omega, zu_same _ _ _ _⟩
      · rw [zu_nej e]; exact up x hx
    rcases h v hv with e | ⟨dv, g1, g2, g3⟩
    · rw [e]
      refine yP_pos (by decide) (yP_bif (zin_yn (by omega) (by omega)) (yP_bif (zin_yn (by omega) (by omega)) (yP_some ⟨far', ?_, ?_⟩)))
      · intro x hx q
        by_cases ex : x = v
        · subst ex
          rw [e] at q
          exact absurd q.symm (yn_ne1 (by omega))
        · rw [zu_nej ex]; exact q
      · intro q1 q2
        rw [yn_inj (by omega) (by omega)] at q1
        rw [zu_same, q1, q2]
    · rw [g3]
      refine yP_neg (Int32.not_lt.mpr (yn_pos (by omega))) (yP_bif (zin_yn (by omega) (by omega)) (yP_bif (zin_yn (by omega) (by omega)) ?_))
      by_cases c : dv ≤ du + m
      · refine yP_pos ((yn_le (by omega) (by omega)).mpr c) (yP_some ⟨up, fun _ _ q => q, fun q1 q2 => ?_⟩)
        rw [yn_inj (by omega) (by omega)] at q1
        rw [g3]
        congr 1; omega
      · refine yP_neg (fun q => c ((yn_le (by omega) (by omega)).mp q)) (yP_bif (zin_yn (by omega) (by omega)) (yP_bif (zin_yn (by omega) (by omega)) (yP_some ⟨far', ?_, ?_⟩)))
        · intro x hx q
          by_cases ex : x = v
          · subst ex
            rw [g3, yn_inj (by omega) (by omega)] at q
            omega
          · rw [zu_nej ex]; exact q
        · intro q1 q2
          rw [yn_inj (by omega) (by omega)] at q1
          rw [zu_same, q1, q2]
/-- the ways as the reference has them -/
def yWB (a w : Nat) (A B : yI) : Prop := ∀ i, i < w → ∃ p q m, p < a ∧ q < a ∧ 1 ≤ m ∧ m ≤ 30 ∧ A 4 i = yn p ∧ A 5 i = yn q ∧ A 6 i = yn m ∧ B 76 i = yn p ∧ B 77 i = yn q ∧ B 78 i = yn m
/-- all that are nearer than r others are right -/
def yRight (B : yI) (a p : Nat) (f : Nat → Nat → Nat) (r : Nat) : Prop := ∀ v, v < a → f p v < INF → yrk f p v ≤ r → B 106 v = yn (f p v)
theorem f177_P {A B : yI} {a w p q : Nat} {f : Nat → Nat → Nat} (ha : a ≤ 4) (hw : w ≤ 12) (hp : p < a) (hq : q < a) (b1 : B 73 1 = yn a) (b2 : B 73 4 = yn w) (hW : yWB a w A B) (hF : yFew A w f) : yP (f177_fewest (yn p) (yn q) B) (fun x => x.1 = if f p q < INF then yn (f p q) else -1) := by
  have hb : ∀ x, x < 4 → f p x ≤ INF := fun x hx => hF.2.1 p x (by omega) hx
  have f0 := hF.1 p (by omega)
  have fr45 : ∀ r s x, zloop (f177_fewest_L45 (yn q) r) 5000 s = some x → yfr w_f177_fewest_L45 s.2 x.2 := fun r s x h => (frl_f177_fewest_L45 (yn q) r 5000 s) x h
  unfold f177_fewest
  -- at first
  have first : yP (zloop (f177_fewest_L2 (yn p) (yn q)) 5000 ((0 : Int32), B)) (fun x => (∀ v, v < a → x.2 106 v = if v = p then 0 else -1) ∧ x.2 73 1 = yn a ∧ x.2 73 4 = yn w ∧ yWB a w A x.2) := by
    refine yP_with (P := fun x => ∀ v, v < a → x.2 106 v = if v = p then 0 else -1) ?_ ?_
    · refine yP_for a (fun i s => s.1 = yn i ∧ s.2 73 1 = yn a ∧ ∀ v, v < i → s.2 106 v = if v = p then 0 else -1) (k := 0) ⟨rfl, b1, fun v hv => absurd hv (Nat.not_lt_zero _)⟩ (by omega) (by omega) ?_ ?_
      · rintro i ⟨c, D⟩ hi ⟨e, h1, h2⟩
        dsimp only at e h1 h2
        subst e
        unfold f177_fewest_L2
        dsimp only
        refine yP_neg (by rw [h1, yn_le (by omega) (by omega)]; omega) ?_
        by_cases c : i = p
        · subst c
          refine yP_pos rfl (yP_bif (zin_yn (by omega) (by omega)) (yP_some ?_))
          rw [yn_nat (by omega), yn_succ]
          refine ⟨rfl, by simpa [zu_at] using h1, fun v hv => ?_⟩
          by_cases e : v = i
          · subst e; simp [zu_at]
          · simpa [zu_at, e] using h2 v (by omega)
        · refine yP_neg (by rw [yn_inj (by omega) (by omega)]; exact c) (yP_bif (zin_yn (by omega) (by omega)) (yP_some ?_))
          rw [yn_nat (by omega), yn_succ]
          refine ⟨rfl, by simpa [zu_at] using h1, fun v hv => ?_⟩
          by_cases e : v = i
          · subst e; simp [zu_at, c]
          · simpa [zu_at, e] using h2 v (by omega)
      · rintro ⟨c, D⟩ ⟨e, h1, h2⟩
        dsimp only at e h1 h2
        subst e
        unfold f177_fewest_L2
        dsimp only
        exact yP_pos (by rw [h1]; exact Int32.le_refl _) (yP_some h2)
    · intro x hx h
      have fr : yfr w_f177_fewest_L2 B x.2 := (frl_f177_fewest_L2 (yn p) (yn q) 5000 _) x hx
      refine ⟨h, by rw [fr 73 1 rfl]; exact b1, by rw [fr 73 4 rfl]; exact b2, fun i hi => ?_⟩
      obtain ⟨p1, q1, m1, k⟩ := hW i hi
      refine ⟨p1, q1, m1, ?_⟩
      rw [fr 76 i rfl, fr 77 i rfl, fr 78 i rfl]
      exact k
  refine yP_bind (yP_mono first ?_)
  rintro ⟨dc, D⟩ ⟨d0, d1, d2, dW⟩
  dsimp only at d0 d1 d2 dW ⊢
  have start : yFar D a p f 0 ∧ yRight D a p f 0 := by
    constructor
    · intro v hv
      rw [d0 v hv]
      by_cases c : v = p
      · subst c
        rw [if_pos rfl]
        exact Or.inr ⟨0, by omega, by omega, rfl⟩
      · rw [if_neg c]; exact Or.inl rfl
    · intro v hv hlt hr
      have h0 : ¬ 0 < f p v := by
        intro z
        have := yrk_lt (f := f) (p := p) (u := p) (v := v) (by omega) (by omega)
        omega
      by_cases c : v = p
      · subst c
        rw [d0 v hv, if_pos rfl, f0]; rfl
      · exfalso
        obtain ⟨i, u, hi, hu, hl, e⟩ := hF.2.2.2 p v (by omega) (by omega) (Ne.symm c) hlt
        obtain ⟨p1, q1, m1, k1, k2, k3, k4, k5, k6, k7, -⟩ := hW i hi
        have := yM_yn (A := A) (i := i) (by omega) k7
        omega
  refine yP_bind ?_
  refine yP_mono (P := fun x => yFar x.2 a p f (720 * a) ∧ yRight x.2 a p f a) ?_ ?_
  · refine yP_for a (fun r s => s.1 = yn r ∧ s.2 73 1 = yn a ∧ s.2 73 4 = yn w ∧ yWB a w A s.2 ∧ yFar s.2 a p f (720 * r) ∧ yRight s.2 a p f r) (k := 0) ⟨rfl, d1, d2, dW, start.1, start.2⟩ (by omega) (by omega) ?_ ?_
    · rintro r ⟨c, E⟩ hr ⟨e, h1, h2, h3, h4, h5⟩
      dsimp only at e h1 h2 h3 h4 h5
      subst e
      unfold f177_fewest_L34
      dsimp only
      refine yP_neg (by rw [h1, yn_le (by omega) (by omega)]; omega) ?_
      refine yP_bind ?_
      refine yP_mono (P := fun x => x.2 73 1 = yn a ∧ x.2 73 4 = yn w ∧ yWB a w A x.2 ∧ yFar x.2 a p f (720 * r + 720) ∧ yRight x.2 a p f r ∧ ∀ j v u, j < w → v < a → u < 4 → f p v < INF → yrk f p v ≤ r + 1 → yLead A j u v → f p v = f p u + yM A j → x.2 106 v = yn (f p v)) ?_ ?_
      · refine yP_for w (fun i s => s.1 = yn i ∧ s.2 73 1 = yn a ∧ s.2 73 4 = yn w ∧ yWB a w A s.2 ∧ yFar s.2 a p f (720 * r + 60 * i) ∧ yRight s.2 a p f r ∧ ∀ j v u, j < i → v < a → u < 4 → f p v < INF → yrk f p v ≤ r + 1 → yLead A j u v → f p v = f p u + yM A j → s.2 106 v = yn (f p v)) (k := 0) ⟨rfl, h1, h2, h3, h4, h5, fun j _ _ hj => absurd hj (Nat.not_lt_zero _)⟩ (by omega) (by omega) ?_ ?_
        · rintro i ⟨c, G⟩ hi ⟨e, g1, g2, g3, g4, g5, g6⟩
          dsimp only at e g1 g2 g3 g4 g5 g6
          subst e
          unfold f177_fewest_L45
          dsimp only
          refine yP_neg (by rw [g2, yn_le (by omega) (by omega)]; omega) ?_
          refine yP_bif (zin_yn (by omega) (by omega)) (yP_bif (zin_yn (by omega) (by omega)) (yP_bif (zin_yn (by omega) (by omega)) ?_))
          obtain ⟨p1, q1, m1, k1, k2, k3, k4, k5, k6, k7, k8, k9, k10⟩ := g3 i hi
          have ym : yM A i = m1 := yM_yn (by omega) k7
          have lead : yLead A i p1 q1 := Or.inl ⟨k5, k6⟩
          rw [yn_nat (n := i) (by omega), k8, k9, k10]
          have s1 := f178_P (B := G) (p := p) (T := 720 * r + 60 * i) (u := p1) (v := q1) (m := m1) (f := f) ha (by omega) k1 k2 k4 hb (by have := hF.2.2.1 i p p1 q1 hi (by omega) (by omega) (by omega) lead; omega) g4
          refine yP_bind (yP_with s1 ?_)
          rintro G1 e1 ⟨t1, t2, t3⟩
          have fr1 : yfr w_f178_nearer G G1 := (fr_f178_nearer _ _ _ G) _ e1
          refine yP_bif (zin_yn (by omega) (by omega)) (yP_bif (zin_yn (by omega) (by omega)) (yP_bif (zin_yn (by omega) (by omega)) ?_))
          rw [fr1 76 i rfl, fr1 77 i rfl, fr1 78 i rfl, k8, k9, k10]
          have s2 := f178_P (B := G1) (p := p) (T := 720 * r + 60 * i + 30) (u := q1) (v := p1) (m := m1) (f := f) ha (by omega) k2 k1 k4 hb (by have := hF.2.2.1 i p q1 p1 hi (by omega) (by omega) (by omega) (yLead_sym lead); omega) t1
          refine yP_bind (yP_with s2 ?_)
          rintro G2 e2 ⟨r1, r2, r3⟩
          have fr2 : yfr w_f178_nearer G1 G2 := (fr_f178_nearer _ _ _ G1) _ e2
          rw [yn_succ]
          refine yP_some ⟨rfl, ?_, ?_, ?_, ?_, ?_, ?_⟩
          · dsimp only
            rw [fr2 73 1 rfl, fr1 73 1 rfl]; exact g1
          · dsimp only
            rw [fr2 73 4 rfl, fr1 73 4 rfl]; exact g2
          · intro j hj
            obtain ⟨p2, q2, m2, kk⟩ := g3 j hj
            refine ⟨p2, q2, m2, ?_⟩
            dsimp only
            rw [fr2 76 j rfl, fr2 77 j rfl, fr2 78 j rfl, fr1 76 j rfl, fr1 77 j rfl, fr1 78 j rfl]
            exact kk
          · have e : 720 * r + 60 * (i + 1) = 720 * r + 60 * i + 30 + 30 := by omega
            rw [e]
            exact r1
          · intro v hv hlt hrk
            exact r2 v hv (t2 v hv (g5 v hv hlt hrk))
          · intro j v u hj hv hu hlt hrk hl he
            dsimp only
            by_cases c : j = i
            · subst c
              have hm1 : 1 ≤ yM A j := by omega
              have ru : yrk f p u < yrk f p v := yrk_lt hu (by omega)
              have hcase : (u = p1 ∧ v = q1) ∨ (u = q1 ∧ v = p1) := by
                rcases hl with ⟨l1, l2⟩ | ⟨l1, l2⟩
                · rw [k5, yn_inj (by omega) (by omega)] at l1
                  rw [k6, yn_inj (by omega) (by omega)] at l2
                  omega
                · rw [k5, yn_inj (by omega) (by omega)] at l1
                  rw [k6, yn_inj (by omega) (by omega)] at l2
                  omega
              rcases hcase with ⟨rfl, rfl⟩ | ⟨rfl, rfl⟩
              · have gu := g5 u k1 (by omega) (by omega)
                exact r2 v hv (t3 gu (by omega))
              · have gu := t2 u k2 (g5 u k2 (by omega) (by omega))
                exact r3 gu (by omega)
            · exact r2 v hv (t2 v hv (g6 j v u (by omega) hv hu hlt hrk hl he))
        · rintro ⟨c, G⟩ ⟨e, g1, g2, g3, g4, g5, g6⟩
          dsimp only at e g1 g2 g3 g4 g5 g6
          subst e
          unfold f177_fewest_L45
          dsimp only
          refine yP_pos (by rw [g2]; exact Int32.le_refl _) (yP_some ⟨g1, g2, g3, ?_, g5, g6⟩)
          intro v hv
          rcases g4 v hv with e | ⟨d, n1, n2, n3⟩
          · exact Or.inl e
          · exact Or.inr ⟨d, by omega, n2, n3⟩
      · rintro ⟨c, G⟩ ⟨g1, g2, g3, g4, g5, g6⟩
        dsimp only at g1 g2 g3 g4 g5 g6
        dsimp only
        rw [yn_succ]
        refine yP_some ⟨rfl, g1, g2, g3, by have e : 720 * (r + 1) = 720 * r + 720 := by omega
                                            rw [e]; exact g4, ?_⟩
        intro v hv hlt hrk
        by_cases c : v = p
        · subst c
          refine g5 v hv hlt ?_
          have : yrk f v v = 0 := by
            unfold yrk
            rw [f0]
            rfl
          omega
        · obtain ⟨j, u, hj, hu, hl, he⟩ := hF.2.2.2 p v (by omega) (by omega) (Ne.symm c) hlt
          exact g6 j v u hj hv hu hlt hrk hl he
    · rintro ⟨c, E⟩ ⟨e, h1, h2, h3, h4, h5⟩
      dsimp only at e h1 h2 h3 h4 h5
      subst e
      unfold f177_fewest_L34
      dsimp only
      exact yP_pos (by rw [h1]; exact Int32.le_refl _) (yP_some ⟨h4, h5⟩)
  · rintro ⟨c, E⟩ ⟨h4, h5⟩
    dsimp only at h4 h5 ⊢
    refine yP_bif (zin_yn (by omega) (by omega)) (yP_some ?_)
    dsimp only
    rw [yn_nat (by omega)]
    by_cases c : f p q < INF
    · rw [if_pos c]
      refine h5 q hq c ?_
      have out : ∀ u, a ≤ u → u < 4 → ¬ f p u < f p q := by
        intro u hu1 hu2 hlt
        obtain ⟨i, x, hi, hx, hl, -⟩ := hF.2.2.2 p u (by omega) hu2 (by omega) (by omega)
        obtain ⟨p1, q1, m1, k1, k2, k3, k4, k5, k6, -⟩ := hW i hi
        rcases hl with ⟨l1, l2⟩ | ⟨l1, l2⟩
        · rw [k6, yn_inj (by omega) (by omega)] at l2
          omega
        · rw [k5, yn_inj (by omega) (by omega)] at l1
          omega
      unfold yrk
      have ha4 : a = 1 ∨ a = 2 ∨ a = 3 ∨ a = 4 := by omega
      rcases ha4 with rfl | rfl | rfl | rfl
      · rw [if_neg (out 1 (by omega) (by omega)), if_neg (out 2 (by omega) (by omega)), if_neg (out 3 (by omega) (by omega))]
        split <;> omega
      · rw [if_neg (out 2 (by omega) (by omega)), if_neg (out 3 (by omega) (by omega))]
        (repeat' split) <;> omega
      · rw [if_neg (out 3 (by omega) (by omega))]
        (repeat' split) <;> omega
      · (repeat' split) <;> omega
    · rw [if_neg c]
      rcases h4 q hq with e | ⟨d, n1, n2, n3⟩
      · exact e
      · exfalso
        unfold INF at c
        omega
