/-! LAW(): both readers of a text; what they hold alike as they read -/
def yk (W : Nat → Nat → Prop) (A B : yI) : Prop := ∀ a j, ¬ W a j → B a j = A a j
theorem yk_refl {W : Nat → Nat → Prop} (A : yI) : yk W A A := fun _ _ _ => rfl
theorem yk_trans {W V : Nat → Nat → Prop} {A B C : yI} (h1 : yk W A B) (h2 : yk V B C) (hs : ∀ a j, V a j → W a j) : yk W A C := fun a j h => (h2 a j (fun z => h (hs a j z))).trans (h1 a j h)
theorem yk_mono {W V : Nat → Nat → Prop} {A B : yI} (h : yk V A B) (hs : ∀ a j, V a j → W a j) : yk W A B := fun a j q => h a j (fun z => q (hs a j z))
theorem yk_zu {W : Nat → Nat → Prop} {A B : yI} {a k : Nat} {x : Int32} (h : W a k) (hb : yk W A B) : yk W A (zu B a k x) := by
  intro b j hk
  rw [zu_at, if_neg, hb b j hk]
  rintro ⟨rfl, rfl⟩
  exact hk h
def wA (nl sz : Nat) (a j : Nat) : Prop := (a = 15 ∧ j = 4) ∨ (a = 18 + nl ∧ sz ≤ j) ∨ (a = 22 ∧ j = nl)
def wB (la : Nat) (a j : Nat) : Prop := (a = 73 ∧ 20 ≤ j ∧ j ≤ 23) ∨ ((a = 86 ∨ a = 87) ∧ 520 + la ≤ j)
theorem wA_le {nl s s' : Nat} (h : s ≤ s') : ∀ a j, wA nl s' a j → wA nl s a j := by
  intro a j q
  unfold wA at *
  omega
theorem wB_le {s s' : Nat} (h : s ≤ s') : ∀ a j, wB s' a j → wB s a j := by
  intro a j q
  unfold wB at *
  omega
def ysb (b : Nat) : Int32 := (yn b).toInt8.toInt32.toInt8.toInt32
def yc (b : Nat) : Int32 := if b = 256 then -1 else yn b
def yd (b : Nat) : Int32 := if b = 256 then -1 else ysb b
theorem yc_n {b : Nat} (h : b < 256) : yc b = yn b := if_neg (by omega)
theorem yd_n {b : Nat} (h : b < 256) : yd b = ysb b := if_neg (by omega)
theorem ysb_lo : ∀ b, b < 128 → ysb b = yn b := by decide +kernel
theorem ysb_hi : ∀ b, b < 256 → (128 ≤ b → ysb b < 0) := by decide +kernel
theorem yc_m {b m : Nat} (hb : b < 257) (hm : m < 128) : yc b = yn m ↔ b = m := by
  by_cases e : b = 256
  · subst e
    unfold yc
    rw [if_pos rfl]
    constructor
    · intro z; exact absurd z.symm (yn_ne1 (by omega))
    · intro z; omega
  · rw [yc_n (by omega), yn_inj (by omega) (by omega)]
theorem yd_m {b m : Nat} (hb : b < 257) (hm : m < 128) : yd b = yn m ↔ b = m := by
  by_cases e : b = 256
  · subst e
    unfold yd
    rw [if_pos rfl]
    constructor
    · intro z; exact absurd z.symm (yn_ne1 (by omega))
    · intro z; omega
  · rw [yd_n (by omega)]
    by_cases c : b < 128
    · rw [ysb_lo b c, yn_inj (by omega) (by omega)]
    · have h1 := ysb_hi b (by omega) (by omega)
      constructor
      · intro z
        rw [z] at h1
        exact absurd h1 (Int32.not_lt.mpr (yn_pos (by omega)))
      · intro z; omega
def ydg (b : Nat) : Bool := Nat.ble 48 b && Nat.ble b 57
def ylv (b : Nat) : Int32 := if b = 124 then 0 else if b = 38 then 1 else if b = 60 ∨ b = 61 ∨ b = 62 then 2 else if b = 43 ∨ b = 45 then 3 else if b = 42 ∨ b = 47 ∨ b = 37 then 4 else -1
def ynm (b : Nat) : Int32 := if b = 109 then 0 else if b = 107 then 1 else if b = 119 then 2 else if b = 113 then 3 else if b = 110 then 4 else if b = 102 then 5 else if b = 111 then 6 else if b = 104 then 7 else -1
theorem t_dig : ∀ b, b < 257 → f27_isDigit (yc b) = some (bif ydg b then 1 else 0) := by decide +kernel
theorem t_dig2 : ∀ b, b < 257 → f129_in (yd b) 48 57 = some (bif ydg b then 1 else 0) := by decide +kernel
theorem t_lvl : ∀ b, b < 257 → f23_levelOf (yc b) = some (ylv b) := by decide +kernel
theorem t_nm : ∀ b, b < 257 → f142_nameOf (yd b) = some (ynm b) := by decide +kernel
theorem t_nm0 : ∀ b, b < 256 → f219_indexOf ((yn b).toUInt32 % 65536).toInt32 (fun _ _ => 0) = some (ynm b) := by decide +kernel
theorem t_nmI (c : Int32) (I J : yI) : f219_indexOf c I = f219_indexOf c J := by
  have h : ∀ u v, f225_indexOfChar_L7 u v I = f225_indexOfChar_L7 u v J := fun u v => rfl
  unfold f219_indexOf f220_indexOf f224_indexOf f225_indexOfChar
  simp only [h]
theorem t_nm2 {b : Nat} (h : b < 256) (I : yI) : f219_indexOf ((yn b).toUInt32 % 65536).toInt32 I = some (ynm b) := by
  rw [t_nmI _ I (fun _ _ => 0)]
  exact t_nm0 b h
theorem t_nmv : ∀ b, b < 257 → (ynm b = -1 ∨ (∃ j, j < 8 ∧ ynm b = yn j) ∧ b < 128 ∧ ydg b = false) := by
  intro b hb
  by_cases e : ynm b = -1
  · exact Or.inl e
  · right
    unfold ynm at e ⊢
    by_cases c1 : b = 109
    · subst c1; exact ⟨⟨0, by omega, rfl⟩, by omega, rfl⟩
    by_cases c2 : b = 107
    · subst c2; exact ⟨⟨1, by omega, rfl⟩, by omega, rfl⟩
    by_cases c3 : b = 119
    · subst c3; exact ⟨⟨2, by omega, rfl⟩, by omega, rfl⟩
    by_cases c4 : b = 113
    · subst c4; exact ⟨⟨3, by omega, rfl⟩, by omega, rfl⟩
    by_cases c5 : b = 110
    · subst c5; exact ⟨⟨4, by omega, rfl⟩, by omega, rfl⟩
    by_cases c6 : b = 102
    · subst c6; exact ⟨⟨5, by omega, rfl⟩, by omega, rfl⟩
    by_cases c7 : b = 111
    · subst c7; exact ⟨⟨6, by omega, rfl⟩, by omega, rfl⟩
    by_cases c8 : b = 104
    · subst c8; exact ⟨⟨7, by omega, rfl⟩, by omega, rfl⟩
    rw [if_neg c1, if_neg c2, if_neg c3, if_neg c4, if_neg c5, if_neg c6, if_neg c7, if_neg c8] at e
    exact absurd rfl e
theorem ydg_t {b : Nat} : ydg b = true ↔ 48 ≤ b ∧ b ≤ 57 := by
  unfold ydg
  rw [Bool.and_eq_true, Nat.ble_eq, Nat.ble_eq]
theorem ydg_lv {b : Nat} (h : ydg b = true) : ylv b = -1 := by
  rw [ydg_t] at h
  unfold ylv
  rw [if_neg (by omega), if_neg (by omega), if_neg (by omega), if_neg (by omega), if_neg (by omega)]
/-! the segments of codes and steps -/
def yG (D : Nat) (C AC WI : Nat → Int32) (c0 r0 n : Nat) : Prop := ∃ dp : Nat → Nat, dp 0 = 0 ∧ dp n = 1 ∧ ∀ j, j < n → dp j ≤ D ∧ yTok (C (c0 + j)) (AC (r0 + j)) (WI (r0 + j)) (dp j) (dp (j + 1))
theorem yG_cg {D c0 r0 n : Nat} {C AC WI C' AC' WI' : Nat → Int32} (h : yG D C AC WI c0 r0 n) (h1 : ∀ j, j < n → C' (c0 + j) = C (c0 + j)) (h2 : ∀ j, j < n → AC' (r0 + j) = AC (r0 + j)) (h3 : ∀ j, j < n → WI' (r0 + j) = WI (r0 + j)) : yG D C' AC' WI' c0 r0 n := by
  obtain ⟨dp, a, b, c⟩ := h
  refine ⟨dp, a, b, fun j hj => ?_⟩
  rw [h1 j hj, h2 j hj, h3 j hj]
  exact c j hj
theorem yG_mono {D E c0 r0 n : Nat} {C AC WI : Nat → Int32} (h : yG D C AC WI c0 r0 n) (hD : D ≤ E) : yG E C AC WI c0 r0 n := by
  obtain ⟨dp, a, b, c⟩ := h
  exact ⟨dp, a, b, fun j hj => ⟨Nat.le_trans (c j hj).1 hD, (c j hj).2⟩⟩
theorem yG_one {c0 r0 : Nat} {C AC WI : Nat → Int32} (h : yTok (C c0) (AC r0) (WI r0) 0 1) : yG 1 C AC WI c0 r0 1 := by
  refine ⟨fun j => j, rfl, rfl, fun j hj => ?_⟩
  have : j = 0 := by omega
  subst this
  exact ⟨Nat.zero_le _, h⟩
theorem yG_un {D c0 r0 n : Nat} {C AC WI : Nat → Int32} (h : yG D C AC WI c0 r0 n) (hD : 1 ≤ D) (t : yTok (C (c0 + n)) (AC (r0 + n)) (WI (r0 + n)) 1 1) : yG D C AC WI c0 r0 (n + 1) := by
  obtain ⟨dp, a, b, c⟩ := h
  refine ⟨fun j => if j ≤ n then dp j else 1, by simp [a], if_neg (by omega), fun j hj => ?_⟩
  dsimp only
  by_cases e : j < n
  · rw [if_pos (by omega), if_pos (by omega)]; exact c j e
  · have : j = n := by omega
    subst this
    rw [if_pos (by omega), if_neg (by omega), b]; exact ⟨hD, t⟩
theorem yTok_up {c ac wi : Int32} {d d' : Nat} (h : yTok c ac wi d d') : yTok c ac wi (d + 1) (d' + 1) := by
  rcases h with ⟨a, b, c⟩ | ⟨a, b, c⟩ | ⟨a, b, c, e⟩ | ⟨a, b, c, e⟩ | ⟨b, h1, h2, h3, h4⟩
  · exact Or.inl ⟨a, by omega, c⟩
  · exact Or.inr (Or.inl ⟨a, by omega, c⟩)
  · exact Or.inr (Or.inr (Or.inl ⟨a, by omega, by omega, e⟩))
  · exact Or.inr (Or.inr (Or.inr (Or.inl ⟨a, by omega, by omega, e⟩)))
  · exact Or.inr (Or.inr (Or.inr (Or.inr ⟨b, h1, by omega, by omega, h4⟩)))
theorem yG_bin {D D' E c0 r0 n n' : Nat} {C AC WI : Nat → Int32} (h : yG D C AC WI c0 r0 n) (h' : yG D' C AC WI (c0 + n) (r0 + n) n') (hD : D ≤ E) (hD' : D' + 1 ≤ E) (hE : 2 ≤ E) (t : yTok (C (c0 + (n + n'))) (AC (r0 + (n + n'))) (WI (r0 + (n + n'))) 2 1) : yG E C AC WI c0 r0 (n + n' + 1) := by
  obtain ⟨dp, a, b, c⟩ := h
  obtain ⟨dq, a', b', c'⟩ := h'
  refine ⟨fun j => if j ≤ n then dp j else if j ≤ n + n' then dq (j - n) + 1 else 1, by simp [a], ?_, fun j hj => ?_⟩
  · dsimp only
    rw [if_neg (by omega), if_neg (by omega)]
  · dsimp only
    by_cases e : j < n
    · rw [if_pos (by omega), if_pos (by omega)]
      exact ⟨Nat.le_trans (c j e).1 hD, (c j e).2⟩
    · by_cases e2 : j < n + n'
      · have k := c' (j - n) (by omega)
        have i1 : c0 + n + (j - n) = c0 + j := by omega
        have i2 : r0 + n + (j - n) = r0 + j := by omega
        rw [i1, i2] at k
        have e3 : (if j ≤ n then dp j else if j ≤ n + n' then dq (j - n) + 1 else 1) = dq (j - n) + 1 := by
          by_cases q : j ≤ n
          · have : j = n := by omega
            subst this
            rw [if_pos q, b, Nat.sub_self, a']
          · rw [if_neg q, if_pos (by omega)]
        have i3 : j + 1 - n = j - n + 1 := by omega
        rw [e3, if_neg (show ¬ j + 1 ≤ n by omega), if_pos (show j + 1 ≤ n + n' by omega), i3]
        exact ⟨by omega, yTok_up k.2⟩
      · have : j = n + n' := by omega
        subst this
        have e3 : (if n + n' ≤ n then dp (n + n') else if n + n' ≤ n + n' then dq (n + n' - n) + 1 else 1) = 2 := by
          by_cases q : n' = 0
          · subst q
            rw [a'] at b'
            omega
          · rw [if_neg (by omega), if_pos (Nat.le_refl _), show n + n' - n = n' by omega, b']
        rw [e3, if_neg (by omega), if_neg (by omega)]
        exact ⟨hE, t⟩
/-! the readers' states -/
def yC (nl T : Nat) (A B : yI) : Prop := (nl < 4 ∧ T ≤ 120) ∧ (A 15 6 = yn T ∧ A 15 7 = yn nl ∧ B 73 19 = yn T) ∧ ∀ i, i < T → ∃ b, b < 256 ∧ A 16 i = yn b ∧ B 85 i = ysb b
theorem yC_k {nl T s l : Nat} {A B A' B' : yI} (h : yC nl T A B) (hA : yk (wA nl s) A A') (hB : yk (wB l) B B') : yC nl T A' B' := by
  obtain ⟨⟨h0, h1⟩, ⟨h2, h3, h4⟩, h5⟩ := h
  refine ⟨⟨h0, h1⟩, ⟨?_, ?_, ?_⟩, fun i hi => ?_⟩
  · rw [hA 15 6 (by unfold wA; omega)]; exact h2
  · rw [hA 15 7 (by unfold wA; omega)]; exact h3
  · rw [hB 73 19 (by unfold wB; omega)]; exact h4
  · rw [hA 16 i (by unfold wA; omega), hB 85 i (by unfold wB; omega)]; exact h5 i hi
def yPs (nl T p sz la o : Nat) (A B : yI) : Prop := yC nl T A B ∧ (p ≤ T ∧ sz ≤ p ∧ la ≤ p ∧ o ≤ 6) ∧ (A 15 4 = yn p ∧ A 22 nl = yn sz) ∧ (B 73 20 = yn p ∧ B 73 21 = -1 ∧ B 73 22 = yn o ∧ B 73 23 = yn la)
def yPb (nl T p lm : Nat) (A B : yI) : Prop := yC nl T A B ∧ p ≤ T ∧ A 15 4 = yn p ∧ (∃ sz, sz ≤ 121 ∧ A 22 nl = yn sz) ∧ B 73 20 = yn p ∧ B 73 21 = yn p ∧ ∃ la, la ≤ lm ∧ B 73 23 = yn la
def yDg (T p : Nat) (A : yI) : Prop := p < T ∧ ∃ b, ydg b = true ∧ A 16 p = yn b
/-- read well: up to p, n codes and steps more -/
def yGd (nl T p0 sz0 la0 o D p n : Nat) (A B : yI) : Prop := (1 ≤ n ∧ p0 + n ≤ p) ∧ yPs nl T p (sz0 + n) (la0 + n) o A B ∧ yG D (A (18 + nl)) (B 86) (B 87) sz0 (520 + la0) n
def yBd (nl T p0 la0 p : Nat) (A B : yI) : Prop := p0 ≤ p ∧ yPb nl T p (la0 + (p - p0) + 1) A B
/-- what a reading function and the reference's leave -/
def yOut (nl T p0 sz0 la0 o D : Nat) (A B : yI) (x : Int32 × yI) (y : yI) : Prop := (x.1 = 1 ∧ yk (wA nl sz0) A x.2 ∧ yk (wB la0) B y ∧ ∃ p n, yGd nl T p0 sz0 la0 o D p n x.2 y) ∨ (yk (wA nl 0) A x.2 ∧ yk (wB 0) B y ∧ ∃ p, yBd nl T p0 la0 p x.2 y ∧ (x.1 = 0 ∨ (x.1 = 1 ∧ yDg T p x.2)))
theorem wA0 {nl s : Nat} {A B : yI} (h : yk (wA nl s) A B) : yk (wA nl 0) A B := yk_mono h (wA_le (Nat.zero_le _))
theorem wB0 {s : Nat} {A B : yI} (h : yk (wB s) A B) : yk (wB 0) A B := yk_mono h (wB_le (Nat.zero_le _))
def yRE (nl T o D : Nat) (f : yI → Option (Int32 × yI)) (g : yI → Option yI) : Prop := ∀ p sz la A B, yPs nl T p sz la o A B → y2 (f A) (g B) (yOut nl T p sz la o D A B)
theorem ch_ok {nl T p : Nat} {A B : yI} (hC : yC nl T A B) (hp : p ≤ T) (hA : A 15 4 = yn p) (hB : B 73 20 = yn p) : ∃ b, b < 257 ∧ f28_next A = some (yc b) ∧ f139_look B = some (yd b) ∧ ((p = T ∧ b = 256) ∨ (p < T ∧ b < 256 ∧ A 16 p = yn b)) := by
  obtain ⟨⟨h0, h1⟩, ⟨h2, h3, h4⟩, h5⟩ := hC
  unfold f28_next f139_look
  rw [hA, h2, h4, hB, if_neg (Int32.not_lt.mpr (yn_pos (by omega)))]
  by_cases e : p = T
  · subst e
    rw [if_pos (Int32.le_refl _), if_pos (Int32.le_refl _)]
    exact ⟨256, by omega, rfl, rfl, Or.inl ⟨rfl, rfl⟩⟩
  · have g : ¬ yn T ≤ yn p := by rw [yn_le (by omega) (by omega)]; omega
    have g2 : ¬ (120 : Int32) ≤ yn p := by
      show ¬ yn 120 ≤ yn p
      rw [yn_le (by omega) (by omega)]; omega
    obtain ⟨b, b1, b2, b3⟩ := h5 p (by omega)
    rw [if_neg g, if_neg g, if_neg g2, zin_yn (by omega) (by omega), yn_nat (by omega), b2, b3]
    refine ⟨b, by omega, ?_, ?_, Or.inr ⟨by omega, b1, rfl⟩⟩
    · rw [yc_n b1]; rfl
    · rw [yd_n b1]; rfl
theorem nx_ok {nl T p b : Nat} {A B : yI} (hC : yC nl T A B) (hp : p < T) (hA : A 15 4 = yn p) (e : A 16 p = yn b) : f28_next A = some (yn b) := by
  obtain ⟨⟨h0, h1⟩, ⟨h2, h3, h4⟩, h5⟩ := hC
  unfold f28_next
  have g : ¬ yn T ≤ yn p := by rw [yn_le (by omega) (by omega)]; omega
  have g2 : ¬ (120 : Int32) ≤ yn p := by
    show ¬ yn 120 ≤ yn p
    rw [yn_le (by omega) (by omega)]; omega
  rw [hA, h2, if_neg (Int32.not_lt.mpr (yn_pos (by omega))), if_neg g, if_neg g2, zin_yn (by omega) (by omega), yn_nat (by omega), e]
  rfl
theorem adv_ok {nl T p sz la o : Nat} {A B : yI} (s l : Nat) (h : yPs nl T p sz la o A B) (hp : p < T) : yPs nl T (p + 1) sz la o (zu A 15 4 (A 15 4 + 1)) (zu B 73 20 (B 73 20 + 1)) ∧ yk (wA nl s) A (zu A 15 4 (A 15 4 + 1)) ∧ yk (wB l) B (zu B 73 20 (B 73 20 + 1)) := by
  have k1 : yk (wA nl s) A (zu A 15 4 (A 15 4 + 1)) := yk_zu (by unfold wA; omega) (yk_refl _)
  have k2 : yk (wB l) B (zu B 73 20 (B 73 20 + 1)) := yk_zu (by unfold wB; omega) (yk_refl _)
  obtain ⟨hC, ⟨g1, g2, g3, g4⟩, ⟨a1, a2⟩, ⟨b1, b2, b3, b4⟩⟩ := h
  refine ⟨⟨yC_k hC k1 k2, ⟨by omega, by omega, by omega, g4⟩, ⟨?_, ?_⟩, ⟨?_, ?_, ?_, ?_⟩⟩, k1, k2⟩
  · rw [zu_same, a1, yn_succ]
  · rw [zu_ne (by omega)]; exact a2
  · rw [zu_same, b1, yn_succ]
  · rw [zu_nej (by omega)]; exact b2
  · rw [zu_nej (by omega)]; exact b3
  · rw [zu_nej (by omega)]; exact b4
theorem write_ok {nl T sz : Nat} {A B : yI} (hC : yC nl T A B) (hs : A 22 nl = yn sz) (h : sz < 121) (c : Int32) : f29_write c A = some (zu (zu A (18 + nl) sz c) 22 nl (yn (sz + 1))) := by
  obtain ⟨⟨h0, h1⟩, ⟨h2, h3, h4⟩, h5⟩ := hC
  unfold f29_write
  have r : zrow0 (yn nl) = 18 + nl := by
    unfold zrow0
    rw [yn_nat (by omega)]
  have g : ¬ (121 : Int32) ≤ yn sz := by
    show ¬ yn 121 ≤ yn sz
    rw [yn_le (by omega) (by omega)]; omega
  have e1 : zu A (18 + nl) sz c 15 7 = yn nl := by rw [zu_ne (by omega)]; exact h3
  have e2 : zu A (18 + nl) sz c 22 nl = yn sz := by rw [zu_ne (by omega)]; exact hs
  rw [h3, r, yn_nat (n := nl) (by omega), hs, yn_nat (n := sz) (by omega), e1, yn_nat (n := nl) (by omega), e2, if_neg g, zin_yn (m := nl) (by omega) (by omega), zin_yn (m := sz) (by omega) (by omega), yn_succ]
  rfl
theorem write_any {nl T sz : Nat} {A B : yI} (hC : yC nl T A B) (hs : A 22 nl = yn sz) (h : sz ≤ 121) (c : Int32) : ∃ A', f29_write c A = some A' ∧ yk (wA nl 0) A A' ∧ A' 15 4 = A 15 4 ∧ ∃ sz', sz' ≤ 121 ∧ A' 22 nl = yn sz' := by
  by_cases e : sz = 121
  · subst e
    refine ⟨A, ?_, yk_refl _, rfl, 121, by omega, hs⟩
    obtain ⟨⟨h0, h1⟩, ⟨h2, h3, h4⟩, h5⟩ := hC
    unfold f29_write
    rw [h3, yn_nat (by omega), hs, zin_yn (by omega) (by omega), if_pos (show (121 : Int32) ≤ yn 121 from Int32.le_refl _)]
    rfl
  · refine ⟨_, write_ok hC hs (by omega) c, yk_zu (by unfold wA; omega) (yk_zu (by unfold wA; omega) (yk_refl _)), ?_, sz + 1, by omega, zu_same _ _ _ _⟩
    rw [zu_ne (by omega), zu_ne (by omega)]
theorem add_ok {la m : Nat} {B : yI} (hl : B 73 23 = yn la) (h : la < 130) (hm : m < 128) (wi : Int32) : f141_addStep (yn m) wi B = some (zu (zu (zu B 86 (520 + la) (yn m)) 87 (520 + la) wi) 73 23 (yn (la + 1))) := by
  unfold f141_addStep
  have e : 520 + yn la = yn (520 + la) := yn_add 520 la
  have e2 : (yn m).toInt8.toInt32.toInt8.toInt32 = yn m := ysb_lo m hm
  rw [hl, e, e2, zin_yn (by omega) (by omega), yn_nat (by omega), yn_succ]
  rfl
