/-! RULES for the pure functions: total runs (yP), what all runs keep (yF), frames (yfr), small numbers (yn) -/
abbrev yI : Type := Nat → Nat → Int32
abbrev yJ : Type := Nat → Nat → Int64
def yP {α : Type} (o : Option α) (Q : α → Prop) : Prop := ∃ x, o = some x ∧ Q x
def yS {ρ σ : Type} (P : ρ → Prop) (Q : σ → Prop) (y : ρ ⊕ σ) : Prop := match y with
  | .inl x => P x
  | .inr x => Q x
def yF {α : Type} (o : Option α) (Q : α → Prop) : Prop := ∀ x, o = some x → Q x
section YP
variable {α β σ ρ τ : Type}
theorem yP_some {x : α} {Q : α → Prop} (h : Q x) : yP (some x) Q := ⟨x, rfl, h⟩
theorem yP_bind {o : Option α} {k : α → Option β} {Q : β → Prop} (h : yP o (fun x => yP (k x) Q)) : yP (Option.bind o k) Q := by
  obtain ⟨x, rfl, y, h1, h2⟩ := h
  exact ⟨y, h1, h2⟩
theorem yP_ite {c : Prop} {i : Decidable c} {a b : Option α} {Q : α → Prop} (h1 : c → yP a Q) (h2 : ¬ c → yP b Q) : yP (@ite _ c i a b) Q := by
  by_cases h : c
  · rw [if_pos h]; exact h1 h
  · rw [if_neg h]; exact h2 h
theorem yP_pos {c : Prop} {i : Decidable c} {a b : Option α} {Q : α → Prop} (h : c) (h1 : yP a Q) : yP (@ite _ c i a b) Q := by
  rw [if_pos h]; exact h1
theorem yP_neg {c : Prop} {i : Decidable c} {a b : Option α} {Q : α → Prop} (h : ¬ c) (h1 : yP b Q) : yP (@ite _ c i a b) Q := by
  rw [if_neg h]; exact h1
theorem yP_bif {c : Bool} {a : Option α} {Q : α → Prop} (h : c = true) (h1 : yP a Q) : yP (bif c then a else none) Q := by
  rw [h]; exact h1
theorem yP_mono {o : Option α} {P Q : α → Prop} (h : yP o P) (hq : ∀ x, P x → Q x) : yP o Q := by
  obtain ⟨x, h1, h2⟩ := h
  exact ⟨x, h1, hq x h2⟩
/-- as mono, with the run itself -/
theorem yP_with {o : Option α} {P Q : α → Prop} (h : yP o P) (hq : ∀ x, o = some x → P x → Q x) : yP o Q := by
  obtain ⟨x, h1, h2⟩ := h
  exact ⟨x, h1, hq x h1 h2⟩
theorem yP_of {o : Option α} {Q : α → Prop} {x : α} (h : o = some x) (hq : Q x) : yP o Q := ⟨x, h, hq⟩
theorem yP_eq {o : Option α} {x : α} (h : yP o (fun y => y = x)) : o = some x := by
  obtain ⟨y, h1, rfl⟩ := h
  exact h1
theorem yP_zbR {o : Option (ρ ⊕ σ)} {f : ρ → Option τ} {k : σ → Option τ} {Q : τ → Prop} (h : yP o (fun y => match y with
    | .inl x => yP (f x) Q
    | .inr s => yP (k s) Q)) : yP (zbR o f k) Q := by
  obtain ⟨y, rfl, h⟩ := h
  cases y with
  | inl x => exact h
  | inr s => exact h
/-- a loop by a measure -/
theorem yP_loop {B : σ → Option (σ ⊕ σ)} {Q : σ → Prop} (Inv : Nat → σ → Prop) (hb : ∀ j s, Inv j s → yP (B s) (fun y => match y with
    | .inl x => Q x
    | .inr s' => ∃ j', j' < j ∧ Inv j' s')) : ∀ (n j : Nat) (s : σ), j < n → Inv j s → yP (zloop B n s) Q := by
  intro n
  induction n with
  | zero => intro j s h; exact absurd h (Nat.not_lt_zero _)
  | succ n ih =>
    intro j s hj hs
    obtain ⟨y, h1, h2⟩ := hb j s hs
    unfold yP zloop
    rw [h1]
    cases y with
    | inl x => exact ⟨x, rfl, h2⟩
    | inr s' =>
      obtain ⟨j', hj', hs'⟩ := h2
      exact ih j' s' (by omega) hs'
theorem yP_loopR {B : σ → Option (ρ ⊕ (σ ⊕ σ))} {Q : ρ ⊕ σ → Prop} (Inv : Nat → σ → Prop) (hb : ∀ j s, Inv j s → yP (B s) (fun y => match y with
    | .inl x => Q (.inl x)
    | .inr (.inl x) => Q (.inr x)
    | .inr (.inr s') => ∃ j', j' < j ∧ Inv j' s')) : ∀ (n j : Nat) (s : σ), j < n → Inv j s → yP (zloopR B n s) Q := by
  intro n
  induction n with
  | zero => intro j s h; exact absurd h (Nat.not_lt_zero _)
  | succ n ih =>
    intro j s hj hs
    obtain ⟨y, h1, h2⟩ := hb j s hs
    unfold yP zloopR
    rw [h1]
    rcases y with x | x | s'
    · exact ⟨_, rfl, h2⟩
    · exact ⟨_, rfl, h2⟩
    · obtain ⟨j', hj', hs'⟩ := h2
      exact ih j' s' (by omega) hs'
/-- a loop that counts from k up to N -/
theorem yP_for {B : σ → Option (σ ⊕ σ)} {Q : σ → Prop} (N : Nat) (Inv : Nat → σ → Prop) {n k : Nat} {s : σ} (h0 : Inv k s) (hk : k ≤ N) (hn : N < n + k)
    (hb : ∀ i s, i < N → Inv i s → yP (B s) (fun y => match y with
      | .inl _ => False
      | .inr s' => Inv (i + 1) s')) (he : ∀ s, Inv N s → yP (B s) (fun y => match y with
      | .inl x => Q x
      | .inr _ => False)) : yP (zloop B n s) Q := by
  refine yP_loop (fun j s => ∃ i, i + j = N ∧ Inv i s) ?_ n (N - k) s (by omega) ⟨k, by omega, h0⟩
  rintro j s ⟨i, hi, hs⟩
  by_cases h : i < N
  · refine yP_mono (hb i s h hs) ?_
    rintro (x | s') h
    · exact absurd h id
    · exact ⟨N - (i + 1), by omega, i + 1, by omega, h⟩
  · have : i = N := by omega
    subst this
    refine yP_mono (he s hs) ?_
    rintro (x | s') h
    · exact h
    · exact absurd h id
theorem yP_forR {B : σ → Option (ρ ⊕ (σ ⊕ σ))} {Q : ρ ⊕ σ → Prop} (N : Nat) (Inv : Nat → σ → Prop) {n k : Nat} {s : σ} (h0 : Inv k s) (hk : k ≤ N) (hn : N < n + k)
    (hb : ∀ i s, i < N → Inv i s → yP (B s) (fun y => match y with
      | .inl x => Q (.inl x)
      | .inr (.inl x) => Q (.inr x)
      | .inr (.inr s') => Inv (i + 1) s')) (he : ∀ s, Inv N s → yP (B s) (fun y => match y with
      | .inl x => Q (.inl x)
      | .inr (.inl x) => Q (.inr x)
      | .inr (.inr _) => False)) : yP (zloopR B n s) Q := by
  refine yP_loopR (fun j s => ∃ i, i + j = N ∧ i ≤ N ∧ Inv i s) ?_ n (N - k) s (by omega) ⟨k, by omega, hk, h0⟩
  rintro j s ⟨i, hi, hi2, hs⟩
  by_cases h : i < N
  · refine yP_mono (hb i s h hs) ?_
    rintro (x | x | s') h
    · exact h
    · exact h
    · exact ⟨N - (i + 1), by omega, i + 1, by omega, by omega, h⟩
  · have : i = N := by omega
    subst this
    refine yP_mono (he s hs) ?_
    rintro (x | x | s') h
    · exact h
    · exact h
    · exact absurd h id
theorem yF_some {x : α} {Q : α → Prop} (h : Q x) : yF (some x) Q := by
  intro y e
  cases e
  exact h
theorem yF_none {Q : α → Prop} : yF (none : Option α) Q := by
  intro y e
  cases e
theorem yF_bind0 {o : Option α} {k : α → Option β} {Q : β → Prop} (h : ∀ x, yF (k x) Q) : yF (Option.bind o k) Q := by
  intro y e
  cases o with
  | none => cases e
  | some x => exact h x y e
theorem yF_bind {o : Option α} {k : α → Option β} {P : α → Prop} {Q : β → Prop} (ho : yF o P) (h : ∀ x, P x → yF (k x) Q) : yF (Option.bind o k) Q := by
  intro y e
  cases o with
  | none => cases e
  | some x => exact h x (ho x rfl) y e
theorem yF_zbR {o : Option (ρ ⊕ σ)} {f : ρ → Option τ} {k : σ → Option τ} {P : ρ ⊕ σ → Prop} {Q : τ → Prop} (ho : yF o P) (h1 : ∀ x, P (.inl x) → yF (f x) Q) (h2 : ∀ x, P (.inr x) → yF (k x) Q) : yF (zbR o f k) Q := by
  intro y e
  cases o with
  | none => cases e
  | some x =>
    cases x with
    | inl x => exact h1 x (ho _ rfl) y e
    | inr x => exact h2 x (ho _ rfl) y e
theorem yF_ite {c : Prop} {i : Decidable c} {a b : Option α} {Q : α → Prop} (h1 : yF a Q) (h2 : yF b Q) : yF (@ite _ c i a b) Q := by
  by_cases h : c
  · rw [if_pos h]; exact h1
  · rw [if_neg h]; exact h2
theorem yF_bif {c : Bool} {a : Option α} {Q : α → Prop} (h1 : c = true → yF a Q) : yF (bif c then a else none) Q := by
  cases h : c with
  | false => exact yF_none
  | true => exact h1 h
theorem yF_loop {B : σ → Option (σ ⊕ σ)} {R : σ → σ → Prop} (hr : ∀ s, R s s) (ht : ∀ a b c, R a b → R b c → R a c) (hb : ∀ s, yF (B s) (fun y => match y with
    | .inl x => R s x
    | .inr x => R s x)) : ∀ (n : Nat) (s : σ), yF (zloop B n s) (R s) := by
  intro n
  induction n with
  | zero => intro s x h; cases h
  | succ n ih =>
    intro s x h
    unfold zloop at h
    split at h
    · cases h
    · rename_i y hy
      cases h
      exact hb s _ hy
    · rename_i y hy
      exact ht _ _ _ (hb s _ hy) (ih _ x h)
theorem yF_loopR {B : σ → Option (ρ ⊕ (σ ⊕ σ))} {R : σ → σ → Prop} {S : σ → ρ → Prop} (ht : ∀ a b c, R a b → R b c → R a c) (hs : ∀ a b c, R a b → S b c → S a c) (hb : ∀ s, yF (B s) (fun y => match y with
    | .inl x => S s x
    | .inr (.inl x) => R s x
    | .inr (.inr x) => R s x)) : ∀ (n : Nat) (s : σ), yF (zloopR B n s) (yS (S s) (R s)) := by
  intro n
  induction n with
  | zero => intro s x h; cases h
  | succ n ih =>
    intro s x h
    unfold zloopR at h
    split at h
    · cases h
    · rename_i y hy
      cases h
      exact hb s _ hy
    · rename_i y hy
      cases h
      exact hb s _ hy
    · rename_i y hy
      have h1 := hb s _ hy
      have h2 := ih _ x h
      cases x with
      | inl x => exact hs _ _ _ h1 h2
      | inr x => exact ht _ _ _ h1 h2
theorem yP_and {o : Option α} {P Q : α → Prop} (h1 : yP o P) (h2 : yF o Q) : yP o (fun x => P x ∧ Q x) := by
  obtain ⟨x, e, h⟩ := h1
  exact ⟨x, e, h, h2 x e⟩
end YP
/-! FRAMES -/
def yobj (a : Nat) : Bool := Nat.blt a 2 || Nat.beq a 15 || Nat.beq a 24 || Nat.beq a 25 || Nat.beq a 38 || Nat.beq a 39 || Nat.beq a 52 || Nat.beq a 57 || Nat.beq a 61 || Nat.beq a 63 || Nat.beq a 65 || Nat.beq a 67 || Nat.beq a 69 || Nat.beq a 71 || Nat.beq a 73
def ykey (a k : Nat) : Nat := bif yobj a then 100 * a + k else 100 * a + 99
def ymem : List Nat → Nat → Bool
  | [], _ => false
  | w :: W, x => Nat.beq w x || ymem W x
def ysub : List Nat → List Nat → Bool
  | [], _ => true
  | w :: W, V => ymem V w && ysub W V
theorem ysub_mem {x : Nat} : ∀ {W V : List Nat}, ysub W V = true → ymem W x = true → ymem V x = true
  | [], V, _, h => by cases h
  | w :: W, V, hs, h => by
    unfold ysub at hs
    unfold ymem at h
    rw [Bool.and_eq_true] at hs
    rw [Bool.or_eq_true] at h
    rcases h with h | h
    · rw [← Nat.eq_of_beq_eq_true h]; exact hs.1
    · exact ysub_mem hs.2 h
def yfr (W : List Nat) (A B : yI) : Prop := ∀ a k, ymem W (ykey a k) = false → B a k = A a k
theorem yfr_refl {W : List Nat} (A : yI) : yfr W A A := fun _ _ _ => rfl
theorem yfr_trans {W : List Nat} (A B C : yI) (h1 : yfr W A B) (h2 : yfr W B C) : yfr W A C := fun a k h => (h2 a k h).trans (h1 a k h)
theorem yfr_mono {W V : List Nat} {A B : yI} (hs : ysub W V = true) (h : yfr W A B) : yfr V A B := by
  intro a k hk
  refine h a k ?_
  cases hw : ymem W (ykey a k) with
  | false => rfl
  | true => rw [ysub_mem hs hw] at hk; cases hk
theorem zu_at (I : yI) (a k : Nat) (x : Int32) (b j : Nat) : zu I a k x b j = if b = a ∧ j = k then x else I b j := by
  unfold zu va_up upd
  by_cases h : b = a
  · subst h
    by_cases h2 : j = k
    · rw [if_pos rfl, if_pos h2, if_pos ⟨rfl, h2⟩]
    · rw [if_pos rfl, if_neg h2, if_neg (fun h => h2 h.2)]
  · rw [if_neg h, if_neg (fun h2 => h h2.1)]
theorem zu_same (I : yI) (a k : Nat) (x : Int32) : zu I a k x a k = x := by rw [zu_at, if_pos ⟨rfl, rfl⟩]
theorem zu_ne {I : yI} {a k : Nat} {x : Int32} {b j : Nat} (h : b ≠ a) : zu I a k x b j = I b j := by rw [zu_at, if_neg (fun q => h q.1)]
theorem zu_nej {I : yI} {a k : Nat} {x : Int32} {b j : Nat} (h : j ≠ k) : zu I a k x b j = I b j := by rw [zu_at, if_neg (fun q => h q.2)]
theorem yfr_zu {W : List Nat} {A B : yI} {a k : Nat} {x : Int32} (h : ymem W (ykey a k) = true) (hb : yfr W A B) : yfr W A (zu B a k x) := by
  intro b j hk
  rw [zu_at, if_neg, hb b j hk]
  rintro ⟨rfl, rfl⟩
  rw [h] at hk
  cases hk
theorem zcp_at (I : yI) (a b : Nat) (sp dp n : Int32) (c j : Nat) : zcp I a b sp dp n c j = if c = b ∧ (dp.toNatClampNeg ≤ j ∧ j < dp.toNatClampNeg + n.toNatClampNeg) then I a (sp.toNatClampNeg + (j - dp.toNatClampNeg)) else I c j := by
  unfold zcp va_up va_cpy
  by_cases h : c = b
  · subst h
    rw [if_pos rfl]
    by_cases h2 : dp.toNatClampNeg ≤ j ∧ j < dp.toNatClampNeg + n.toNatClampNeg
    · rw [if_pos h2, if_pos ⟨rfl, h2⟩]
    · rw [if_neg h2, if_neg (fun h => h2 h.2)]
  · rw [if_neg h, if_neg (fun h2 => h h2.1)]
theorem yfr_zcp {W : List Nat} {A B : yI} {a b : Nat} {sp dp n : Int32} (h : ∀ k, ymem W (ykey b k) = true) (hb : yfr W A B) : yfr W A (zcp B a b sp dp n) := by
  intro c j hk
  rw [zcp_at, if_neg, hb c j hk]
  rintro ⟨rfl, -⟩
  rw [h] at hk
  cases hk
theorem yF_bindI {α β : Type} {o : Option α} {m : α → yI} {k : α → Option β} {Q : β → Prop} {W V : List Nat} {I0 I1 : yI} (hg : yF o (fun x => yfr W I1 (m x))) (h1 : yfr V I0 I1) (hs : ysub W V = true) (hk : ∀ x, yfr V I0 (m x) → yF (k x) Q) : yF (Option.bind o k) Q :=
  yF_bind hg fun x hx => hk x (yfr_trans _ _ _ h1 (yfr_mono hs hx))
theorem yF_zbRI {ρ σ τ : Type} {o : Option (ρ ⊕ σ)} {f : ρ → Option τ} {k : σ → Option τ} {m : ρ → yI} {m' : σ → yI} {Q : τ → Prop} {W V : List Nat} {I0 I1 : yI} (hg : yF o (yS (fun x => yfr W I1 (m x)) (fun x => yfr W I1 (m' x)))) (h1 : yfr V I0 I1) (hs : ysub W V = true) (hk1 : ∀ x, yfr V I0 (m x) → yF (f x) Q) (hk2 : ∀ x, yfr V I0 (m' x) → yF (k x) Q) : yF (zbR o f k) Q :=
  yF_zbR hg (fun x hx => hk1 x (yfr_trans _ _ _ h1 (yfr_mono hs hx))) fun x hx => hk2 x (yfr_trans _ _ _ h1 (yfr_mono hs hx))
/-! SMALL NUMBERS -/
def yn (n : Nat) : Int32 := Int32.ofNat n
theorem yn_lit (n : Nat) : (OfNat.ofNat n : Int32) = yn n := rfl
theorem yn_add (a b : Nat) : yn a + yn b = yn (a + b) := (Int32.ofNat_add a b).symm
theorem yn_mul (a b : Nat) : yn a * yn b = yn (a * b) := (Int32.ofNat_mul a b).symm
theorem yn_toInt {n : Nat} (h : n < 2147483648) : (yn n).toInt = n := Int32.toInt_ofNat_of_lt (by omega)
theorem yn_nat {n : Nat} (h : n < 2147483648) : (yn n).toNatClampNeg = n := by
  show (yn n).toInt.toNat = n
  rw [yn_toInt h]
  rfl
theorem yn_lt {a b : Nat} (ha : a < 2147483648) (hb : b < 2147483648) : yn a < yn b ↔ a < b := by
  rw [Int32.lt_iff_toInt_lt, yn_toInt ha, yn_toInt hb]
  omega
theorem yn_le {a b : Nat} (ha : a < 2147483648) (hb : b < 2147483648) : yn a ≤ yn b ↔ a ≤ b := by
  rw [Int32.le_iff_toInt_le, yn_toInt ha, yn_toInt hb]
  omega
theorem yn_inj {a b : Nat} (ha : a < 2147483648) (hb : b < 2147483648) : yn a = yn b ↔ a = b := by
  constructor
  · intro h
    have := congrArg Int32.toInt h
    rw [yn_toInt ha, yn_toInt hb] at this
    omega
  · rintro rfl; rfl
theorem yn_sub {a b : Nat} (h : b ≤ a) : yn a - yn b = yn (a - b) := by
  rw [Int32.sub_eq_iff_eq_add, yn_add, Nat.sub_add_cancel h]
theorem zin_yn {m n : Nat} (h : m < n) (hn : n ≤ 2147483648) : zin (yn m) n = true := by
  unfold zin
  have h0 : ¬ (yn m < 0) := by
    show ¬ (yn m < yn 0)
    rw [yn_lt (by omega) (by omega)]
    omega
  rw [decide_eq_false h0, yn_nat (by omega)]
  simpa using h
theorem zin_of {x : Int32} {n : Nat} (h : zin x n = true) (hn : n ≤ 2147483648) : ∃ m, m < n ∧ x = yn m := by
  unfold zin at h
  rw [Bool.and_eq_true] at h
  obtain ⟨h1, h2⟩ := h
  have h0 : ¬ (x < 0) := by simpa using h1
  have h2 : x.toNatClampNeg < n := by simpa using h2
  refine ⟨x.toNatClampNeg, h2, ?_⟩
  apply Int32.toInt_inj.mp
  rw [yn_toInt (by omega)]
  have h0 : ¬ (x.toInt < (0 : Int32).toInt) := fun h => h0 (Int32.lt_iff_toInt_lt.mpr h)
  have e0 : (0 : Int32).toInt = 0 := by decide
  rw [e0] at h0
  show x.toInt = (x.toInt.toNat : Int)
  omega
/-- a number that is not below 0 -/
theorem yn_of {x : Int32} (h : 0 ≤ x.toInt) : ∃ m, m < 2147483648 ∧ x = yn m := by
  have := x.toInt_lt
  refine ⟨x.toInt.toNat, by omega, ?_⟩
  apply Int32.toInt_inj.mp
  rw [yn_toInt (by omega)]
  omega
theorem yF_zbRJ {ρ σ τ : Type} {o : Option (ρ ⊕ σ)} {f : ρ → Option τ} {k : σ → Option τ} {m' : σ → yI} {Q : τ → Prop} {W V : List Nat} {I0 I1 : yI} (hg : yF o (yS (fun _ => True) (fun x => yfr W I1 (m' x)))) (h1 : yfr V I0 I1) (hs : ysub W V = true) (hk1 : ∀ x, yF (f x) Q) (hk2 : ∀ x, yfr V I0 (m' x) → yF (k x) Q) : yF (zbR o f k) Q :=
  yF_zbR hg (fun x _ => hk1 x) fun x hx => hk2 x (yfr_trans _ _ _ h1 (yfr_mono hs hx))
theorem yF_zbRK {ρ σ τ : Type} {o : Option (ρ ⊕ σ)} {f : ρ → Option τ} {k : σ → Option τ} {m : ρ → yI} {Q : τ → Prop} {W V : List Nat} {I0 I1 : yI} (hg : yF o (yS (fun x => yfr W I1 (m x)) (fun _ => True))) (h1 : yfr V I0 I1) (hs : ysub W V = true) (hk1 : ∀ x, yfr V I0 (m x) → yF (f x) Q) (hk2 : ∀ x, yF (k x) Q) : yF (zbR o f k) Q :=
  yF_zbR hg (fun x hx => hk1 x (yfr_trans _ _ _ h1 (yfr_mono hs hx))) fun x _ => hk2 x
