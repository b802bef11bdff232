/-! RUNS: rules to walk a method on the abstract machine -/
theorem zev_succ (X : zX) (n d m pc : Nat) (ls : zLs) (st : List Value) (M : zM) : zev X (n + 1) d m pc ls st M = (match zstep X m pc ls st M with
    | none => none
    | some (.inl q) => zev X n d m q.1 q.2.1 q.2.2.1 q.2.2.2
    | some (.inr (.inl q)) => match d with
      | 0 => none
      | d' + 1 => bif Nat.ble (zla q.2.1).length (zml q.1) then (match zev X n d' q.1 0 (zent q.1 q.2.1) [] M with
        | none => none
        | some t => zev X n (d' + 1) m q.2.2.2 ls (t.1.toList ++ q.2.2.1) t.2) else none
    | some (.inr (.inr v)) => some (v, M)) := rfl
theorem zev_up (X : zX) : ∀ (n d m pc : Nat) (ls : zLs) (st : List Value) (M : zM) (t : Option Value × zM), zev X n d m pc ls st M = some t → zev X (n + 1) d m pc ls st M = some t := by
  intro n
  induction n with
  | zero => intro d m pc ls st M t h; cases h
  | succ n ih =>
    intro d m pc ls st M t h
    rw [zev_succ] at h ⊢
    cases hz : zstep X m pc ls st M with
    | none => rw [hz] at h; cases h
    | some q =>
      rw [hz] at h
      rcases q with q | q | v
      · exact ih _ _ _ _ _ _ _ h
      · cases d with
        | zero => cases h
        | succ d' =>
          dsimp only at h ⊢
          cases g : Nat.ble (zla q.2.1).length (zml q.1) with
          | false => rw [g] at h; cases h
          | true =>
            rw [g] at h
            dsimp only [cond_true] at h ⊢
            cases ht : zev X n d' q.1 0 (zent q.1 q.2.1) [] M with
            | none => rw [ht] at h; cases h
            | some u =>
              rw [ht] at h
              rw [ih _ _ _ _ _ _ _ ht]
              exact ih _ _ _ _ _ _ _ h
      · exact h
theorem zev_le (X : zX) {n n' d m pc : Nat} {ls : zLs} {st : List Value} {M : zM} {t : Option Value × zM} (hn : n ≤ n') (h : zev X n d m pc ls st M = some t) : zev X n' d m pc ls st M = some t := by
  induction hn with
  | refl => exact h
  | step _ ih => exact zev_up X _ _ _ _ _ _ _ _ ih
def zRun (X : zX) (d m pc : Nat) (ls : zLs) (st : List Value) (M : zM) (r : Option Value) (M' : zM) : Prop := ∃ n, zev X n d m pc ls st M = some (r, M')
def zcR (X : zX) (n d m : Nat) (ls : zLs) (M : zM) (A : zRes) : Option (Option Value × zM) := match A with
    | none => none
    | some (.inl q) => zev X n d m q.1 q.2.1 q.2.2.1 q.2.2.2
    | some (.inr (.inl q)) => match d with
      | 0 => none
      | d' + 1 => bif Nat.ble (zla q.2.1).length (zml q.1) then (match zev X n d' q.1 0 (zent q.1 q.2.1) [] M with
        | none => none
        | some t => zev X n (d' + 1) m q.2.2.2 ls (t.1.toList ++ q.2.2.1) t.2) else none
    | some (.inr (.inr v)) => some (v, M)
theorem zev_cR (X : zX) (n d m pc : Nat) (ls : zLs) (st : List Value) (M : zM) : zev X (n + 1) d m pc ls st M = zcR X n d m ls M (zstep X m pc ls st M) := rfl
/-- the run behind one step's result -/
def zRunR (X : zX) (d m : Nat) (ls : zLs) (M : zM) (A : zRes) (r : Option Value) (M' : zM) : Prop := ∃ n, zcR X n d m ls M A = some (r, M')
section ZRUN
variable {X : zX} {d m pc : Nat} {ls : zLs} {st : List Value} {M M' : zM} {r : Option Value} {q : Nat × zLs × List Value × zM}
theorem zr_one (A : zRes) (h : zstep X m pc ls st M = A) (w : zRunR X d m ls M A r M') : zRun X d m pc ls st M r M' := by
  obtain ⟨n, hn⟩ := w
  refine ⟨n + 1, ?_⟩
  rw [zev_cR, h]
  exact hn
theorem zR_go (w : zRun X d m q.1 q.2.1 q.2.2.1 q.2.2.2 r M') : zRunR X d m ls M (some (.inl q)) r M' := w
/-- at a loop's head and behind it, what is forgotten doesn't count -/
theorem zr_hdr {ls2 : zLs} (h : zstep X m pc ls st M = some (.inl q)) (h2 : zstep X m pc ls2 st M = some (.inl q)) (w : zRun X d m pc ls2 st M r M') : zRun X d m pc ls st M r M' := by
  obtain ⟨n, hn⟩ := w
  cases n with
  | zero => cases hn
  | succ n =>
    refine ⟨n + 1, ?_⟩
    rw [zev_cR, h2] at hn
    rw [zev_cR, h]
    exact hn
theorem zr_hdv {ls2 : zLs} {v : Option Value} (h : zstep X m pc ls st M = some (.inr (.inr v))) (h2 : zstep X m pc ls2 st M = some (.inr (.inr v))) (w : zRun X d m pc ls2 st M r M') : zRun X d m pc ls st M r M' := by
  obtain ⟨n, hn⟩ := w
  cases n with
  | zero => cases hn
  | succ n =>
    refine ⟨n + 1, ?_⟩
    rw [zev_cR, h2] at hn
    rw [zev_cR, h]
    exact hn
theorem zR_if {c : Prop} {i : Decidable c} {A B : zRes} (wa : c → zRunR X d m ls M A r M') (wb : ¬ c → zRunR X d m ls M B r M') : zRunR X d m ls M (@ite _ c i A B) r M' := by
  by_cases h : c
  · rw [if_pos h]; exact wa h
  · rw [if_neg h]; exact wb h
theorem zR_bif {b : Bool} {A B : zRes} (h : b = true) (w : zRunR X d m ls M A r M') : zRunR X d m ls M (bif b then A else B) r M' := by
  rw [h]; exact w
theorem zR_div {c : Prop} {i : Decidable c} {A B : zRes} (h : ¬ c) (w : zRunR X d m ls M B r M') : zRunR X d m ls M (@ite _ c i A B) r M' := by
  rw [if_neg h]; exact w
theorem zR_pos {c : Prop} {i : Decidable c} {A B : zRes} (h : c) (w : zRunR X d m ls M A r M') : zRunR X d m ls M (@ite _ c i A B) r M' := by
  rw [if_pos h]; exact w
theorem zR_ref {p2 x : Nat} {ls2 : zLs} {st2 : List Value} {o : Option Nat} (h : o = some x) (w : zRun X d m p2 ls2 (.ref x :: st2) M r M') : zRunR X d m ls M (zrefr p2 ls2 st2 M o) r M' := by
  rw [h]; exact w
theorem zR_ret {v : Option Value} (hv : v = r) (hM : M = M') : zRunR X d m ls M (some (.inr (.inr v))) r M' := ⟨0, by rw [hv, hM]; rfl⟩
theorem zR_call {y : Nat} {vs rest : List Value} {pc1 : Nat} {r1 : Option Value} {M1 : zM} (hd : 0 < d) (hl : Nat.ble (zla vs).length (zml y) = true) (hy : zRun X (d - 1) y 0 (zent y vs) [] M r1 M1) (w : zRun X d m pc1 ls (r1.toList ++ rest) M1 r M') : zRunR X d m ls M (some (.inr (.inl (y, vs, rest, pc1)))) r M' := by
  obtain ⟨d', rfl⟩ : ∃ d', d = d' + 1 := ⟨d - 1, by omega⟩
  obtain ⟨n1, h1⟩ := hy
  obtain ⟨n2, h2⟩ := w
  refine ⟨n1 + n2, ?_⟩
  have h1 : zev X (n1 + n2) d' y 0 (zent y vs) [] M = some (r1, M1) := zev_le X (Nat.le_add_right _ _) h1
  have h2 := zev_le X (Nat.le_add_left n2 n1) h2
  show (bif Nat.ble (zla vs).length (zml y) then (match zev X (n1 + n2) d' y 0 (zent y vs) [] M with
        | none => none
        | some t => zev X (n1 + n2) (d' + 1) m pc1 ls (t.1.toList ++ rest) t.2) else none) = _
  rw [hl, h1]
  exact h2
def zsteps (X : zX) (m : Nat) : Nat → (Nat × zLs × List Value × zM) → Option (Nat × zLs × List Value × zM)
  | 0, q => some q
  | k + 1, q => match zstep X m q.1 q.2.1 q.2.2.1 q.2.2.2 with
    | some (.inl q') => zsteps X m k q'
    | _ => none
theorem zr_steps : ∀ (k : Nat) {pc : Nat} {ls : zLs} {st : List Value} {M : zM} (q : Nat × zLs × List Value × zM), zsteps X m k (pc, ls, st, M) = some q → zRun X d m q.1 q.2.1 q.2.2.1 q.2.2.2 r M' → zRun X d m pc ls st M r M'
  | 0, pc, ls, st, M, q, h, w => by cases h; exact w
  | k + 1, pc, ls, st, M, q, h, w => by
    have h : (match zstep X m pc ls st M with
      | some (.inl q') => zsteps X m k q'
      | _ => none) = some q := h
    cases hz : zstep X m pc ls st M with
    | none => rw [hz] at h; cases h
    | some t =>
      rw [hz] at h
      rcases t with t | t | v
      · exact zr_one _ hz (zR_go (zr_steps k (pc := t.1) (ls := t.2.1) (st := t.2.2.1) (M := t.2.2.2) q h w))
      · cases h
      · cases h
end ZRUN
theorem zloop_ok {σ : Type} {B : σ → Option (σ ⊕ σ)} {Wh Wx : σ → Prop} (hb : ∀ s y, B s = some y → (match y with
    | .inl x => Wx x
    | .inr s' => Wh s') → Wh s) : ∀ (n : Nat) (s x : σ), zloop B n s = some x → Wx x → Wh s := by
  intro n
  induction n with
  | zero => intro s x h; cases h
  | succ n ih =>
    intro s x h w
    unfold zloop at h
    split at h
    · cases h
    · rename_i x' hx
      cases h
      exact hb s _ hx w
    · rename_i s' hx
      exact hb s _ hx (ih s' x h w)
abbrev zSumE {ρ σ : Type} (Wr : ρ → Prop) (Wx : σ → Prop) (t : ρ ⊕ σ) : Prop := match t with
  | .inl x => Wr x
  | .inr x => Wx x
theorem zloopR_ok {σ ρ : Type} {B : σ → Option (ρ ⊕ (σ ⊕ σ))} {Wh Wx : σ → Prop} {Wr : ρ → Prop} (hb : ∀ s y, B s = some y → (match y with
    | .inl x => Wr x
    | .inr (.inl x) => Wx x
    | .inr (.inr s') => Wh s') → Wh s) : ∀ (n : Nat) (s : σ) (t : ρ ⊕ σ), zloopR B n s = some t → zSumE Wr Wx t → Wh s := by
  intro n
  induction n with
  | zero => intro s x h; cases h
  | succ n ih =>
    intro s t h w
    unfold zloopR at h
    split at h
    · cases h
    · rename_i x' hx
      cases h
      exact hb s _ hx w
    · rename_i x' hx
      cases h
      exact hb s _ hx w
    · rename_i s' hx
      exact hb s _ hx (ih s' t h w)
theorem zbind0 {α β : Type} {o : Option α} {k : α → Option β} {t : β} (h : (match o with
    | none => none
    | some x => k x) = some t) : ∃ x, o = some x ∧ k x = some t := by
  cases o with
  | none => cases h
  | some x => exact ⟨x, rfl, h⟩
theorem zbifo {β : Type} {b : Bool} {E : Option β} {t : β} (h : (bif b then E else none) = some t) : b = true ∧ E = some t := by
  cases b
  · cases h
  · exact ⟨rfl, h⟩
theorem zdivo {β : Type} {c : Prop} {i : Decidable c} {E : Option β} {t : β} (h : (@ite _ c i none E) = some t) : ¬ c ∧ E = some t := by
  by_cases g : c
  · rw [if_pos g] at h; cases h
  · rw [if_neg g] at h; exact ⟨g, h⟩
