/-! FRAMES of the pure functions: written by wip/whole/frames.py -/
theorem yrow0 {i : Int32} {j : Nat} {W : List Nat} (h : zin i 4 = true) (hw : ymem W 1899 = true ∧ ymem W 1999 = true ∧ ymem W 2099 = true ∧ ymem W 2199 = true) : ymem W (ykey (zrow0 i) j) = true := by
  obtain ⟨m, hm, rfl⟩ := zin_of h (by decide)
  have e : zrow0 (yn m) = 18 + m := by unfold zrow0; rw [yn_nat (by omega)]
  rw [e]
  have hm4 : m = 0 ∨ m = 1 ∨ m = 2 ∨ m = 3 := by omega
  rcases hm4 with rfl | rfl | rfl | rfl
  · exact hw.1
  · exact hw.2.1
  · exact hw.2.2.1
  · exact hw.2.2.2
def yIsShelf (a : Nat) : Prop := a = 61 ∨ a = 63 ∨ a = 65 ∨ a = 67 ∨ a = 69 ∨ a = 71
theorem yshelf {i : Int32} (h : zin i 6 = true) : yIsShelf (zshelf i) := by
  obtain ⟨m, hm, rfl⟩ := zin_of h (by decide)
  unfold yIsShelf zshelf
  rw [yn_nat (by omega)]
  omega
def ySHF : List Nat := [6100, 6101, 6102, 6300, 6301, 6302, 6500, 6501, 6502, 6700, 6701, 6702, 6900, 6901, 6902, 7100, 7101, 7102]
theorem yshfw {a : Nat} {k : Nat} (h : yIsShelf a) (hk : k < 3) : ymem ySHF (ykey a k) = true := by
  have hk3 : k = 0 ∨ k = 1 ∨ k = 2 := by omega
  rcases h with rfl | rfl | rfl | rfl | rfl | rfl <;> rcases hk3 with rfl | rfl | rfl <;> rfl
def w_f64_addSquare : List Nat := [100, 299, 399]
set_option maxRecDepth 10000 in
set_option maxHeartbeats 4000000 in
theorem fr_f64_addSquare (v1 : Int32) (v2 : Int32) (I : (Nat → Nat → Int32)) : yF (f64_addSquare v1 v2 I) (fun x => yfr w_f64_addSquare I x.2) := by
  unfold f64_addSquare
  have h0 : yfr w_f64_addSquare I I := yfr_refl _
  repeat' (first
    | with_reducible refine yfr_zu ?_ ?_
    | with_reducible refine yfr_zcp (fun _ => rfl) ?_
    | with_reducible assumption
    | with_reducible exact yfr_refl _
    | exact (rfl : (_ : Bool) = true)
    | with_reducible exact yF_none
    | with_reducible refine yF_some ?_
    | exact yrow0 (by assumption) ⟨rfl, rfl, rfl, rfl⟩
    | with_reducible refine yF_bif ?_
    | with_reducible refine yF_ite ?_ ?_
    | with_reducible refine yF_bind0 ?_
    | with_reducible intro _
    | dsimp only)
def w_f86_square : List Nat := [100, 299, 399]
set_option maxRecDepth 10000 in
set_option maxHeartbeats 4000000 in
theorem fr_f86_square (v1 : Int32) (v2 : Int32) (I : (Nat → Nat → Int32)) : yF (f86_square v1 v2 I) (fun x => yfr w_f86_square I x.2) := by
  unfold f86_square
  have h0 : yfr w_f86_square I I := yfr_refl _
  repeat' (first
    | with_reducible refine yfr_zu ?_ ?_
    | with_reducible refine yfr_zcp (fun _ => rfl) ?_
    | with_reducible assumption
    | with_reducible exact yfr_refl _
    | exact (rfl : (_ : Bool) = true)
    | with_reducible exact yF_none
    | with_reducible refine yF_some ?_
    | exact yrow0 (by assumption) ⟨rfl, rfl, rfl, rfl⟩
    | with_reducible refine yF_bif ?_
    | with_reducible refine yF_ite ?_ ?_
    | with_reducible refine yF_bindI (V := w_f86_square) (I0 := I) (fr_f64_addSquare _ _ _) ?_ ?_ ?_
    | with_reducible refine yF_bind0 ?_
    | with_reducible intro _
    | dsimp only)
def w_f132_square : List Nat := [7301, 7499, 7599]
set_option maxRecDepth 10000 in
set_option maxHeartbeats 4000000 in
theorem fr_f132_square (v1 : Int32) (v2 : Int32) (I : (Nat → Nat → Int32)) : yF (f132_square v1 v2 I) (fun x => yfr w_f132_square I x.2) := by
  unfold f132_square
  have h0 : yfr w_f132_square I I := yfr_refl _
  repeat' (first
    | with_reducible refine yfr_zu ?_ ?_
    | with_reducible refine yfr_zcp (fun _ => rfl) ?_
    | with_reducible assumption
    | with_reducible exact yfr_refl _
    | exact (rfl : (_ : Bool) = true)
    | with_reducible exact yF_none
    | with_reducible refine yF_some ?_
    | exact yrow0 (by assumption) ⟨rfl, rfl, rfl, rfl⟩
    | with_reducible refine yF_bif ?_
    | with_reducible refine yF_ite ?_ ?_
    | with_reducible refine yF_bind0 ?_
    | with_reducible intro _
    | dsimp only)
def w_f66_lay : List Nat := [1399, 1499]
set_option maxRecDepth 10000 in
set_option maxHeartbeats 4000000 in
theorem fr_f66_lay (v1 : Int32) (v2 : Int32) (I : (Nat → Nat → Int32)) : yF (f66_lay v1 v2 I) (fun x => yfr w_f66_lay I x) := by
  unfold f66_lay
  have h0 : yfr w_f66_lay I I := yfr_refl _
  repeat' (first
    | with_reducible refine yfr_zu ?_ ?_
    | with_reducible refine yfr_zcp (fun _ => rfl) ?_
    | with_reducible assumption
    | with_reducible exact yfr_refl _
    | exact (rfl : (_ : Bool) = true)
    | with_reducible exact yF_none
    | with_reducible refine yF_some ?_
    | exact yrow0 (by assumption) ⟨rfl, rfl, rfl, rfl⟩
    | with_reducible refine yF_bif ?_
    | with_reducible refine yF_ite ?_ ?_
    | with_reducible refine yF_bind0 ?_
    | with_reducible intro _
    | dsimp only)
def w_f67_shorten_L9 : List Nat := [1499]
set_option maxRecDepth 10000 in
set_option maxHeartbeats 4000000 in
theorem fr_f67_shorten_L9 (v1 : Int32) (s : (Int32 × (Nat → Nat → Int32))) : yF (f67_shorten_L9 v1 s) (fun y => match y with
    | .inl x => yfr w_f67_shorten_L9 s.2 x.2
    | .inr x => yfr w_f67_shorten_L9 s.2 x.2) := by
  unfold f67_shorten_L9
  have h0 : yfr w_f67_shorten_L9 s.2 s.2 := yfr_refl _
  repeat' (first
    | with_reducible refine yfr_zu ?_ ?_
    | with_reducible refine yfr_zcp (fun _ => rfl) ?_
    | with_reducible assumption
    | with_reducible exact yfr_refl _
    | exact (rfl : (_ : Bool) = true)
    | with_reducible exact yF_none
    | with_reducible refine yF_some ?_
    | exact yrow0 (by assumption) ⟨rfl, rfl, rfl, rfl⟩
    | with_reducible refine yF_bif ?_
    | with_reducible refine yF_ite ?_ ?_
    | with_reducible refine yF_bind0 ?_
    | with_reducible intro _
    | dsimp only)
theorem frl_f67_shorten_L9 (v1 : Int32) (n : Nat) (s : (Int32 × (Nat → Nat → Int32))) : yF (zloop (f67_shorten_L9 v1) n s) (fun x => yfr w_f67_shorten_L9 s.2 x.2) :=
  yF_loop (R := fun a b => yfr w_f67_shorten_L9 a.2 b.2) (fun _ => yfr_refl _) (fun a b c h1 h2 => yfr_trans a.2 b.2 c.2 h1 h2) (fun s y hy => by
    have h := fr_f67_shorten_L9 v1 s y hy
    rcases y with y | y
    · exact h
    · exact h) n s
def w_f67_shorten_L2 : List Nat := [1499]
set_option maxRecDepth 10000 in
set_option maxHeartbeats 4000000 in
theorem fr_f67_shorten_L2 (s : (Int32 × (Nat → Nat → Int32))) : yF (f67_shorten_L2 s) (fun y => match y with
    | .inl x => yfr w_f67_shorten_L2 s.2 x.2
    | .inr x => yfr w_f67_shorten_L2 s.2 x.2) := by
  unfold f67_shorten_L2
  have h0 : yfr w_f67_shorten_L2 s.2 s.2 := yfr_refl _
  repeat' (first
    | with_reducible refine yfr_zu ?_ ?_
    | with_reducible refine yfr_zcp (fun _ => rfl) ?_
    | with_reducible assumption
    | with_reducible exact yfr_refl _
    | exact (rfl : (_ : Bool) = true)
    | with_reducible exact yF_none
    | with_reducible refine yF_some ?_
    | exact yrow0 (by assumption) ⟨rfl, rfl, rfl, rfl⟩
    | with_reducible refine yF_bif ?_
    | with_reducible refine yF_ite ?_ ?_
    | with_reducible refine yF_bindI (V := w_f67_shorten_L2) (I0 := s.2) (frl_f67_shorten_L9 _ _ _) ?_ ?_ ?_
    | with_reducible refine yF_bind0 ?_
    | with_reducible intro _
    | dsimp only)
theorem frl_f67_shorten_L2  (n : Nat) (s : (Int32 × (Nat → Nat → Int32))) : yF (zloop (f67_shorten_L2 ) n s) (fun x => yfr w_f67_shorten_L2 s.2 x.2) :=
  yF_loop (R := fun a b => yfr w_f67_shorten_L2 a.2 b.2) (fun _ => yfr_refl _) (fun a b c h1 h2 => yfr_trans a.2 b.2 c.2 h1 h2) (fun s y hy => by
    have h := fr_f67_shorten_L2 s y hy
    rcases y with y | y
    · exact h
    · exact h) n s
def w_f67_shorten : List Nat := [1499]
set_option maxRecDepth 10000 in
set_option maxHeartbeats 4000000 in
theorem fr_f67_shorten (I : (Nat → Nat → Int32)) : yF (f67_shorten I) (fun x => yfr w_f67_shorten I x) := by
  unfold f67_shorten
  have h0 : yfr w_f67_shorten I I := yfr_refl _
  repeat' (first
    | with_reducible refine yfr_zu ?_ ?_
    | with_reducible refine yfr_zcp (fun _ => rfl) ?_
    | with_reducible assumption
    | with_reducible exact yfr_refl _
    | exact (rfl : (_ : Bool) = true)
    | with_reducible exact yF_none
    | with_reducible refine yF_some ?_
    | exact yrow0 (by assumption) ⟨rfl, rfl, rfl, rfl⟩
    | with_reducible refine yF_bif ?_
    | with_reducible refine yF_ite ?_ ?_
    | with_reducible refine yF_bindI (V := w_f67_shorten) (I0 := I) (frl_f67_shorten_L2  _ _) ?_ ?_ ?_
    | with_reducible refine yF_bind0 ?_
    | with_reducible intro _
    | dsimp only)
def w_f65_addWay : List Nat := [101, 499, 599, 699, 799, 1399, 1499]
set_option maxRecDepth 10000 in
set_option maxHeartbeats 4000000 in
theorem fr_f65_addWay (v1 : Int32) (v2 : Int32) (v3 : Int32) (v4 : Int32) (I : (Nat → Nat → Int32)) : yF (f65_addWay v1 v2 v3 v4 I) (fun x => yfr w_f65_addWay I x.2) := by
  unfold f65_addWay
  have h0 : yfr w_f65_addWay I I := yfr_refl _
  repeat' (first
    | with_reducible refine yfr_zu ?_ ?_
    | with_reducible refine yfr_zcp (fun _ => rfl) ?_
    | with_reducible assumption
    | with_reducible exact yfr_refl _
    | exact (rfl : (_ : Bool) = true)
    | with_reducible exact yF_none
    | with_reducible refine yF_some ?_
    | exact yrow0 (by assumption) ⟨rfl, rfl, rfl, rfl⟩
    | with_reducible refine yF_bif ?_
    | with_reducible refine yF_ite ?_ ?_
    | with_reducible refine yF_bindI (V := w_f65_addWay) (I0 := I) (fr_f66_lay _ _ _) ?_ ?_ ?_
    | with_reducible refine yF_bindI (V := w_f65_addWay) (I0 := I) (fr_f67_shorten _) ?_ ?_ ?_
    | with_reducible refine yF_bind0 ?_
    | with_reducible intro _
    | dsimp only)
def w_f87_way : List Nat := [101, 499, 599, 699, 799, 1399, 1499]
set_option maxRecDepth 10000 in
set_option maxHeartbeats 4000000 in
theorem fr_f87_way (v1 : Int32) (v2 : Int32) (v3 : Int32) (I : (Nat → Nat → Int32)) : yF (f87_way v1 v2 v3 I) (fun x => yfr w_f87_way I x.2) := by
  unfold f87_way
  have h0 : yfr w_f87_way I I := yfr_refl _
  repeat' (first
    | with_reducible refine yfr_zu ?_ ?_
    | with_reducible refine yfr_zcp (fun _ => rfl) ?_
    | with_reducible assumption
    | with_reducible exact yfr_refl _
    | exact (rfl : (_ : Bool) = true)
    | with_reducible exact yF_none
    | with_reducible refine yF_some ?_
    | exact yrow0 (by assumption) ⟨rfl, rfl, rfl, rfl⟩
    | with_reducible refine yF_bif ?_
    | with_reducible refine yF_ite ?_ ?_
    | with_reducible refine yF_bindI (V := w_f87_way) (I0 := I) (fr_f65_addWay _ _ _ _ _) ?_ ?_ ?_
    | with_reducible refine yF_bind0 ?_
    | with_reducible intro _
    | dsimp only)
def w_f133_way : List Nat := [7304, 7699, 7799, 7899, 7999]
set_option maxRecDepth 10000 in
set_option maxHeartbeats 4000000 in
theorem fr_f133_way (v1 : Int32) (v2 : Int32) (v3 : Int32) (I : (Nat → Nat → Int32)) : yF (f133_way v1 v2 v3 I) (fun x => yfr w_f133_way I x.2) := by
  unfold f133_way
  have h0 : yfr w_f133_way I I := yfr_refl _
  repeat' (first
    | with_reducible refine yfr_zu ?_ ?_
    | with_reducible refine yfr_zcp (fun _ => rfl) ?_
    | with_reducible assumption
    | with_reducible exact yfr_refl _
    | exact (rfl : (_ : Bool) = true)
    | with_reducible exact yF_none
    | with_reducible refine yF_some ?_
    | exact yrow0 (by assumption) ⟨rfl, rfl, rfl, rfl⟩
    | with_reducible refine yF_bif ?_
    | with_reducible refine yF_ite ?_ ?_
    | with_reducible refine yF_bind0 ?_
    | with_reducible intro _
    | dsimp only)
def w_f68_addSort : List Nat := [102, 899, 999, 1099, 1199, 1299]
set_option maxRecDepth 10000 in
set_option maxHeartbeats 4000000 in
theorem fr_f68_addSort (v1 : Int32) (v2 : Int32) (v3 : Int32) (I : (Nat → Nat → Int32)) : yF (f68_addSort v1 v2 v3 I) (fun x => yfr w_f68_addSort I x.2) := by
  unfold f68_addSort
  have h0 : yfr w_f68_addSort I I := yfr_refl _
  repeat' (first
    | with_reducible refine yfr_zu ?_ ?_
    | with_reducible refine yfr_zcp (fun _ => rfl) ?_
    | with_reducible assumption
    | with_reducible exact yfr_refl _
    | exact (rfl : (_ : Bool) = true)
    | with_reducible exact yF_none
    | with_reducible refine yF_some ?_
    | exact yrow0 (by assumption) ⟨rfl, rfl, rfl, rfl⟩
    | with_reducible refine yF_bif ?_
    | with_reducible refine yF_ite ?_ ?_
    | with_reducible refine yF_bind0 ?_
    | with_reducible intro _
    | dsimp only)
def w_f88_sort : List Nat := [102, 899, 999, 1099, 1199, 1299]
set_option maxRecDepth 10000 in
set_option maxHeartbeats 4000000 in
theorem fr_f88_sort (v1 : Int32) (v2 : Int32) (v3 : Int32) (I : (Nat → Nat → Int32)) : yF (f88_sort v1 v2 v3 I) (fun x => yfr w_f88_sort I x.2) := by
  unfold f88_sort
  have h0 : yfr w_f88_sort I I := yfr_refl _
  repeat' (first
    | with_reducible refine yfr_zu ?_ ?_
    | with_reducible refine yfr_zcp (fun _ => rfl) ?_
    | with_reducible assumption
    | with_reducible exact yfr_refl _
    | exact (rfl : (_ : Bool) = true)
    | with_reducible exact yF_none
    | with_reducible refine yF_some ?_
    | exact yrow0 (by assumption) ⟨rfl, rfl, rfl, rfl⟩
    | with_reducible refine yF_bif ?_
    | with_reducible refine yF_ite ?_ ?_
    | with_reducible refine yF_bindI (V := w_f88_sort) (I0 := I) (fr_f68_addSort _ _ _ _) ?_ ?_ ?_
    | with_reducible refine yF_bind0 ?_
    | with_reducible intro _
    | dsimp only)
def w_f135_addSort : List Nat := [7309, 8099, 8199, 8299, 8399, 8499]
set_option maxRecDepth 10000 in
set_option maxHeartbeats 4000000 in
theorem fr_f135_addSort (v1 : Int32) (v2 : Int32) (v3 : Int32) (I : (Nat → Nat → Int32)) : yF (f135_addSort v1 v2 v3 I) (fun x => yfr w_f135_addSort I x.2) := by
  unfold f135_addSort
  have h0 : yfr w_f135_addSort I I := yfr_refl _
  repeat' (first
    | with_reducible refine yfr_zu ?_ ?_
    | with_reducible refine yfr_zcp (fun _ => rfl) ?_
    | with_reducible assumption
    | with_reducible exact yfr_refl _
    | exact (rfl : (_ : Bool) = true)
    | with_reducible exact yF_none
    | with_reducible refine yF_some ?_
    | exact yrow0 (by assumption) ⟨rfl, rfl, rfl, rfl⟩
    | with_reducible refine yF_bif ?_
    | with_reducible refine yF_ite ?_ ?_
    | with_reducible refine yF_bind0 ?_
    | with_reducible intro _
    | dsimp only)
def w_f136_sort : List Nat := [7309, 8099, 8199, 8299, 8399, 8499]
set_option maxRecDepth 10000 in
set_option maxHeartbeats 4000000 in
theorem fr_f136_sort (v1 : Int32) (v2 : Int32) (v3 : Int32) (I : (Nat → Nat → Int32)) : yF (f136_sort v1 v2 v3 I) (fun x => yfr w_f136_sort I x.2) := by
  unfold f136_sort
  have h0 : yfr w_f136_sort I I := yfr_refl _
  repeat' (first
    | with_reducible refine yfr_zu ?_ ?_
    | with_reducible refine yfr_zcp (fun _ => rfl) ?_
    | with_reducible assumption
    | with_reducible exact yfr_refl _
    | exact (rfl : (_ : Bool) = true)
    | with_reducible exact yF_none
    | with_reducible refine yF_some ?_
    | exact yrow0 (by assumption) ⟨rfl, rfl, rfl, rfl⟩
    | with_reducible refine yF_bif ?_
    | with_reducible refine yF_ite ?_ ?_
    | with_reducible refine yF_bindI (V := w_f136_sort) (I0 := I) (fr_f135_addSort _ _ _ _) ?_ ?_ ?_
    | with_reducible refine yF_bind0 ?_
    | with_reducible intro _
    | dsimp only)
def w_f90_sortsFrom_L3 : List Nat := [102, 899, 999, 1099, 1199, 1299]
set_option maxRecDepth 10000 in
set_option maxHeartbeats 4000000 in
theorem fr_f90_sortsFrom_L3 (v1 : Nat) (v2 : Int32) (v3 : Int32) (J : (Nat → Nat → Int64)) (s : (Int32 × (Nat → Nat → Int32))) : yF (f90_sortsFrom_L3 v1 v2 v3 J s) (fun y => match y with
    | .inl x => yfr w_f90_sortsFrom_L3 s.2 x.2
    | .inr (.inl x) => yfr w_f90_sortsFrom_L3 s.2 x.2
    | .inr (.inr x) => yfr w_f90_sortsFrom_L3 s.2 x.2) := by
  unfold f90_sortsFrom_L3
  have h0 : yfr w_f90_sortsFrom_L3 s.2 s.2 := yfr_refl _
  repeat' (first
    | with_reducible refine yfr_zu ?_ ?_
    | with_reducible refine yfr_zcp (fun _ => rfl) ?_
    | with_reducible assumption
    | with_reducible exact yfr_refl _
    | exact (rfl : (_ : Bool) = true)
    | with_reducible exact yF_none
    | with_reducible refine yF_some ?_
    | exact yrow0 (by assumption) ⟨rfl, rfl, rfl, rfl⟩
    | with_reducible refine yF_bif ?_
    | with_reducible refine yF_ite ?_ ?_
    | with_reducible refine yF_bindI (V := w_f90_sortsFrom_L3) (I0 := s.2) (fr_f68_addSort _ _ _ _) ?_ ?_ ?_
    | with_reducible refine yF_bind0 ?_
    | with_reducible intro _
    | dsimp only)
theorem frl_f90_sortsFrom_L3 (v1 : Nat) (v2 : Int32) (v3 : Int32) (J : (Nat → Nat → Int64)) (n : Nat) (s : (Int32 × (Nat → Nat → Int32))) : yF (zloopR (f90_sortsFrom_L3 v1 v2 v3 J) n s) (yS (fun x => yfr w_f90_sortsFrom_L3 s.2 x.2) (fun x => yfr w_f90_sortsFrom_L3 s.2 x.2)) :=
  yF_loopR (R := fun a b => yfr w_f90_sortsFrom_L3 a.2 b.2) (S := fun (a : (Int32 × (Nat → Nat → Int32))) (b : (Int32 × (Nat → Nat → Int32))) => yfr w_f90_sortsFrom_L3 a.2 b.2) (fun a b c h1 h2 => yfr_trans a.2 b.2 c.2 h1 h2) (fun (a b : (Int32 × (Nat → Nat → Int32))) (c : (Int32 × (Nat → Nat → Int32))) h1 h2 => yfr_trans a.2 b.2 c.2 h1 h2) (fun s y hy => by
    have h := fr_f90_sortsFrom_L3 v1 v2 v3 J s y hy
    rcases y with y | y | y
    · exact h
    · exact h
    · exact h) n s
def w_f90_sortsFrom : List Nat := [102, 899, 999, 1099, 1199, 1299]
set_option maxRecDepth 10000 in
set_option maxHeartbeats 4000000 in
theorem fr_f90_sortsFrom (v1 : Nat) (v2 : Int32) (v3 : Int32) (I : (Nat → Nat → Int32)) (J : (Nat → Nat → Int64)) : yF (f90_sortsFrom v1 v2 v3 I J) (fun x => yfr w_f90_sortsFrom I x.2) := by
  unfold f90_sortsFrom
  have h0 : yfr w_f90_sortsFrom I I := yfr_refl _
  repeat' (first
    | with_reducible refine yfr_zu ?_ ?_
    | with_reducible refine yfr_zcp (fun _ => rfl) ?_
    | with_reducible assumption
    | with_reducible exact yfr_refl _
    | exact (rfl : (_ : Bool) = true)
    | with_reducible exact yF_none
    | with_reducible refine yF_some ?_
    | exact yrow0 (by assumption) ⟨rfl, rfl, rfl, rfl⟩
    | with_reducible refine yF_bif ?_
    | with_reducible refine yF_ite ?_ ?_
    | with_reducible refine yF_zbRI (V := w_f90_sortsFrom) (I0 := I) (frl_f90_sortsFrom_L3 _ _ _ _ _ _) ?_ ?_ ?_ ?_
    | with_reducible refine yF_bind0 ?_
    | with_reducible intro _
    | dsimp only)
def w_f89_sorts : List Nat := [102, 899, 999, 1099, 1199, 1299]
set_option maxRecDepth 10000 in
set_option maxHeartbeats 4000000 in
theorem fr_f89_sorts (v1 : Int32) (v2 : Int32) (v3 : Int32) (I : (Nat → Nat → Int32)) (J : (Nat → Nat → Int64)) : yF (f89_sorts v1 v2 v3 I J) (fun x => yfr w_f89_sorts I x.2) := by
  unfold f89_sorts
  have h0 : yfr w_f89_sorts I I := yfr_refl _
  repeat' (first
    | with_reducible refine yfr_zu ?_ ?_
    | with_reducible refine yfr_zcp (fun _ => rfl) ?_
    | with_reducible assumption
    | with_reducible exact yfr_refl _
    | exact (rfl : (_ : Bool) = true)
    | with_reducible exact yF_none
    | with_reducible refine yF_some ?_
    | exact yrow0 (by assumption) ⟨rfl, rfl, rfl, rfl⟩
    | with_reducible refine yF_bif ?_
    | with_reducible refine yF_ite ?_ ?_
    | with_reducible refine yF_bindI (V := w_f89_sorts) (I0 := I) (fr_f90_sortsFrom _ _ _ _ _) ?_ ?_ ?_
    | with_reducible refine yF_bind0 ?_
    | with_reducible intro _
    | dsimp only)
def w_f137_sorts_L58 : List Nat := [7309, 8099, 8199, 8299, 8399, 8499]
set_option maxRecDepth 10000 in
set_option maxHeartbeats 4000000 in
theorem fr_f137_sorts_L58 (v1 : Int32) (v2 : Int32) (v3 : Int32) (J : (Nat → Nat → Int64)) (s : (Int32 × (Nat → Nat → Int32))) : yF (f137_sorts_L58 v1 v2 v3 J s) (fun y => match y with
    | .inl x => yfr w_f137_sorts_L58 s.2 x.2
    | .inr (.inl x) => yfr w_f137_sorts_L58 s.2 x.2
    | .inr (.inr x) => yfr w_f137_sorts_L58 s.2 x.2) := by
  unfold f137_sorts_L58
  have h0 : yfr w_f137_sorts_L58 s.2 s.2 := yfr_refl _
  repeat' (first
    | with_reducible refine yfr_zu ?_ ?_
    | with_reducible refine yfr_zcp (fun _ => rfl) ?_
    | with_reducible assumption
    | with_reducible exact yfr_refl _
    | exact (rfl : (_ : Bool) = true)
    | with_reducible exact yF_none
    | with_reducible refine yF_some ?_
    | exact yrow0 (by assumption) ⟨rfl, rfl, rfl, rfl⟩
    | with_reducible refine yF_bif ?_
    | with_reducible refine yF_ite ?_ ?_
    | with_reducible refine yF_bindI (V := w_f137_sorts_L58) (I0 := s.2) (fr_f135_addSort _ _ _ _) ?_ ?_ ?_
    | with_reducible refine yF_bind0 ?_
    | with_reducible intro _
    | dsimp only)
theorem frl_f137_sorts_L58 (v1 : Int32) (v2 : Int32) (v3 : Int32) (J : (Nat → Nat → Int64)) (n : Nat) (s : (Int32 × (Nat → Nat → Int32))) : yF (zloopR (f137_sorts_L58 v1 v2 v3 J) n s) (yS (fun x => yfr w_f137_sorts_L58 s.2 x.2) (fun x => yfr w_f137_sorts_L58 s.2 x.2)) :=
  yF_loopR (R := fun a b => yfr w_f137_sorts_L58 a.2 b.2) (S := fun (a : (Int32 × (Nat → Nat → Int32))) (b : (Int32 × (Nat → Nat → Int32))) => yfr w_f137_sorts_L58 a.2 b.2) (fun a b c h1 h2 => yfr_trans a.2 b.2 c.2 h1 h2) (fun (a b : (Int32 × (Nat → Nat → Int32))) (c : (Int32 × (Nat → Nat → Int32))) h1 h2 => yfr_trans a.2 b.2 c.2 h1 h2) (fun s y hy => by
    have h := fr_f137_sorts_L58 v1 v2 v3 J s y hy
    rcases y with y | y | y
    · exact h
    · exact h
    · exact h) n s
def w_f137_sorts : List Nat := [7309, 8099, 8199, 8299, 8399, 8499]
set_option maxRecDepth 10000 in
set_option maxHeartbeats 4000000 in
theorem fr_f137_sorts (v1 : Int32) (v2 : Int32) (v3 : Int32) (I : (Nat → Nat → Int32)) (J : (Nat → Nat → Int64)) : yF (f137_sorts v1 v2 v3 I J) (fun x => yfr w_f137_sorts I x.2) := by
  unfold f137_sorts
  have h0 : yfr w_f137_sorts I I := yfr_refl _
  repeat' (first
    | with_reducible refine yfr_zu ?_ ?_
    | with_reducible refine yfr_zcp (fun _ => rfl) ?_
    | with_reducible assumption
    | with_reducible exact yfr_refl _
    | exact (rfl : (_ : Bool) = true)
    | with_reducible exact yF_none
    | with_reducible refine yF_some ?_
    | exact yrow0 (by assumption) ⟨rfl, rfl, rfl, rfl⟩
    | with_reducible refine yF_bif ?_
    | with_reducible refine yF_ite ?_ ?_
    | with_reducible refine yF_zbRI (V := w_f137_sorts) (I0 := I) (frl_f137_sorts_L58 _ _ _ _ _ _) ?_ ?_ ?_ ?_
    | with_reducible refine yF_bind0 ?_
    | with_reducible intro _
    | dsimp only)
def w_f18_take : List Nat := [1506, 1699]
set_option maxRecDepth 10000 in
set_option maxHeartbeats 4000000 in
theorem fr_f18_take (v1 : Int32) (I : (Nat → Nat → Int32)) : yF (f18_take v1 I) (fun x => yfr w_f18_take I x.2) := by
  unfold f18_take
  have h0 : yfr w_f18_take I I := yfr_refl _
  repeat' (first
    | with_reducible refine yfr_zu ?_ ?_
    | with_reducible refine yfr_zcp (fun _ => rfl) ?_
    | with_reducible assumption
    | with_reducible exact yfr_refl _
    | exact (rfl : (_ : Bool) = true)
    | with_reducible exact yF_none
    | with_reducible refine yF_some ?_
    | exact yrow0 (by assumption) ⟨rfl, rfl, rfl, rfl⟩
    | with_reducible refine yF_bif ?_
    | with_reducible refine yF_ite ?_ ?_
    | with_reducible refine yF_bind0 ?_
    | with_reducible intro _
    | dsimp only)
def w_f91_feed : List Nat := [1506, 1699]
set_option maxRecDepth 10000 in
set_option maxHeartbeats 4000000 in
theorem fr_f91_feed (v1 : Int32) (I : (Nat → Nat → Int32)) : yF (f91_feed v1 I) (fun x => yfr w_f91_feed I x.2) := by
  unfold f91_feed
  have h0 : yfr w_f91_feed I I := yfr_refl _
  repeat' (first
    | with_reducible refine yfr_zu ?_ ?_
    | with_reducible refine yfr_zcp (fun _ => rfl) ?_
    | with_reducible assumption
    | with_reducible exact yfr_refl _
    | exact (rfl : (_ : Bool) = true)
    | with_reducible exact yF_none
    | with_reducible refine yF_some ?_
    | exact yrow0 (by assumption) ⟨rfl, rfl, rfl, rfl⟩
    | with_reducible refine yF_bif ?_
    | with_reducible refine yF_ite ?_ ?_
    | with_reducible refine yF_bindI (V := w_f91_feed) (I0 := I) (fr_f18_take _ _) ?_ ?_ ?_
    | with_reducible refine yF_bind0 ?_
    | with_reducible intro _
    | dsimp only)
def w_f138_feed : List Nat := [7319, 8599]
set_option maxRecDepth 10000 in
set_option maxHeartbeats 4000000 in
theorem fr_f138_feed (v1 : Int32) (I : (Nat → Nat → Int32)) : yF (f138_feed v1 I) (fun x => yfr w_f138_feed I x.2) := by
  unfold f138_feed
  have h0 : yfr w_f138_feed I I := yfr_refl _
  repeat' (first
    | with_reducible refine yfr_zu ?_ ?_
    | with_reducible refine yfr_zcp (fun _ => rfl) ?_
    | with_reducible assumption
    | with_reducible exact yfr_refl _
    | exact (rfl : (_ : Bool) = true)
    | with_reducible exact yF_none
    | with_reducible refine yF_some ?_
    | exact yrow0 (by assumption) ⟨rfl, rfl, rfl, rfl⟩
    | with_reducible refine yF_bif ?_
    | with_reducible refine yF_ite ?_ ?_
    | with_reducible refine yF_bind0 ?_
    | with_reducible intro _
    | dsimp only)
def w_f29_write : List Nat := [1899, 1999, 2099, 2199, 2299]
set_option maxRecDepth 10000 in
set_option maxHeartbeats 4000000 in
theorem fr_f29_write (v1 : Int32) (I : (Nat → Nat → Int32)) : yF (f29_write v1 I) (fun x => yfr w_f29_write I x) := by
  unfold f29_write
  have h0 : yfr w_f29_write I I := yfr_refl _
  repeat' (first
    | with_reducible refine yfr_zu ?_ ?_
    | with_reducible refine yfr_zcp (fun _ => rfl) ?_
    | with_reducible assumption
    | with_reducible exact yfr_refl _
    | exact (rfl : (_ : Bool) = true)
    | with_reducible exact yF_none
    | with_reducible refine yF_some ?_
    | exact yrow0 (by assumption) ⟨rfl, rfl, rfl, rfl⟩
    | with_reducible refine yF_bif ?_
    | with_reducible refine yF_ite ?_ ?_
    | with_reducible refine yF_bind0 ?_
    | with_reducible intro _
    | dsimp only)
def w_f26_readNumber_L4 : List Nat := [1504]
set_option maxRecDepth 10000 in
set_option maxHeartbeats 4000000 in
theorem fr_f26_readNumber_L4 (s : (Int32 × Int32 × (Nat → Nat → Int32))) : yF (f26_readNumber_L4 s) (fun y => match y with
    | .inl x => yfr w_f26_readNumber_L4 s.2.2 x.2.2
    | .inr x => yfr w_f26_readNumber_L4 s.2.2 x.2.2) := by
  unfold f26_readNumber_L4
  have h0 : yfr w_f26_readNumber_L4 s.2.2 s.2.2 := yfr_refl _
  repeat' (first
    | with_reducible refine yfr_zu ?_ ?_
    | with_reducible refine yfr_zcp (fun _ => rfl) ?_
    | with_reducible assumption
    | with_reducible exact yfr_refl _
    | exact (rfl : (_ : Bool) = true)
    | with_reducible exact yF_none
    | with_reducible refine yF_some ?_
    | exact yrow0 (by assumption) ⟨rfl, rfl, rfl, rfl⟩
    | with_reducible refine yF_bif ?_
    | with_reducible refine yF_ite ?_ ?_
    | with_reducible refine yF_bind0 ?_
    | with_reducible intro _
    | dsimp only)
theorem frl_f26_readNumber_L4  (n : Nat) (s : (Int32 × Int32 × (Nat → Nat → Int32))) : yF (zloop (f26_readNumber_L4 ) n s) (fun x => yfr w_f26_readNumber_L4 s.2.2 x.2.2) :=
  yF_loop (R := fun a b => yfr w_f26_readNumber_L4 a.2.2 b.2.2) (fun _ => yfr_refl _) (fun a b c h1 h2 => yfr_trans a.2.2 b.2.2 c.2.2 h1 h2) (fun s y hy => by
    have h := fr_f26_readNumber_L4 s y hy
    rcases y with y | y
    · exact h
    · exact h) n s
def w_f26_readNumber : List Nat := [1504, 1899, 1999, 2099, 2199, 2299]
set_option maxRecDepth 10000 in
set_option maxHeartbeats 4000000 in
theorem fr_f26_readNumber (I : (Nat → Nat → Int32)) : yF (f26_readNumber I) (fun x => yfr w_f26_readNumber I x) := by
  unfold f26_readNumber
  have h0 : yfr w_f26_readNumber I I := yfr_refl _
  repeat' (first
    | with_reducible refine yfr_zu ?_ ?_
    | with_reducible refine yfr_zcp (fun _ => rfl) ?_
    | with_reducible assumption
    | with_reducible exact yfr_refl _
    | exact (rfl : (_ : Bool) = true)
    | with_reducible exact yF_none
    | with_reducible refine yF_some ?_
    | exact yrow0 (by assumption) ⟨rfl, rfl, rfl, rfl⟩
    | with_reducible refine yF_bif ?_
    | with_reducible refine yF_ite ?_ ?_
    | with_reducible refine yF_bindI (V := w_f26_readNumber) (I0 := I) (frl_f26_readNumber_L4  _ _) ?_ ?_ ?_
    | with_reducible refine yF_bindI (V := w_f26_readNumber) (I0 := I) (fr_f29_write _ _) ?_ ?_ ?_
    | with_reducible refine yF_bind0 ?_
    | with_reducible intro _
    | dsimp only)
def w_F22 : List Nat := [1504, 1899, 1999, 2099, 2199, 2299]
abbrev yrc_F22 (rc : ((Int32 → Int32 → (Nat → Nat → Int32) → Option (Int32 × (Nat → Nat → Int32))) × (Int32 → (Nat → Nat → Int32) → Option (Int32 × (Nat → Nat → Int32))) × (Int32 → Int32 → (Nat → Nat → Int32) → Option (Int32 × (Nat → Nat → Int32))))) : Prop := (∀ v1 v2 I, yF (rc.1 v1 v2 I) (fun x => yfr w_F22 I x.2)) ∧ (∀ v1 I, yF (rc.2.1 v1 I) (fun x => yfr w_F22 I x.2)) ∧ (∀ v1 v2 I, yF (rc.2.2 v1 v2 I) (fun x => yfr w_F22 I x.2))
def w_f22_readPart_L39 : List Nat := [1504, 1899, 1999, 2099, 2199, 2299]
set_option maxRecDepth 10000 in
set_option maxHeartbeats 4000000 in
theorem fr_f22_readPart_L39 (rc : ((Int32 → Int32 → (Nat → Nat → Int32) → Option (Int32 × (Nat → Nat → Int32))) × (Int32 → (Nat → Nat → Int32) → Option (Int32 × (Nat → Nat → Int32))) × (Int32 → Int32 → (Nat → Nat → Int32) → Option (Int32 × (Nat → Nat → Int32))))) (v1 : Int32) (v2 : Int32) (v3 : Int32) (s : (Int32 × (Nat → Nat → Int32))) (hrc : yrc_F22 rc) : yF (f22_readPart_L39 rc v1 v2 v3 s) (fun y => match y with
    | .inl x => yfr w_f22_readPart_L39 s.2 x.2
    | .inr (.inl x) => yfr w_f22_readPart_L39 s.2 x.2
    | .inr (.inr x) => yfr w_f22_readPart_L39 s.2 x.2) := by
  unfold f22_readPart_L39
  have h0 : yfr w_f22_readPart_L39 s.2 s.2 := yfr_refl _
  repeat' (first
    | with_reducible refine yfr_zu ?_ ?_
    | with_reducible refine yfr_zcp (fun _ => rfl) ?_
    | with_reducible assumption
    | with_reducible exact yfr_refl _
    | exact (rfl : (_ : Bool) = true)
    | with_reducible exact yF_none
    | with_reducible refine yF_some ?_
    | exact yrow0 (by assumption) ⟨rfl, rfl, rfl, rfl⟩
    | with_reducible refine yF_bif ?_
    | with_reducible refine yF_ite ?_ ?_
    | with_reducible refine yF_bindI (V := w_f22_readPart_L39) (I0 := s.2) (hrc.1 _ _ _) ?_ ?_ ?_
    | with_reducible refine yF_bindI (V := w_f22_readPart_L39) (I0 := s.2) (hrc.2.1 _ _) ?_ ?_ ?_
    | with_reducible refine yF_bindI (V := w_f22_readPart_L39) (I0 := s.2) (hrc.2.2 _ _ _) ?_ ?_ ?_
    | with_reducible refine yF_bindI (V := w_f22_readPart_L39) (I0 := s.2) (fr_f29_write _ _) ?_ ?_ ?_
    | with_reducible refine yF_bind0 ?_
    | with_reducible intro _
    | dsimp only)
theorem frl_f22_readPart_L39 (rc : ((Int32 → Int32 → (Nat → Nat → Int32) → Option (Int32 × (Nat → Nat → Int32))) × (Int32 → (Nat → Nat → Int32) → Option (Int32 × (Nat → Nat → Int32))) × (Int32 → Int32 → (Nat → Nat → Int32) → Option (Int32 × (Nat → Nat → Int32))))) (v1 : Int32) (v2 : Int32) (v3 : Int32) (hrc : yrc_F22 rc) (n : Nat) (s : (Int32 × (Nat → Nat → Int32))) : yF (zloopR (f22_readPart_L39 rc v1 v2 v3) n s) (yS (fun x => yfr w_f22_readPart_L39 s.2 x.2) (fun x => yfr w_f22_readPart_L39 s.2 x.2)) :=
  yF_loopR (R := fun a b => yfr w_f22_readPart_L39 a.2 b.2) (S := fun (a : (Int32 × (Nat → Nat → Int32))) (b : (Int32 × (Nat → Nat → Int32))) => yfr w_f22_readPart_L39 a.2 b.2) (fun a b c h1 h2 => yfr_trans a.2 b.2 c.2 h1 h2) (fun (a b : (Int32 × (Nat → Nat → Int32))) (c : (Int32 × (Nat → Nat → Int32))) h1 h2 => yfr_trans a.2 b.2 c.2 h1 h2) (fun s y hy => by
    have h := fr_f22_readPart_L39 rc v1 v2 v3 s hrc y hy
    rcases y with y | y | y
    · exact h
    · exact h
    · exact h) n s
def w_bf22_readPart : List Nat := [1504, 1899, 1999, 2099, 2199, 2299]
set_option maxRecDepth 10000 in
set_option maxHeartbeats 4000000 in
theorem fr_bf22_readPart (rc : ((Int32 → Int32 → (Nat → Nat → Int32) → Option (Int32 × (Nat → Nat → Int32))) × (Int32 → (Nat → Nat → Int32) → Option (Int32 × (Nat → Nat → Int32))) × (Int32 → Int32 → (Nat → Nat → Int32) → Option (Int32 × (Nat → Nat → Int32))))) (v1 : Int32) (v2 : Int32) (I : (Nat → Nat → Int32)) (hrc : yrc_F22 rc) : yF (bf22_readPart rc v1 v2 I) (fun x => yfr w_bf22_readPart I x.2) := by
  unfold bf22_readPart
  have h0 : yfr w_bf22_readPart I I := yfr_refl _
  repeat' (first
    | with_reducible refine yfr_zu ?_ ?_
    | with_reducible refine yfr_zcp (fun _ => rfl) ?_
    | with_reducible assumption
    | with_reducible exact yfr_refl _
    | exact (rfl : (_ : Bool) = true)
    | with_reducible exact yF_none
    | with_reducible refine yF_some ?_
    | exact yrow0 (by assumption) ⟨rfl, rfl, rfl, rfl⟩
    | with_reducible refine yF_bif ?_
    | with_reducible refine yF_ite ?_ ?_
    | with_reducible refine yF_bindI (V := w_bf22_readPart) (I0 := I) (hrc.1 _ _ _) ?_ ?_ ?_
    | with_reducible refine yF_bindI (V := w_bf22_readPart) (I0 := I) (hrc.2.1 _ _) ?_ ?_ ?_
    | with_reducible refine yF_bindI (V := w_bf22_readPart) (I0 := I) (hrc.2.2 _ _ _) ?_ ?_ ?_
    | with_reducible refine yF_zbRI (V := w_bf22_readPart) (I0 := I) (frl_f22_readPart_L39 _ _ _ _ hrc _ _) ?_ ?_ ?_ ?_
    | with_reducible refine yF_bind0 ?_
    | with_reducible intro _
    | dsimp only)
def w_bf24_readOperand : List Nat := [1504, 1899, 1999, 2099, 2199, 2299]
set_option maxRecDepth 10000 in
set_option maxHeartbeats 4000000 in
theorem fr_bf24_readOperand (rc : ((Int32 → Int32 → (Nat → Nat → Int32) → Option (Int32 × (Nat → Nat → Int32))) × (Int32 → (Nat → Nat → Int32) → Option (Int32 × (Nat → Nat → Int32))) × (Int32 → Int32 → (Nat → Nat → Int32) → Option (Int32 × (Nat → Nat → Int32))))) (v1 : Int32) (I : (Nat → Nat → Int32)) (hrc : yrc_F22 rc) : yF (bf24_readOperand rc v1 I) (fun x => yfr w_bf24_readOperand I x.2) := by
  unfold bf24_readOperand
  have h0 : yfr w_bf24_readOperand I I := yfr_refl _
  repeat' (first
    | with_reducible refine yfr_zu ?_ ?_
    | with_reducible refine yfr_zcp (fun _ => rfl) ?_
    | with_reducible assumption
    | with_reducible exact yfr_refl _
    | exact (rfl : (_ : Bool) = true)
    | with_reducible exact yF_none
    | with_reducible refine yF_some ?_
    | exact yrow0 (by assumption) ⟨rfl, rfl, rfl, rfl⟩
    | with_reducible refine yF_bif ?_
    | with_reducible refine yF_ite ?_ ?_
    | with_reducible refine yF_bindI (V := w_bf24_readOperand) (I0 := I) (hrc.1 _ _ _) ?_ ?_ ?_
    | with_reducible refine yF_bindI (V := w_bf24_readOperand) (I0 := I) (hrc.2.1 _ _) ?_ ?_ ?_
    | with_reducible refine yF_bindI (V := w_bf24_readOperand) (I0 := I) (hrc.2.2 _ _ _) ?_ ?_ ?_
    | with_reducible refine yF_bindI (V := w_bf24_readOperand) (I0 := I) (fr_f29_write _ _) ?_ ?_ ?_
    | with_reducible refine yF_bindI (V := w_bf24_readOperand) (I0 := I) (fr_f26_readNumber _) ?_ ?_ ?_
    | with_reducible refine yF_bind0 ?_
    | with_reducible intro _
    | dsimp only)
def w_bf25_readOpened : List Nat := [1504, 1899, 1999, 2099, 2199, 2299]
set_option maxRecDepth 10000 in
set_option maxHeartbeats 4000000 in
theorem fr_bf25_readOpened (rc : ((Int32 → Int32 → (Nat → Nat → Int32) → Option (Int32 × (Nat → Nat → Int32))) × (Int32 → (Nat → Nat → Int32) → Option (Int32 × (Nat → Nat → Int32))) × (Int32 → Int32 → (Nat → Nat → Int32) → Option (Int32 × (Nat → Nat → Int32))))) (v1 : Int32) (v2 : Int32) (I : (Nat → Nat → Int32)) (hrc : yrc_F22 rc) : yF (bf25_readOpened rc v1 v2 I) (fun x => yfr w_bf25_readOpened I x.2) := by
  unfold bf25_readOpened
  have h0 : yfr w_bf25_readOpened I I := yfr_refl _
  repeat' (first
    | with_reducible refine yfr_zu ?_ ?_
    | with_reducible refine yfr_zcp (fun _ => rfl) ?_
    | with_reducible assumption
    | with_reducible exact yfr_refl _
    | exact (rfl : (_ : Bool) = true)
    | with_reducible exact yF_none
    | with_reducible refine yF_some ?_
    | exact yrow0 (by assumption) ⟨rfl, rfl, rfl, rfl⟩
    | with_reducible refine yF_bif ?_
    | with_reducible refine yF_ite ?_ ?_
    | with_reducible refine yF_bindI (V := w_bf25_readOpened) (I0 := I) (hrc.1 _ _ _) ?_ ?_ ?_
    | with_reducible refine yF_bindI (V := w_bf25_readOpened) (I0 := I) (hrc.2.1 _ _) ?_ ?_ ?_
    | with_reducible refine yF_bindI (V := w_bf25_readOpened) (I0 := I) (hrc.2.2 _ _ _) ?_ ?_ ?_
    | with_reducible refine yF_bindI (V := w_bf25_readOpened) (I0 := I) (fr_f29_write _ _) ?_ ?_ ?_
    | with_reducible refine yF_bind0 ?_
    | with_reducible intro _
    | dsimp only)
theorem frg_F22 : ∀ n, yrc_F22 (F22 n) := by
  intro n
  induction n with
  | zero => exact ⟨fun _ _ _ => yF_none, fun _ _ => yF_none, fun _ _ _ => yF_none⟩
  | succ n ih => exact ⟨fun v1 v2 I => fr_bf22_readPart _ v1 v2 I ih, fun v1 I => fr_bf24_readOperand _ v1 I ih, fun v1 v2 I => fr_bf25_readOpened _ v1 v2 I ih⟩
def w_f22_readPart : List Nat := [1504, 1899, 1999, 2099, 2199, 2299]
theorem fr_f22_readPart (n : Nat) (v1 : Int32) (v2 : Int32) (I : (Nat → Nat → Int32)) : yF (f22_readPart n v1 v2 I) (fun x => yfr w_f22_readPart I x.2) := (frg_F22 n).1 v1 v2 I
def w_f24_readOperand : List Nat := [1504, 1899, 1999, 2099, 2199, 2299]
theorem fr_f24_readOperand (n : Nat) (v1 : Int32) (I : (Nat → Nat → Int32)) : yF (f24_readOperand n v1 I) (fun x => yfr w_f24_readOperand I x.2) := (frg_F22 n).2.1 v1 I
def w_f25_readOpened : List Nat := [1504, 1899, 1999, 2099, 2199, 2299]
theorem fr_f25_readOpened (n : Nat) (v1 : Int32) (v2 : Int32) (I : (Nat → Nat → Int32)) : yF (f25_readOpened n v1 v2 I) (fun x => yfr w_f25_readOpened I x.2) := (frg_F22 n).2.2 v1 v2 I
def w_f21_readLine : List Nat := [1504, 1899, 1999, 2099, 2199, 2299]
set_option maxRecDepth 10000 in
set_option maxHeartbeats 4000000 in
theorem fr_f21_readLine (I : (Nat → Nat → Int32)) : yF (f21_readLine I) (fun x => yfr w_f21_readLine I x.2) := by
  unfold f21_readLine
  have h0 : yfr w_f21_readLine I I := yfr_refl _
  repeat' (first
    | with_reducible refine yfr_zu ?_ ?_
    | with_reducible refine yfr_zcp (fun _ => rfl) ?_
    | with_reducible assumption
    | with_reducible exact yfr_refl _
    | exact (rfl : (_ : Bool) = true)
    | with_reducible exact yF_none
    | with_reducible refine yF_some ?_
    | exact yrow0 (by assumption) ⟨rfl, rfl, rfl, rfl⟩
    | with_reducible refine yF_bif ?_
    | with_reducible refine yF_ite ?_ ?_
    | with_reducible refine yF_bindI (V := w_f21_readLine) (I0 := I) (fr_f22_readPart _ _ _ _) ?_ ?_ ?_
    | with_reducible refine yF_bindI (V := w_f21_readLine) (I0 := I) (fr_f29_write _ _) ?_ ?_ ?_
    | with_reducible refine yF_bind0 ?_
    | with_reducible intro _
    | dsimp only)
def w_f20_readLines_L2 : List Nat := [1504, 1899, 1999, 2099, 2199, 2299]
set_option maxRecDepth 10000 in
set_option maxHeartbeats 4000000 in
theorem fr_f20_readLines_L2 (s : (Int32 × (Nat → Nat → Int32))) : yF (f20_readLines_L2 s) (fun y => match y with
    | .inl x => yfr w_f20_readLines_L2 s.2 x.2
    | .inr (.inl x) => yfr w_f20_readLines_L2 s.2 x.2
    | .inr (.inr x) => yfr w_f20_readLines_L2 s.2 x.2) := by
  unfold f20_readLines_L2
  have h0 : yfr w_f20_readLines_L2 s.2 s.2 := yfr_refl _
  repeat' (first
    | with_reducible refine yfr_zu ?_ ?_
    | with_reducible refine yfr_zcp (fun _ => rfl) ?_
    | with_reducible assumption
    | with_reducible exact yfr_refl _
    | exact (rfl : (_ : Bool) = true)
    | with_reducible exact yF_none
    | with_reducible refine yF_some ?_
    | exact yrow0 (by assumption) ⟨rfl, rfl, rfl, rfl⟩
    | with_reducible refine yF_bif ?_
    | with_reducible refine yF_ite ?_ ?_
    | with_reducible refine yF_bindI (V := w_f20_readLines_L2) (I0 := s.2) (fr_f21_readLine _) ?_ ?_ ?_
    | with_reducible refine yF_bind0 ?_
    | with_reducible intro _
    | dsimp only)
theorem frl_f20_readLines_L2  (n : Nat) (s : (Int32 × (Nat → Nat → Int32))) : yF (zloopR (f20_readLines_L2 ) n s) (yS (fun x => yfr w_f20_readLines_L2 s.2 x.2) (fun x => yfr w_f20_readLines_L2 s.2 x.2)) :=
  yF_loopR (R := fun a b => yfr w_f20_readLines_L2 a.2 b.2) (S := fun (a : (Int32 × (Nat → Nat → Int32))) (b : (Int32 × (Nat → Nat → Int32))) => yfr w_f20_readLines_L2 a.2 b.2) (fun a b c h1 h2 => yfr_trans a.2 b.2 c.2 h1 h2) (fun (a b : (Int32 × (Nat → Nat → Int32))) (c : (Int32 × (Nat → Nat → Int32))) h1 h2 => yfr_trans a.2 b.2 c.2 h1 h2) (fun s y hy => by
    have h := fr_f20_readLines_L2 s y hy
    rcases y with y | y | y
    · exact h
    · exact h
    · exact h) n s
def w_f20_readLines : List Nat := [1504, 1899, 1999, 2099, 2199, 2299]
set_option maxRecDepth 10000 in
set_option maxHeartbeats 4000000 in
theorem fr_f20_readLines (I : (Nat → Nat → Int32)) : yF (f20_readLines I) (fun x => yfr w_f20_readLines I x.2) := by
  unfold f20_readLines
  have h0 : yfr w_f20_readLines I I := yfr_refl _
  repeat' (first
    | with_reducible refine yfr_zu ?_ ?_
    | with_reducible refine yfr_zcp (fun _ => rfl) ?_
    | with_reducible assumption
    | with_reducible exact yfr_refl _
    | exact (rfl : (_ : Bool) = true)
    | with_reducible exact yF_none
    | with_reducible refine yF_some ?_
    | exact yrow0 (by assumption) ⟨rfl, rfl, rfl, rfl⟩
    | with_reducible refine yF_bif ?_
    | with_reducible refine yF_ite ?_ ?_
    | with_reducible refine yF_zbRI (V := w_f20_readLines) (I0 := I) (frl_f20_readLines_L2  _ _) ?_ ?_ ?_ ?_
    | with_reducible refine yF_bind0 ?_
    | with_reducible intro _
    | dsimp only)
def w_f19_becomes : List Nat := [1504, 1506, 1507, 1899, 1999, 2099, 2199, 2299]
set_option maxRecDepth 10000 in
set_option maxHeartbeats 4000000 in
theorem fr_f19_becomes (I : (Nat → Nat → Int32)) : yF (f19_becomes I) (fun x => yfr w_f19_becomes I x.2) := by
  unfold f19_becomes
  have h0 : yfr w_f19_becomes I I := yfr_refl _
  repeat' (first
    | with_reducible refine yfr_zu ?_ ?_
    | with_reducible refine yfr_zcp (fun _ => rfl) ?_
    | with_reducible assumption
    | with_reducible exact yfr_refl _
    | exact (rfl : (_ : Bool) = true)
    | with_reducible exact yF_none
    | with_reducible refine yF_some ?_
    | exact yrow0 (by assumption) ⟨rfl, rfl, rfl, rfl⟩
    | with_reducible refine yF_bif ?_
    | with_reducible refine yF_ite ?_ ?_
    | with_reducible refine yF_bindI (V := w_f19_becomes) (I0 := I) (fr_f20_readLines _) ?_ ?_ ?_
    | with_reducible refine yF_bind0 ?_
    | with_reducible intro _
    | dsimp only)
def w_f92_law : List Nat := [1504, 1506, 1507, 1899, 1999, 2099, 2199, 2299]
set_option maxRecDepth 10000 in
set_option maxHeartbeats 4000000 in
theorem fr_f92_law (I : (Nat → Nat → Int32)) : yF (f92_law I) (fun x => yfr w_f92_law I x.2) := by
  unfold f92_law
  have h0 : yfr w_f92_law I I := yfr_refl _
  repeat' (first
    | with_reducible refine yfr_zu ?_ ?_
    | with_reducible refine yfr_zcp (fun _ => rfl) ?_
    | with_reducible assumption
    | with_reducible exact yfr_refl _
    | exact (rfl : (_ : Bool) = true)
    | with_reducible exact yF_none
    | with_reducible refine yF_some ?_
    | exact yrow0 (by assumption) ⟨rfl, rfl, rfl, rfl⟩
    | with_reducible refine yF_bif ?_
    | with_reducible refine yF_ite ?_ ?_
    | with_reducible refine yF_bindI (V := w_f92_law) (I0 := I) (fr_f19_becomes _) ?_ ?_ ?_
    | with_reducible refine yF_bind0 ?_
    | with_reducible intro _
    | dsimp only)
def w_f140_wrong : List Nat := [7321]
set_option maxRecDepth 10000 in
set_option maxHeartbeats 4000000 in
theorem fr_f140_wrong (I : (Nat → Nat → Int32)) : yF (f140_wrong I) (fun x => yfr w_f140_wrong I x) := by
  unfold f140_wrong
  have h0 : yfr w_f140_wrong I I := yfr_refl _
  repeat' (first
    | with_reducible refine yfr_zu ?_ ?_
    | with_reducible refine yfr_zcp (fun _ => rfl) ?_
    | with_reducible assumption
    | with_reducible exact yfr_refl _
    | exact (rfl : (_ : Bool) = true)
    | with_reducible exact yF_none
    | with_reducible refine yF_some ?_
    | exact yrow0 (by assumption) ⟨rfl, rfl, rfl, rfl⟩
    | with_reducible refine yF_bif ?_
    | with_reducible refine yF_ite ?_ ?_
    | with_reducible refine yF_bind0 ?_
    | with_reducible intro _
    | dsimp only)
def w_f143_opens : List Nat := [7320, 7321, 7322]
set_option maxRecDepth 10000 in
set_option maxHeartbeats 4000000 in
theorem fr_f143_opens (I : (Nat → Nat → Int32)) : yF (f143_opens I) (fun x => yfr w_f143_opens I x.2) := by
  unfold f143_opens
  have h0 : yfr w_f143_opens I I := yfr_refl _
  repeat' (first
    | with_reducible refine yfr_zu ?_ ?_
    | with_reducible refine yfr_zcp (fun _ => rfl) ?_
    | with_reducible assumption
    | with_reducible exact yfr_refl _
    | exact (rfl : (_ : Bool) = true)
    | with_reducible exact yF_none
    | with_reducible refine yF_some ?_
    | exact yrow0 (by assumption) ⟨rfl, rfl, rfl, rfl⟩
    | with_reducible refine yF_bif ?_
    | with_reducible refine yF_ite ?_ ?_
    | with_reducible refine yF_bindI (V := w_f143_opens) (I0 := I) (fr_f140_wrong _) ?_ ?_ ?_
    | with_reducible refine yF_bind0 ?_
    | with_reducible intro _
    | dsimp only)
def w_f141_addStep : List Nat := [7323, 8699, 8799]
set_option maxRecDepth 10000 in
set_option maxHeartbeats 4000000 in
theorem fr_f141_addStep (v1 : Int32) (v2 : Int32) (I : (Nat → Nat → Int32)) : yF (f141_addStep v1 v2 I) (fun x => yfr w_f141_addStep I x) := by
  unfold f141_addStep
  have h0 : yfr w_f141_addStep I I := yfr_refl _
  repeat' (first
    | with_reducible refine yfr_zu ?_ ?_
    | with_reducible refine yfr_zcp (fun _ => rfl) ?_
    | with_reducible assumption
    | with_reducible exact yfr_refl _
    | exact (rfl : (_ : Bool) = true)
    | with_reducible exact yF_none
    | with_reducible refine yF_some ?_
    | exact yrow0 (by assumption) ⟨rfl, rfl, rfl, rfl⟩
    | with_reducible refine yF_bif ?_
    | with_reducible refine yF_ite ?_ ?_
    | with_reducible refine yF_bind0 ?_
    | with_reducible intro _
    | dsimp only)
def w_f144_figure_L4 : List Nat := [7320]
set_option maxRecDepth 10000 in
set_option maxHeartbeats 4000000 in
theorem fr_f144_figure_L4 (s : (Int32 × Int32 × (Nat → Nat → Int32))) : yF (f144_figure_L4 s) (fun y => match y with
    | .inl x => yfr w_f144_figure_L4 s.2.2 x.2.2
    | .inr x => yfr w_f144_figure_L4 s.2.2 x.2.2) := by
  unfold f144_figure_L4
  have h0 : yfr w_f144_figure_L4 s.2.2 s.2.2 := yfr_refl _
  repeat' (first
    | with_reducible refine yfr_zu ?_ ?_
    | with_reducible refine yfr_zcp (fun _ => rfl) ?_
    | with_reducible assumption
    | with_reducible exact yfr_refl _
    | exact (rfl : (_ : Bool) = true)
    | with_reducible exact yF_none
    | with_reducible refine yF_some ?_
    | exact yrow0 (by assumption) ⟨rfl, rfl, rfl, rfl⟩
    | with_reducible refine yF_bif ?_
    | with_reducible refine yF_ite ?_ ?_
    | with_reducible refine yF_bind0 ?_
    | with_reducible intro _
    | dsimp only)
theorem frl_f144_figure_L4  (n : Nat) (s : (Int32 × Int32 × (Nat → Nat → Int32))) : yF (zloop (f144_figure_L4 ) n s) (fun x => yfr w_f144_figure_L4 s.2.2 x.2.2) :=
  yF_loop (R := fun a b => yfr w_f144_figure_L4 a.2.2 b.2.2) (fun _ => yfr_refl _) (fun a b c h1 h2 => yfr_trans a.2.2 b.2.2 c.2.2 h1 h2) (fun s y hy => by
    have h := fr_f144_figure_L4 s y hy
    rcases y with y | y
    · exact h
    · exact h) n s
def w_f144_figure : List Nat := [7320, 7321, 7323, 8699, 8799]
set_option maxRecDepth 10000 in
set_option maxHeartbeats 4000000 in
theorem fr_f144_figure (I : (Nat → Nat → Int32)) : yF (f144_figure I) (fun x => yfr w_f144_figure I x) := by
  unfold f144_figure
  have h0 : yfr w_f144_figure I I := yfr_refl _
  repeat' (first
    | with_reducible refine yfr_zu ?_ ?_
    | with_reducible refine yfr_zcp (fun _ => rfl) ?_
    | with_reducible assumption
    | with_reducible exact yfr_refl _
    | exact (rfl : (_ : Bool) = true)
    | with_reducible exact yF_none
    | with_reducible refine yF_some ?_
    | exact yrow0 (by assumption) ⟨rfl, rfl, rfl, rfl⟩
    | with_reducible refine yF_bif ?_
    | with_reducible refine yF_ite ?_ ?_
    | with_reducible refine yF_bindI (V := w_f144_figure) (I0 := I) (frl_f144_figure_L4  _ _) ?_ ?_ ?_
    | with_reducible refine yF_bindI (V := w_f144_figure) (I0 := I) (fr_f140_wrong _) ?_ ?_ ?_
    | with_reducible refine yF_bindI (V := w_f144_figure) (I0 := I) (fr_f141_addStep _ _ _) ?_ ?_ ?_
    | with_reducible refine yF_bind0 ?_
    | with_reducible intro _
    | dsimp only)
def w_F145 : List Nat := [7320, 7321, 7322, 7323, 8699, 8799]
abbrev yrc_F145 (rc : (((Nat → Nat → Int32) → Option (Nat → Nat → Int32)) × ((Nat → Nat → Int32) → Option (Nat → Nat → Int32)) × ((Nat → Nat → Int32) → Option (Nat → Nat → Int32)) × ((Nat → Nat → Int32) → Option (Nat → Nat → Int32)) × ((Nat → Nat → Int32) → Option (Nat → Nat → Int32)) × ((Nat → Nat → Int32) → Option (Nat → Nat → Int32)))) : Prop := (∀ I, yF (rc.1 I) (fun x => yfr w_F145 I x)) ∧ (∀ I, yF (rc.2.1 I) (fun x => yfr w_F145 I x)) ∧ (∀ I, yF (rc.2.2.1 I) (fun x => yfr w_F145 I x)) ∧ (∀ I, yF (rc.2.2.2.1 I) (fun x => yfr w_F145 I x)) ∧ (∀ I, yF (rc.2.2.2.2.1 I) (fun x => yfr w_F145 I x)) ∧ (∀ I, yF (rc.2.2.2.2.2 I) (fun x => yfr w_F145 I x))
def w_f146_product_L4 : List Nat := [7320, 7321, 7322, 7323, 8699, 8799]
set_option maxRecDepth 10000 in
set_option maxHeartbeats 4000000 in
theorem fr_f146_product_L4 (rc : (((Nat → Nat → Int32) → Option (Nat → Nat → Int32)) × ((Nat → Nat → Int32) → Option (Nat → Nat → Int32)) × ((Nat → Nat → Int32) → Option (Nat → Nat → Int32)) × ((Nat → Nat → Int32) → Option (Nat → Nat → Int32)) × ((Nat → Nat → Int32) → Option (Nat → Nat → Int32)) × ((Nat → Nat → Int32) → Option (Nat → Nat → Int32)))) (s : (Nat → Nat → Int32)) (hrc : yrc_F145 rc) : yF (f146_product_L4 rc s) (fun y => match y with
    | .inl x => yfr w_f146_product_L4 s x
    | .inr x => yfr w_f146_product_L4 s x) := by
  unfold f146_product_L4
  have h0 : yfr w_f146_product_L4 s s := yfr_refl _
  repeat' (first
    | with_reducible refine yfr_zu ?_ ?_
    | with_reducible refine yfr_zcp (fun _ => rfl) ?_
    | with_reducible assumption
    | with_reducible exact yfr_refl _
    | exact (rfl : (_ : Bool) = true)
    | with_reducible exact yF_none
    | with_reducible refine yF_some ?_
    | exact yrow0 (by assumption) ⟨rfl, rfl, rfl, rfl⟩
    | with_reducible refine yF_bif ?_
    | with_reducible refine yF_ite ?_ ?_
    | with_reducible refine yF_bindI (V := w_f146_product_L4) (I0 := s) (hrc.1 _) ?_ ?_ ?_
    | with_reducible refine yF_bindI (V := w_f146_product_L4) (I0 := s) (hrc.2.1 _) ?_ ?_ ?_
    | with_reducible refine yF_bindI (V := w_f146_product_L4) (I0 := s) (hrc.2.2.1 _) ?_ ?_ ?_
    | with_reducible refine yF_bindI (V := w_f146_product_L4) (I0 := s) (hrc.2.2.2.1 _) ?_ ?_ ?_
    | with_reducible refine yF_bindI (V := w_f146_product_L4) (I0 := s) (hrc.2.2.2.2.1 _) ?_ ?_ ?_
    | with_reducible refine yF_bindI (V := w_f146_product_L4) (I0 := s) (hrc.2.2.2.2.2 _) ?_ ?_ ?_
    | with_reducible refine yF_bindI (V := w_f146_product_L4) (I0 := s) (fr_f141_addStep _ _ _) ?_ ?_ ?_
    | with_reducible refine yF_bind0 ?_
    | with_reducible intro _
    | dsimp only)
theorem frl_f146_product_L4 (rc : (((Nat → Nat → Int32) → Option (Nat → Nat → Int32)) × ((Nat → Nat → Int32) → Option (Nat → Nat → Int32)) × ((Nat → Nat → Int32) → Option (Nat → Nat → Int32)) × ((Nat → Nat → Int32) → Option (Nat → Nat → Int32)) × ((Nat → Nat → Int32) → Option (Nat → Nat → Int32)) × ((Nat → Nat → Int32) → Option (Nat → Nat → Int32)))) (hrc : yrc_F145 rc) (n : Nat) (s : (Nat → Nat → Int32)) : yF (zloop (f146_product_L4 rc) n s) (fun x => yfr w_f146_product_L4 s x) :=
  yF_loop (R := fun a b => yfr w_f146_product_L4 a b) (fun _ => yfr_refl _) (fun a b c h1 h2 => yfr_trans a b c h1 h2) (fun s y hy => by
    have h := fr_f146_product_L4 rc s hrc y hy
    rcases y with y | y
    · exact h
    · exact h) n s
def w_f147_sum_L4 : List Nat := [7320, 7321, 7322, 7323, 8699, 8799]
set_option maxRecDepth 10000 in
set_option maxHeartbeats 4000000 in
theorem fr_f147_sum_L4 (rc : (((Nat → Nat → Int32) → Option (Nat → Nat → Int32)) × ((Nat → Nat → Int32) → Option (Nat → Nat → Int32)) × ((Nat → Nat → Int32) → Option (Nat → Nat → Int32)) × ((Nat → Nat → Int32) → Option (Nat → Nat → Int32)) × ((Nat → Nat → Int32) → Option (Nat → Nat → Int32)) × ((Nat → Nat → Int32) → Option (Nat → Nat → Int32)))) (s : (Nat → Nat → Int32)) (hrc : yrc_F145 rc) : yF (f147_sum_L4 rc s) (fun y => match y with
    | .inl x => yfr w_f147_sum_L4 s x
    | .inr x => yfr w_f147_sum_L4 s x) := by
  unfold f147_sum_L4
  have h0 : yfr w_f147_sum_L4 s s := yfr_refl _
  repeat' (first
    | with_reducible refine yfr_zu ?_ ?_
    | with_reducible refine yfr_zcp (fun _ => rfl) ?_
    | with_reducible assumption
    | with_reducible exact yfr_refl _
    | exact (rfl : (_ : Bool) = true)
    | with_reducible exact yF_none
    | with_reducible refine yF_some ?_
    | exact yrow0 (by assumption) ⟨rfl, rfl, rfl, rfl⟩
    | with_reducible refine yF_bif ?_
    | with_reducible refine yF_ite ?_ ?_
    | with_reducible refine yF_bindI (V := w_f147_sum_L4) (I0 := s) (hrc.1 _) ?_ ?_ ?_
    | with_reducible refine yF_bindI (V := w_f147_sum_L4) (I0 := s) (hrc.2.1 _) ?_ ?_ ?_
    | with_reducible refine yF_bindI (V := w_f147_sum_L4) (I0 := s) (hrc.2.2.1 _) ?_ ?_ ?_
    | with_reducible refine yF_bindI (V := w_f147_sum_L4) (I0 := s) (hrc.2.2.2.1 _) ?_ ?_ ?_
    | with_reducible refine yF_bindI (V := w_f147_sum_L4) (I0 := s) (hrc.2.2.2.2.1 _) ?_ ?_ ?_
    | with_reducible refine yF_bindI (V := w_f147_sum_L4) (I0 := s) (hrc.2.2.2.2.2 _) ?_ ?_ ?_
    | with_reducible refine yF_bindI (V := w_f147_sum_L4) (I0 := s) (fr_f141_addStep _ _ _) ?_ ?_ ?_
    | with_reducible refine yF_bind0 ?_
    | with_reducible intro _
    | dsimp only)
theorem frl_f147_sum_L4 (rc : (((Nat → Nat → Int32) → Option (Nat → Nat → Int32)) × ((Nat → Nat → Int32) → Option (Nat → Nat → Int32)) × ((Nat → Nat → Int32) → Option (Nat → Nat → Int32)) × ((Nat → Nat → Int32) → Option (Nat → Nat → Int32)) × ((Nat → Nat → Int32) → Option (Nat → Nat → Int32)) × ((Nat → Nat → Int32) → Option (Nat → Nat → Int32)))) (hrc : yrc_F145 rc) (n : Nat) (s : (Nat → Nat → Int32)) : yF (zloop (f147_sum_L4 rc) n s) (fun x => yfr w_f147_sum_L4 s x) :=
  yF_loop (R := fun a b => yfr w_f147_sum_L4 a b) (fun _ => yfr_refl _) (fun a b c h1 h2 => yfr_trans a b c h1 h2) (fun s y hy => by
    have h := fr_f147_sum_L4 rc s hrc y hy
    rcases y with y | y
    · exact h
    · exact h) n s
def w_f149_both_L4 : List Nat := [7320, 7321, 7322, 7323, 8699, 8799]
set_option maxRecDepth 10000 in
set_option maxHeartbeats 4000000 in
theorem fr_f149_both_L4 (rc : (((Nat → Nat → Int32) → Option (Nat → Nat → Int32)) × ((Nat → Nat → Int32) → Option (Nat → Nat → Int32)) × ((Nat → Nat → Int32) → Option (Nat → Nat → Int32)) × ((Nat → Nat → Int32) → Option (Nat → Nat → Int32)) × ((Nat → Nat → Int32) → Option (Nat → Nat → Int32)) × ((Nat → Nat → Int32) → Option (Nat → Nat → Int32)))) (s : (Nat → Nat → Int32)) (hrc : yrc_F145 rc) : yF (f149_both_L4 rc s) (fun y => match y with
    | .inl x => yfr w_f149_both_L4 s x
    | .inr x => yfr w_f149_both_L4 s x) := by
  unfold f149_both_L4
  have h0 : yfr w_f149_both_L4 s s := yfr_refl _
  repeat' (first
    | with_reducible refine yfr_zu ?_ ?_
    | with_reducible refine yfr_zcp (fun _ => rfl) ?_
    | with_reducible assumption
    | with_reducible exact yfr_refl _
    | exact (rfl : (_ : Bool) = true)
    | with_reducible exact yF_none
    | with_reducible refine yF_some ?_
    | exact yrow0 (by assumption) ⟨rfl, rfl, rfl, rfl⟩
    | with_reducible refine yF_bif ?_
    | with_reducible refine yF_ite ?_ ?_
    | with_reducible refine yF_bindI (V := w_f149_both_L4) (I0 := s) (hrc.1 _) ?_ ?_ ?_
    | with_reducible refine yF_bindI (V := w_f149_both_L4) (I0 := s) (hrc.2.1 _) ?_ ?_ ?_
    | with_reducible refine yF_bindI (V := w_f149_both_L4) (I0 := s) (hrc.2.2.1 _) ?_ ?_ ?_
    | with_reducible refine yF_bindI (V := w_f149_both_L4) (I0 := s) (hrc.2.2.2.1 _) ?_ ?_ ?_
    | with_reducible refine yF_bindI (V := w_f149_both_L4) (I0 := s) (hrc.2.2.2.2.1 _) ?_ ?_ ?_
    | with_reducible refine yF_bindI (V := w_f149_both_L4) (I0 := s) (hrc.2.2.2.2.2 _) ?_ ?_ ?_
    | with_reducible refine yF_bindI (V := w_f149_both_L4) (I0 := s) (fr_f141_addStep _ _ _) ?_ ?_ ?_
    | with_reducible refine yF_bind0 ?_
    | with_reducible intro _
    | dsimp only)
theorem frl_f149_both_L4 (rc : (((Nat → Nat → Int32) → Option (Nat → Nat → Int32)) × ((Nat → Nat → Int32) → Option (Nat → Nat → Int32)) × ((Nat → Nat → Int32) → Option (Nat → Nat → Int32)) × ((Nat → Nat → Int32) → Option (Nat → Nat → Int32)) × ((Nat → Nat → Int32) → Option (Nat → Nat → Int32)) × ((Nat → Nat → Int32) → Option (Nat → Nat → Int32)))) (hrc : yrc_F145 rc) (n : Nat) (s : (Nat → Nat → Int32)) : yF (zloop (f149_both_L4 rc) n s) (fun x => yfr w_f149_both_L4 s x) :=
  yF_loop (R := fun a b => yfr w_f149_both_L4 a b) (fun _ => yfr_refl _) (fun a b c h1 h2 => yfr_trans a b c h1 h2) (fun s y hy => by
    have h := fr_f149_both_L4 rc s hrc y hy
    rcases y with y | y
    · exact h
    · exact h) n s
def w_f150_either_L4 : List Nat := [7320, 7321, 7322, 7323, 8699, 8799]
set_option maxRecDepth 10000 in
set_option maxHeartbeats 4000000 in
theorem fr_f150_either_L4 (rc : (((Nat → Nat → Int32) → Option (Nat → Nat → Int32)) × ((Nat → Nat → Int32) → Option (Nat → Nat → Int32)) × ((Nat → Nat → Int32) → Option (Nat → Nat → Int32)) × ((Nat → Nat → Int32) → Option (Nat → Nat → Int32)) × ((Nat → Nat → Int32) → Option (Nat → Nat → Int32)) × ((Nat → Nat → Int32) → Option (Nat → Nat → Int32)))) (s : (Nat → Nat → Int32)) (hrc : yrc_F145 rc) : yF (f150_either_L4 rc s) (fun y => match y with
    | .inl x => yfr w_f150_either_L4 s x
    | .inr x => yfr w_f150_either_L4 s x) := by
  unfold f150_either_L4
  have h0 : yfr w_f150_either_L4 s s := yfr_refl _
  repeat' (first
    | with_reducible refine yfr_zu ?_ ?_
    | with_reducible refine yfr_zcp (fun _ => rfl) ?_
    | with_reducible assumption
    | with_reducible exact yfr_refl _
    | exact (rfl : (_ : Bool) = true)
    | with_reducible exact yF_none
    | with_reducible refine yF_some ?_
    | exact yrow0 (by assumption) ⟨rfl, rfl, rfl, rfl⟩
    | with_reducible refine yF_bif ?_
    | with_reducible refine yF_ite ?_ ?_
    | with_reducible refine yF_bindI (V := w_f150_either_L4) (I0 := s) (hrc.1 _) ?_ ?_ ?_
    | with_reducible refine yF_bindI (V := w_f150_either_L4) (I0 := s) (hrc.2.1 _) ?_ ?_ ?_
    | with_reducible refine yF_bindI (V := w_f150_either_L4) (I0 := s) (hrc.2.2.1 _) ?_ ?_ ?_
    | with_reducible refine yF_bindI (V := w_f150_either_L4) (I0 := s) (hrc.2.2.2.1 _) ?_ ?_ ?_
    | with_reducible refine yF_bindI (V := w_f150_either_L4) (I0 := s) (hrc.2.2.2.2.1 _) ?_ ?_ ?_
    | with_reducible refine yF_bindI (V := w_f150_either_L4) (I0 := s) (hrc.2.2.2.2.2 _) ?_ ?_ ?_
    | with_reducible refine yF_bindI (V := w_f150_either_L4) (I0 := s) (fr_f141_addStep _ _ _) ?_ ?_ ?_
    | with_reducible refine yF_bind0 ?_
    | with_reducible intro _
    | dsimp only)
theorem frl_f150_either_L4 (rc : (((Nat → Nat → Int32) → Option (Nat → Nat → Int32)) × ((Nat → Nat → Int32) → Option (Nat → Nat → Int32)) × ((Nat → Nat → Int32) → Option (Nat → Nat → Int32)) × ((Nat → Nat → Int32) → Option (Nat → Nat → Int32)) × ((Nat → Nat → Int32) → Option (Nat → Nat → Int32)) × ((Nat → Nat → Int32) → Option (Nat → Nat → Int32)))) (hrc : yrc_F145 rc) (n : Nat) (s : (Nat → Nat → Int32)) : yF (zloop (f150_either_L4 rc) n s) (fun x => yfr w_f150_either_L4 s x) :=
  yF_loop (R := fun a b => yfr w_f150_either_L4 a b) (fun _ => yfr_refl _) (fun a b c h1 h2 => yfr_trans a b c h1 h2) (fun s y hy => by
    have h := fr_f150_either_L4 rc s hrc y hy
    rcases y with y | y
    · exact h
    · exact h) n s
def w_bf145_operand : List Nat := [7320, 7321, 7322, 7323, 8699, 8799]
set_option maxRecDepth 10000 in
set_option maxHeartbeats 4000000 in
theorem fr_bf145_operand (rc : (((Nat → Nat → Int32) → Option (Nat → Nat → Int32)) × ((Nat → Nat → Int32) → Option (Nat → Nat → Int32)) × ((Nat → Nat → Int32) → Option (Nat → Nat → Int32)) × ((Nat → Nat → Int32) → Option (Nat → Nat → Int32)) × ((Nat → Nat → Int32) → Option (Nat → Nat → Int32)) × ((Nat → Nat → Int32) → Option (Nat → Nat → Int32)))) (I : (Nat → Nat → Int32)) (hrc : yrc_F145 rc) : yF (bf145_operand rc I) (fun x => yfr w_bf145_operand I x) := by
  unfold bf145_operand
  have h0 : yfr w_bf145_operand I I := yfr_refl _
  repeat' (first
    | with_reducible refine yfr_zu ?_ ?_
    | with_reducible refine yfr_zcp (fun _ => rfl) ?_
    | with_reducible assumption
    | with_reducible exact yfr_refl _
    | exact (rfl : (_ : Bool) = true)
    | with_reducible exact yF_none
    | with_reducible refine yF_some ?_
    | exact yrow0 (by assumption) ⟨rfl, rfl, rfl, rfl⟩
    | with_reducible refine yF_bif ?_
    | with_reducible refine yF_ite ?_ ?_
    | with_reducible refine yF_bindI (V := w_bf145_operand) (I0 := I) (hrc.1 _) ?_ ?_ ?_
    | with_reducible refine yF_bindI (V := w_bf145_operand) (I0 := I) (hrc.2.1 _) ?_ ?_ ?_
    | with_reducible refine yF_bindI (V := w_bf145_operand) (I0 := I) (hrc.2.2.1 _) ?_ ?_ ?_
    | with_reducible refine yF_bindI (V := w_bf145_operand) (I0 := I) (hrc.2.2.2.1 _) ?_ ?_ ?_
    | with_reducible refine yF_bindI (V := w_bf145_operand) (I0 := I) (hrc.2.2.2.2.1 _) ?_ ?_ ?_
    | with_reducible refine yF_bindI (V := w_bf145_operand) (I0 := I) (hrc.2.2.2.2.2 _) ?_ ?_ ?_
    | with_reducible refine yF_bindI (V := w_bf145_operand) (I0 := I) (fr_f143_opens _) ?_ ?_ ?_
    | with_reducible refine yF_bindI (V := w_bf145_operand) (I0 := I) (fr_f141_addStep _ _ _) ?_ ?_ ?_
    | with_reducible refine yF_bindI (V := w_bf145_operand) (I0 := I) (fr_f140_wrong _) ?_ ?_ ?_
    | with_reducible refine yF_bindI (V := w_bf145_operand) (I0 := I) (fr_f144_figure _) ?_ ?_ ?_
    | with_reducible refine yF_bind0 ?_
    | with_reducible intro _
    | dsimp only)
