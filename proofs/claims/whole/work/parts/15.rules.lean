/-- the objects as the two constructors leave them -/
def SH : List zSh := [(17, 8, [some 1, some 15, some 24, some 38, some 52, some 57, some 60, none]), (15, 19, [none, none, none, none, none, none, some 2, some 3, some 4, some 5, some 6, some 7, some 8, some 9, some 10, some 11, some 12, some 13, some 14]), (0, 4, []), (0, 4, []), (0, 12, []), (0, 12, []), (0, 12, []), (0, 12, []), (0, 8, []), (0, 8, []), (0, 8, []), (0, 8, []), (0, 8, []), (0, 16, []), (0, 16, []), (12, 8, [some 16, some 17, some 22, some 23, none, none, none, none]), (0, 120, []), (5, 4, [some 18, some 19, some 20, some 21]), (0, 121, []), (0, 121, []), (0, 121, []), (0, 121, []), (0, 4, []), (0, 64, []), (13, 20, [some 1, some 15, some 25, some 28, some 29, some 30, some 31, some 32, some 33, some 34, some 35, some 36, none, none, none, some 37, none, none, none, none]), (16, 9, [none, none, none, none, none, none, none, some 26, some 27]), (0, 8, []), (0, 8, []), (0, 32, []), (0, 32, []), (0, 32, []), (0, 4, []), (0, 1952, []), (0, 1952, []), (0, 240, []), (0, 24, []), (0, 8, []), (0, 4, []), (13, 20, [some 1, some 15, some 39, some 42, some 43, some 44, some 45, some 46, some 47, some 48, some 49, some 50, none, none, none, some 51, none, none, none, none]), (16, 9, [none, none, none, none, none, none, none, some 40, some 41]), (0, 8, []), (0, 8, []), (0, 32, []), (0, 32, []), (0, 32, []), (0, 4, []), (0, 1952, []), (0, 1952, []), (0, 240, []), (0, 24, []), (0, 8, []), (0, 4, []), (11, 6, [some 53, some 54, some 55, some 56, none, none]), (0, 40, []), (0, 40, []), (0, 40, []), (0, 40, []), (10, 6, [some 58, some 59, none, none, none, none]), (0, 50, []), (0, 24, []), (4, 6, [some 61, some 63, some 65, some 67, some 69, some 71]), (14, 4, [none, none, none, some 62]), (3, 60, []), (14, 4, [none, none, none, some 64]), (3, 60, []), (14, 4, [none, none, none, some 66]), (3, 60, []), (14, 4, [none, none, none, some 68]), (3, 60, []), (14, 4, [none, none, none, some 70]), (3, 60, []), (14, 4, [none, none, none, some 72]), (3, 60, []), (18, 74, [none, none, some 74, some 75, none, some 76, some 77, some 78, some 79, none, some 80, some 81, some 82, some 83, some 84, none, none, none, some 85, none, none, none, none, none, some 86, some 87, some 88, some 89, some 90, some 91, some 92, none, none, none, some 93, some 94, some 95, some 96, some 97, some 98, some 99, some 100, some 101, some 102, some 103, none, none, none, none, none, none, none, none, none, none, none, none, none, none, none, none, none, some 104, some 105, some 106, some 107, none, some 108, none, some 109, some 110, some 111, some 112, some 113]), (0, 4, []), (0, 4, []), (0, 12, []), (0, 12, []), (0, 12, []), (0, 12, []), (0, 8, []), (0, 8, []), (0, 8, []), (0, 8, []), (0, 8, []), (1, 120, []), (1, 650, []), (0, 650, []), (0, 5, []), (2, 305, []), (2, 305, []), (0, 8, []), (0, 130, []), (0, 40, []), (0, 40, []), (0, 40, []), (0, 40, []), (0, 32, []), (0, 32, []), (0, 4864, []), (0, 1952, []), (0, 240, []), (0, 24, []), (0, 4, []), (0, 1952, []), (0, 4, []), (0, 4, []), (0, 8, []), (0, 50, []), (0, 24, []), (0, 6, []), (0, 6, []), (3, 360, []), (3, 60, [])]
abbrev zMem (I : Nat → Nat → Int32) (J : Nat → Nat → Int64) : zM := (SH, I, J)
def zIsShelf (a : Nat) : Prop := a = 61 ∨ a = 63 ∨ a = 65 ∨ a = 67 ∨ a = 69 ∨ a = 71
def zIsRow (a : Nat) : Prop := a = 18 ∨ a = 19 ∨ a = 20 ∨ a = 21
section ZRULES
variable {X : zX} {d m pc : Nat} {ls : zLs} {st : List Value} {M M' : zM} {r : Option Value} {I : Nat → Nat → Int32} {J : Nat → Nat → Int64}
theorem zcpok_d {sp dp n : Int32} {na nb : Nat} (h : zcpok sp dp n na nb = true) : ((((decide (sp < 0) = false ∧ decide (dp < 0) = false) ∧ decide (n < 0) = false) ∧ Nat.ble (sp.toNatClampNeg + n.toNatClampNeg) na = true) ∧ Nat.ble (dp.toNatClampNeg + n.toNatClampNeg) nb = true) := by
  unfold zcpok at h
  obtain ⟨h, h5⟩ := zband h
  obtain ⟨h, h4⟩ := zband h
  obtain ⟨h, h3⟩ := zband h
  obtain ⟨h1, h2⟩ := zband h
  exact ⟨⟨⟨⟨by simpa using h1, by simpa using h2⟩, by simpa using h3⟩, h4⟩, h5⟩
theorem zR_copy {a b na nb : Nat} {sp dp n : Int32} {rest : List Value} (ha : Nat.blt a 1000 = true) (hb : Nat.blt b 1000 = true) (ka : zsh (zMem I J) a = (0, na, [])) (kb : zsh (zMem I J) b = (0, nb, [])) (hc : zcpok sp dp n na nb = true) (hr : Nat.ble (zcats rest) 8 = true) (w : zRun X d m (pc + 3) ls rest (SH, zcp I a b sp dp n, J) r M') :
    zRunR X d m ls (zMem I J) (zcopy pc ls (.int n :: .int dp :: .ref b :: .int sp :: .ref a :: rest) (zMem I J)) r M' := by
  obtain ⟨⟨⟨⟨h1, h2⟩, h3⟩, h4⟩, h5⟩ := zcpok_d hc
  have e1 : zkd (zMem I J) a = 0 := by unfold zkd; rw [ka]
  have e2 : zkd (zMem I J) b = 0 := by unfold zkd; rw [kb]
  have e3 : zln (zMem I J) a = na := by unfold zln; rw [ka]
  have e4 : zln (zMem I J) b = nb := by unfold zln; rw [kb]
  unfold zcopy
  dsimp only
  rw [ha, hb, e1, e2, h1, h2, h3, e3, e4, h4, h5, hr]
  exact w
theorem zR_copyj {a b na nb : Nat} {sp dp n : Int32} {rest : List Value} (ha : Nat.blt a 1000 = true) (hb : Nat.blt b 1000 = true) (ka : zsh (zMem I J) a = (3, na, [])) (kb : zsh (zMem I J) b = (3, nb, [])) (hc : zcpok sp dp n na nb = true) (hr : Nat.ble (zcats rest) 8 = true) (w : zRun X d m (pc + 3) ls rest (SH, I, zcpj J a b sp dp n) r M') :
    zRunR X d m ls (zMem I J) (zcopy pc ls (.int n :: .int dp :: .ref b :: .int sp :: .ref a :: rest) (zMem I J)) r M' := by
  obtain ⟨⟨⟨⟨h1, h2⟩, h3⟩, h4⟩, h5⟩ := zcpok_d hc
  have e1 : zkd (zMem I J) a = 3 := by unfold zkd; rw [ka]
  have e2 : zkd (zMem I J) b = 3 := by unfold zkd; rw [kb]
  have e3 : zln (zMem I J) a = na := by unfold zln; rw [ka]
  have e4 : zln (zMem I J) b = nb := by unfold zln; rw [kb]
  unfold zcopy
  dsimp only
  rw [ha, hb, e1, e2, h1, h2, h3, e3, e4, h4, h5, hr]
  exact w
theorem sh_sh {a : Nat} (h : zIsShelf a) : zsh (zMem I J) a = (14, 4, [none, none, none, some (a + 1)]) := by
  rcases h with rfl | rfl | rfl | rfl | rfl | rfl <;> rfl
theorem sh_lt {a : Nat} (h : zIsShelf a) : Nat.blt a 1000 = true := by
  rcases h with rfl | rfl | rfl | rfl | rfl | rfl <;> rfl
theorem sh_el {a : Nat} (h : zIsShelf a) : zsh (zMem I J) (a + 1) = (3, 60, []) := by
  rcases h with rfl | rfl | rfl | rfl | rfl | rfl <;> rfl
theorem sh_lt1 {a : Nat} (h : zIsShelf a) : Nat.blt (a + 1) 1000 = true := by
  rcases h with rfl | rfl | rfl | rfl | rfl | rfl <;> rfl
theorem sh_in {i : Int32} (h : zin i 6 = true) : i.toNatClampNeg = 0 ∨ i.toNatClampNeg = 1 ∨ i.toNatClampNeg = 2 ∨ i.toNatClampNeg = 3 ∨ i.toNatClampNeg = 4 ∨ i.toNatClampNeg = 5 := by
  have := zin_lt h; omega
theorem sh_is {i : Int32} (h : zin i 6 = true) : zIsShelf (zshelf i) := by
  unfold zIsShelf zshelf
  have := zin_lt h; omega
theorem sh_at {i : Int32} (h : zin i 6 = true) : zri (zMem I J) 60 i.toNatClampNeg = some (zshelf i) := by
  unfold zshelf
  rcases sh_in h with e | e | e | e | e | e <;> rw [e] <;> rfl
theorem ro_is {i : Int32} (h : zin i 4 = true) : zIsRow (zrow0 i) := by
  unfold zIsRow zrow0
  have := zin_lt h; omega
theorem ro_at {i : Int32} (h : zin i 4 = true) : zri (zMem I J) 17 i.toNatClampNeg = some (zrow0 i) := by
  have h4 : i.toNatClampNeg = 0 ∨ i.toNatClampNeg = 1 ∨ i.toNatClampNeg = 2 ∨ i.toNatClampNeg = 3 := by have := zin_lt h; omega
  unfold zrow0
  rcases h4 with e | e | e | e <;> rw [e] <;> rfl
theorem ro_sh {a : Nat} (h : zIsRow a) : zsh (zMem I J) a = (0, 121, []) := by
  rcases h with rfl | rfl | rfl | rfl <;> rfl
theorem ro_lt {a : Nat} (h : zIsRow a) : Nat.blt a 1000 = true := by
  rcases h with rfl | rfl | rfl | rfl <;> rfl
/-- fields of a shelf: 0 body, 1 sort, 2 size, 3 elements -/
theorem sR_get {a k : Nat} {rest : List Value} (h : zIsShelf a) (hk : k < 3) (w : zRun X d m (pc + 3) ls (.int (I a k) :: rest) (zMem I J) r M') : zRunR X d m ls (zMem I J) (zfget pc 4 k ls (.ref a :: rest) (zMem I J)) r M' := by
  have e1 : zkd (zMem I J) a = 14 := by unfold zkd; rw [sh_sh h]
  have hk3 : k = 0 ∨ k = 1 ∨ k = 2 := by omega
  unfold zfget
  dsimp only
  rw [sh_lt h, e1]
  rcases hk3 with rfl | rfl | rfl <;> exact w
theorem sR_gete {a : Nat} {rest : List Value} (h : zIsShelf a) (w : zRun X d m (pc + 3) ls (.ref (a + 1) :: rest) (zMem I J) r M') : zRunR X d m ls (zMem I J) (zfget pc 4 3 ls (.ref a :: rest) (zMem I J)) r M' := by
  have e1 : zkd (zMem I J) a = 14 := by unfold zkd; rw [sh_sh h]
  have e2 : zri (zMem I J) a 3 = some (a + 1) := by unfold zri; rw [sh_sh h]; rfl
  unfold zfget
  dsimp only
  rw [sh_lt h, e1]
  show zRunR X d m ls (zMem I J) (zrefr (pc + 3) ls rest (zMem I J) (zri (zMem I J) a 3)) r M'
  exact zR_ref e2 w
theorem sR_put {a k : Nat} {x : Int32} {rest : List Value} (h : zIsShelf a) (hk : k < 3) (w : zRun X d m (pc + 3) ls rest (SH, zu I a k x, J) r M') : zRunR X d m ls (zMem I J) (zfput m pc 4 k ls (.int x :: .ref a :: rest) (zMem I J)) r M' := by
  have e1 : zkd (zMem I J) a = 14 := by unfold zkd; rw [sh_sh h]
  have hk3 : k = 0 ∨ k = 1 ∨ k = 2 := by omega
  unfold zfput
  dsimp only
  rw [sh_lt h, e1]
  rcases hk3 with rfl | rfl | rfl <;> exact w
theorem sR_lald {a : Nat} {i : Int32} {rest : List Value} (h : zIsShelf a) (hi : zin i 60 = true) (w : zRun X d m (pc + 1) ls (.long (J (a + 1) i.toNatClampNeg) :: rest) (zMem I J) r M') : zRunR X d m ls (zMem I J) (zlald pc ls (.int i :: .ref (a + 1) :: rest) (zMem I J)) r M' := by
  have e1 : zkd (zMem I J) (a + 1) = 3 := by unfold zkd; rw [sh_el h]
  have e2 : zln (zMem I J) (a + 1) = 60 := by unfold zln; rw [sh_el h]
  unfold zlald
  dsimp only
  rw [sh_lt1 h, e1, e2, hi]
  exact w
theorem sR_last {a : Nat} {i : Int32} {x : Int64} {rest : List Value} (h : zIsShelf a) (hi : zin i 60 = true) (w : zRun X d m (pc + 1) ls rest (SH, I, zuj J (a + 1) i.toNatClampNeg x) r M') : zRunR X d m ls (zMem I J) (zlast pc ls (.long x :: .int i :: .ref (a + 1) :: rest) (zMem I J)) r M' := by
  have e1 : zkd (zMem I J) (a + 1) = 3 := by unfold zkd; rw [sh_el h]
  have e2 : zln (zMem I J) (a + 1) = 60 := by unfold zln; rw [sh_el h]
  unfold zlast
  dsimp only
  rw [sh_lt1 h, e1, e2, hi]
  exact w
theorem rR_ald {a : Nat} {i : Int32} {rest : List Value} (h : zIsRow a) (hi : zin i 121 = true) (w : zRun X d m (pc + 1) ls (.int (I a i.toNatClampNeg) :: rest) (zMem I J) r M') : zRunR X d m ls (zMem I J) (ziald X 0 pc ls (.int i :: .ref a :: rest) (zMem I J)) r M' := by
  have e1 : zkd (zMem I J) a = 0 := by unfold zkd; rw [ro_sh h]
  have e2 : zln (zMem I J) a = 121 := by unfold zln; rw [ro_sh h]
  unfold ziald
  dsimp only
  rw [ro_lt h, e1, e2, hi]
  exact w
theorem rR_ast {a : Nat} {i x : Int32} {rest : List Value} (h : zIsRow a) (hi : zin i 121 = true) (w : zRun X d m (pc + 1) ls rest (SH, zu I a i.toNatClampNeg x, J) r M') : zRunR X d m ls (zMem I J) (ziast 0 pc (fun x => x) ls (.int x :: .int i :: .ref a :: rest) (zMem I J)) r M' := by
  have e1 : zkd (zMem I J) a = 0 := by unfold zkd; rw [ro_sh h]
  have e2 : zln (zMem I J) a = 121 := by unfold zln; rw [ro_sh h]
  unfold ziast
  dsimp only
  rw [ro_lt h, e1, e2, hi]
  exact w
theorem sh_rcv {a y : Nat} {vs : List Value} (h : zIsShelf a) (hk : zkn y = 0) (ho : zoc y = 4) : zrcv (zMem I J) y (.ref a :: vs) = true := by
  have e1 : zkd (zMem I J) a = 14 := by unfold zkd; rw [sh_sh h]
  unfold zrcv
  rw [hk]
  dsimp only
  show (bif Nat.blt a 1000 then Nat.beq (zkd (zMem I J) a) (10 + zoc y) else _) = true
  rw [sh_lt h, e1, ho]
  rfl
end ZRULES
