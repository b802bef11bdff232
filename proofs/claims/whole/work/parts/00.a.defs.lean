/-! THE METHODS AS PURE FUNCTIONS over two memories I (ints) and J (longs): written by wip/whole/dec.py, laid ahead of all else by wip/whole/split.py -/
abbrev zX : Type := Nat × (Nat → Int32)
def zin (i : Int32) (n : Nat) : Bool := !(decide (i < 0)) && Nat.blt i.toNatClampNeg n
def zabove : List Int32 := [-1, 0, 0, 2, 1, 4, 0, 6]
def znames : List Int32 := [109, 107, 119, 113, 110, 102, 111, 104]
def zu (I : Nat → Nat → Int32) (a k : Nat) (x : Int32) : Nat → Nat → Int32 := va_up I a (upd (I a) k x)
def zuj (J : Nat → Nat → Int64) (a k : Nat) (x : Int64) : Nat → Nat → Int64 := va_up J a (vp_updL (J a) k x)
def zloop {σ : Type} (B : σ → Option (σ ⊕ σ)) : Nat → σ → Option σ
  | 0, _ => none
  | n + 1, s => match B s with
    | none => none
    | some (.inl x) => some x
    | some (.inr s') => zloop B n s'
def zloopR {σ ρ : Type} (B : σ → Option (ρ ⊕ (σ ⊕ σ))) : Nat → σ → Option (ρ ⊕ σ)
  | 0, _ => none
  | n + 1, s => match B s with
    | none => none
    | some (.inl x) => some (.inl x)
    | some (.inr (.inl x)) => some (.inr x)
    | some (.inr (.inr s')) => zloopR B n s'
def zmin (x y : Int32) : Int32 := if y < x then y else x
def zmax (x y : Int32) : Int32 := if x < y then y else x
def zcp (I : Nat → Nat → Int32) (a b : Nat) (sp dp n : Int32) : Nat → Nat → Int32 := va_up I b (va_cpy (I a) (I b) sp.toNatClampNeg dp.toNatClampNeg n.toNatClampNeg)
def zcpj (J : Nat → Nat → Int64) (a b : Nat) (sp dp n : Int32) : Nat → Nat → Int64 := va_up J b (va_cpy (J a) (J b) sp.toNatClampNeg dp.toNatClampNeg n.toNatClampNeg)
def zcpok (sp dp n : Int32) (na nb : Nat) : Bool := !(decide (sp < 0)) && !(decide (dp < 0)) && !(decide (n < 0)) && Nat.ble (sp.toNatClampNeg + n.toNatClampNeg) na && Nat.ble (dp.toNatClampNeg + n.toNatClampNeg) nb
def zshelf (i : Int32) : Nat := 61 + 2 * i.toNatClampNeg
def zrow0 (i : Int32) : Nat := 18 + i.toNatClampNeg
def zbR {ρ σ τ : Type} (o : Option (ρ ⊕ σ)) (f : ρ → Option τ) (k : σ → Option τ) : Option τ := match o with
  | none => none
  | some (.inl x) => f x
  | some (.inr s) => k s
def f126_within (v0 : Int32) (v1 : Int32) (v2 : Int32) : Option Int32 :=
  if v0 < v1 then
    some 0
  else
    if v2 < v0 then
      some 0
    else
      some 1
def f64_addSquare (v1 : Int32) (v2 : Int32) (I : (Nat → Nat → Int32)) : Option (Int32 × (Nat → Nat → Int32)) :=
  if (I 1 0) = 4 then
    some ((-3), I)
  else
    bif zin (I 1 0) 4 then
    bif zin (I 1 0) 4 then
    some ((((I 1 0) + 1) - 1), (zu (zu (zu I 2 (I 1 0).toNatClampNeg v1) 3 (I 1 0).toNatClampNeg v2) 1 0 ((I 1 0) + 1)))
    else none
    else none
def f86_square (v1 : Int32) (v2 : Int32) (I : (Nat → Nat → Int32)) : Option (Int32 × (Nat → Nat → Int32)) :=
  Option.bind (f126_within v1 0 999) fun t2 =>
  if t2 = 0 then
    some ((-1), I)
  else
    Option.bind (f126_within v2 0 2) fun t4 =>
    if t4 = 0 then
      some ((-1), I)
    else
      Option.bind (f64_addSquare v1 v2 I) fun t6 =>
      some (t6.1, t6.2)
def f129_in (v0 : Int32) (v1 : Int32) (v2 : Int32) : Option Int32 :=
  if v0 < v1 then
    some 0
  else
    if v2 < v0 then
      some 0
    else
      some 1
def f132_square (v1 : Int32) (v2 : Int32) (I : (Nat → Nat → Int32)) : Option (Int32 × (Nat → Nat → Int32)) :=
  Option.bind (f129_in v1 0 999) fun t2 =>
  if t2 = 0 then
    some ((-1), I)
  else
    Option.bind (f129_in v2 0 2) fun t4 =>
    if t4 = 0 then
      some ((-1), I)
    else
      if (I 73 1) = 4 then
        some ((-3), I)
      else
        bif zin (I 73 1) 4 then
        bif zin (I 73 1) 4 then
        some ((((I 73 1) + 1) - 1), (zu (zu (zu I 74 (I 73 1).toNatClampNeg v1) 75 (I 73 1).toNatClampNeg v2) 73 1 ((I 73 1) + 1)))
        else none
        else none
def f61_isSquare (v1 : Int32) (I : (Nat → Nat → Int32)) : Option Int32 :=
  if v1 < 0 then
    some 0
  else
    if (I 1 0) ≤ v1 then
      some 0
    else
      some 1
def f63_areTwoSquares (v1 : Int32) (I : (Nat → Nat → Int32)) : Option Int32 :=
  if v1 < 0 then
    some 0
  else
    Option.bind (f61_isSquare (v1 / 10) I) fun t2 =>
    if t2 = 0 then
      some 0
    else
      Option.bind (f61_isSquare (v1 - v1 / 10 * 10) I) fun t4 =>
      if t4 = 0 then
        some 0
      else
        if (v1 / 10) = (v1 - v1 / 10 * 10) then
          some 0
        else
          some 1
def f66_lay (v1 : Int32) (v2 : Int32) (I : (Nat → Nat → Int32)) : Option (Nat → Nat → Int32) :=
  bif zin ((v1 * 4) + v2) 16 then
  if (I 13 ((v1 * 4) + v2).toNatClampNeg) < 0 then
    bif zin ((v1 * 4) + v2) 16 then
    bif zin ((v1 * 4) + v2) 16 then
    bif zin (I 1 1) 12 then
    bif zin ((v1 * 4) + v2) 16 then
    some (zu (zu I 13 ((v1 * 4) + v2).toNatClampNeg (I 1 1)) 14 ((v1 * 4) + v2).toNatClampNeg (zmin (I 14 ((v1 * 4) + v2).toNatClampNeg) (I 6 (I 1 1).toNatClampNeg)))
    else none
    else none
    else none
    else none
  else
    bif zin (I 1 1) 12 then
    bif zin ((v1 * 4) + v2) 16 then
    bif zin (I 13 ((v1 * 4) + v2).toNatClampNeg) 12 then
    if (I 6 (I 13 ((v1 * 4) + v2).toNatClampNeg).toNatClampNeg) ≤ (I 6 (I 1 1).toNatClampNeg) then
      bif zin ((v1 * 4) + v2) 16 then
      bif zin (I 1 1) 12 then
      bif zin ((v1 * 4) + v2) 16 then
      some (zu I 14 ((v1 * 4) + v2).toNatClampNeg (zmin (I 14 ((v1 * 4) + v2).toNatClampNeg) (I 6 (I 1 1).toNatClampNeg)))
      else none
      else none
      else none
    else
      bif zin ((v1 * 4) + v2) 16 then
      bif zin ((v1 * 4) + v2) 16 then
      bif zin (I 1 1) 12 then
      bif zin ((v1 * 4) + v2) 16 then
      some (zu (zu I 13 ((v1 * 4) + v2).toNatClampNeg (I 1 1)) 14 ((v1 * 4) + v2).toNatClampNeg (zmin (I 14 ((v1 * 4) + v2).toNatClampNeg) (I 6 (I 1 1).toNatClampNeg)))
      else none
      else none
      else none
      else none
    else none
    else none
    else none
  else none
def f67_shorten_L9 (v1 : Int32) (s : (Int32 × (Nat → Nat → Int32))) : Option ((Int32 × (Nat → Nat → Int32)) ⊕ (Int32 × (Nat → Nat → Int32))) :=
  if (16 : Int32) ≤ s.1 then
    some (.inl (s.1, s.2))
  else
    bif zin (((s.1 / 4) * 4) + v1) 16 then
    bif zin ((v1 * 4) + (s.1 - s.1 / 4 * 4)) 16 then
    bif zin s.1 16 then
    bif zin s.1 16 then
    some (.inr ((s.1 + 1), (zu s.2 14 s.1.toNatClampNeg (zmin (s.2 14 s.1.toNatClampNeg) ((s.2 14 (((s.1 / 4) * 4) + v1).toNatClampNeg) + (s.2 14 ((v1 * 4) + (s.1 - s.1 / 4 * 4)).toNatClampNeg))))))
    else none
    else none
    else none
    else none
def f67_shorten_L2 (s : (Int32 × (Nat → Nat → Int32))) : Option ((Int32 × (Nat → Nat → Int32)) ⊕ (Int32 × (Nat → Nat → Int32))) :=
  if (4 : Int32) ≤ s.1 then
    some (.inl (s.1, s.2))
  else
    Option.bind (zloop (f67_shorten_L9 s.1) 5000 ((0 : Int32), s.2)) fun s6 =>
    some (.inr ((s.1 + 1), s6.2))
def f67_shorten (I : (Nat → Nat → Int32)) : Option (Nat → Nat → Int32) :=
  Option.bind (zloop f67_shorten_L2 5000 ((0 : Int32), I)) fun s9 =>
  some s9.2
def f65_addWay (v1 : Int32) (v2 : Int32) (v3 : Int32) (v4 : Int32) (I : (Nat → Nat → Int32)) : Option (Int32 × (Nat → Nat → Int32)) :=
  if (I 1 1) = 12 then
    some ((-3), I)
  else
    bif zin (I 1 1) 12 then
    bif zin (I 1 1) 12 then
    bif zin (I 1 1) 12 then
    bif zin (I 1 1) 12 then
    Option.bind (f66_lay v1 v2 (zu (zu (zu (zu I 4 (I 1 1).toNatClampNeg v1) 5 (I 1 1).toNatClampNeg v2) 6 (I 1 1).toNatClampNeg v3) 7 (I 1 1).toNatClampNeg v4)) fun t6 =>
    Option.bind (f66_lay v2 v1 t6) fun t8 =>
    Option.bind (f67_shorten t8) fun t10 =>
    some ((((t10 1 1) + 1) - 1), (zu t10 1 1 ((t10 1 1) + 1)))
    else none
    else none
    else none
    else none
def f87_way (v1 : Int32) (v2 : Int32) (v3 : Int32) (I : (Nat → Nat → Int32)) : Option (Int32 × (Nat → Nat → Int32)) :=
  Option.bind (f63_areTwoSquares v1 I) fun t2 =>
  if t2 = 0 then
    some ((-1), I)
  else
    Option.bind (f126_within v2 1 30) fun t4 =>
    if t4 = 0 then
      some ((-1), I)
    else
      Option.bind (f126_within v3 1 99) fun t6 =>
      if t6 = 0 then
        some ((-1), I)
      else
        Option.bind (f65_addWay (v1 / 10) (v1 - v1 / 10 * 10) v2 v3 I) fun t8 =>
        some (t8.1, t8.2)
def f130_isSquare (v1 : Int32) (I : (Nat → Nat → Int32)) : Option Int32 :=
  Option.bind (f129_in v1 0 ((I 73 1) - 1)) fun t2 =>
  if (t2 = 0 ∨ t2 = 1) then
    some t2
  else none
def f133_way (v1 : Int32) (v2 : Int32) (v3 : Int32) (I : (Nat → Nat → Int32)) : Option (Int32 × (Nat → Nat → Int32)) :=
  if v1 < 0 then
    some ((-1), I)
  else
    Option.bind (f130_isSquare (v1 / 10) I) fun t2 =>
    if t2 = 0 then
      some ((-1), I)
    else
      Option.bind (f130_isSquare (v1 - v1 / 10 * 10) I) fun t4 =>
      if t4 = 0 then
        some ((-1), I)
      else
        if (v1 / 10) = (v1 - v1 / 10 * 10) then
          some ((-1), I)
        else
          Option.bind (f129_in v2 1 30) fun t6 =>
          if t6 = 0 then
            some ((-1), I)
          else
            Option.bind (f129_in v3 1 99) fun t8 =>
            if t8 = 0 then
              some ((-1), I)
            else
              if (I 73 4) = 12 then
                some ((-3), I)
              else
                bif zin (I 73 4) 12 then
                bif zin (I 73 4) 12 then
                bif zin (I 73 4) 12 then
                bif zin (I 73 4) 12 then
                some ((((I 73 4) + 1) - 1), (zu (zu (zu (zu (zu I 76 (I 73 4).toNatClampNeg (v1 / 10)) 77 (I 73 4).toNatClampNeg (v1 - v1 / 10 * 10)) 78 (I 73 4).toNatClampNeg v2) 79 (I 73 4).toNatClampNeg v3) 73 4 ((I 73 4) + 1)))
                else none
                else none
                else none
                else none
def f68_addSort (v1 : Int32) (v2 : Int32) (v3 : Int32) (I : (Nat → Nat → Int32)) : Option (Int32 × (Nat → Nat → Int32)) :=
  if v1 < 0 then
    some ((-1), I)
  else
    if (200 : Int32) < (v1 / 10) then
      some ((-1), I)
    else
      if (1 : Int32) < (v1 - v1 / 10 * 10) then
        some ((-1), I)
      else
        if v3 < 0 then
          some ((-1), I)
        else
          if v3 < 4 then
            if v2 < 0 then
              some ((-1), I)
            else
              Option.bind (f61_isSquare (v2 / 10) I) fun t2 =>
              if t2 = 0 then
                some ((-1), I)
              else
                if (v2 - v2 / 10 * 10) < 1 then
                  some ((-1), I)
                else
                  if (v2 - v2 / 10 * 10) ≤ 3 then
                    if (I 1 2) = 8 then
                      some ((-3), I)
                    else
                      bif zin (I 1 2) 8 then
                      bif zin (I 1 2) 8 then
                      bif zin (I 1 2) 8 then
                      bif zin (I 1 2) 8 then
                      bif zin (I 1 2) 8 then
                      some ((((I 1 2) + 1) - 1), (zu (zu (zu (zu (zu (zu I 8 (I 1 2).toNatClampNeg (v1 / 10)) 9 (I 1 2).toNatClampNeg (v1 - v1 / 10 * 10)) 10 (I 1 2).toNatClampNeg (v2 / 10)) 11 (I 1 2).toNatClampNeg (v2 - v2 / 10 * 10)) 12 (I 1 2).toNatClampNeg v3) 1 2 ((I 1 2) + 1)))
                      else none
                      else none
                      else none
                      else none
                      else none
                  else
                    some ((-1), I)
          else
            some ((-1), I)
def f88_sort (v1 : Int32) (v2 : Int32) (v3 : Int32) (I : (Nat → Nat → Int32)) : Option (Int32 × (Nat → Nat → Int32)) :=
  Option.bind (f68_addSort v1 v2 v3 I) fun t2 =>
  some (t2.1, t2.2)
def f134_isSortSo (v1 : Int32) (v2 : Int32) (v3 : Int32) (I : (Nat → Nat → Int32)) : Option Int32 :=
  if v1 < 0 then
    some 0
  else
    if (200 : Int32) < (v1 / 10) then
      some 0
    else
      if (2 : Int32) ≤ (v1 - v1 / 10 * 10) then
        some 0
      else
        if v2 < 0 then
          some 0
        else
          Option.bind (f130_isSquare (v2 / 10) I) fun t2 =>
          if t2 = 0 then
            some 0
          else
            Option.bind (f129_in (v2 - v2 / 10 * 10) 1 3) fun t4 =>
            if t4 = 0 then
              some 0
            else
              Option.bind (f129_in v3 0 3) fun t6 =>
              if t6 = 0 then
                some 0
              else
                some 1
def f135_addSort (v1 : Int32) (v2 : Int32) (v3 : Int32) (I : (Nat → Nat → Int32)) : Option (Int32 × (Nat → Nat → Int32)) :=
  bif zin (I 73 9) 8 then
  bif zin (I 73 9) 8 then
  bif zin (I 73 9) 8 then
  bif zin (I 73 9) 8 then
  bif zin (I 73 9) 8 then
  some ((((I 73 9) + 1) - 1), (zu (zu (zu (zu (zu (zu I 80 (I 73 9).toNatClampNeg (v1 / 10)) 81 (I 73 9).toNatClampNeg (v1 - v1 / 10 * 10)) 82 (I 73 9).toNatClampNeg (v2 / 10)) 83 (I 73 9).toNatClampNeg (v2 - v2 / 10 * 10)) 84 (I 73 9).toNatClampNeg v3) 73 9 ((I 73 9) + 1)))
  else none
  else none
  else none
  else none
  else none
def f136_sort (v1 : Int32) (v2 : Int32) (v3 : Int32) (I : (Nat → Nat → Int32)) : Option (Int32 × (Nat → Nat → Int32)) :=
  Option.bind (f134_isSortSo v1 v2 v3 I) fun t2 =>
  if t2 = 0 then
    some ((-1), I)
  else
    if (I 73 9) = 8 then
      some ((-3), I)
    else
      Option.bind (f135_addSort v1 v2 v3 I) fun t4 =>
      some (t4.1, t4.2)
def f127_isShelf (v0 : Int32) : Option Int32 :=
  Option.bind (f126_within v0 0 5) fun t2 =>
  if (t2 = 0 ∨ t2 = 1) then
    some t2
  else none
def f51_isRow (v0 : Nat) (I : (Nat → Nat → Int32)) : Option Int32 :=
  if (I v0 1) = (-1) then
    some 0
  else
    some 1
def f52_isEmpty (v0 : Nat) (I : (Nat → Nat → Int32)) : Option Int32 :=
  if (0 : Int32) ≤ (I v0 0) then
    some 0
  else
    Option.bind (f51_isRow v0 I) fun t2 =>
    if t2 = 0 then
      some 1
    else
      some 0
def f55_refusal (v0 : Nat) (v1 : Int32) (I : (Nat → Nat → Int32)) : Option Int32 :=
  Option.bind (f52_isEmpty v0 I) fun t2 =>
  if t2 = 0 then
    Option.bind (f51_isRow v0 I) fun t4 =>
    if t4 = 0 then
      some (-12)
    else
      if v1 = (-1) then
        some 0
      else
        if v1 = (I v0 1) then
          some 0
        else
          some (-12)
  else
    some (-11)
def f56_hasPlaces (v0 : Nat) (v1 : Int32) (v2 : Int32) (I : (Nat → Nat → Int32)) : Option Int32 :=
  if v1 < 0 then
    some 0
  else
    if v2 < 0 then
      some 0
    else
      if (0 : Int32) < (lg_cmp (v1.toInt64 + v2.toInt64) (I v0 2).toInt64) then
        some 0
      else
        some 1
def f57_at (v0 : Nat) (v1 : Int32) (I : (Nat → Nat → Int32)) (J : (Nat → Nat → Int64)) : Option Int64 :=
  Option.bind (f56_hasPlaces v0 v1 1 I) fun t2 =>
  if t2 = 0 then
    some 0
  else
    bif zin v1 60 then
    some (J (v0 + 1) v1.toNatClampNeg)
    else none
def f90_sortsFrom_L3 (v1 : Nat) (v2 : Int32) (v3 : Int32) (J : (Nat → Nat → Int64)) (s : (Int32 × (Nat → Nat → Int32))) : Option ((Int32 × (Nat → Nat → Int32)) ⊕ ((Int32 × (Nat → Nat → Int32)) ⊕ (Int32 × (Nat → Nat → Int32)))) :=
  if v3 ≤ s.1 then
    some (.inr (.inl (s.1, s.2)))
  else
    if (lg_cmp ((v2.toInt64 + (3 * s.1.toInt64)) + 3) (s.2 v1 2).toInt64) ≤ 0 then
      Option.bind (f57_at v1 (v2.toInt64 + (3 * s.1.toInt64)).toInt32 s.2 J) fun t2 =>
      Option.bind (f57_at v1 ((v2.toInt64 + (3 * s.1.toInt64)).toInt32 + 1) s.2 J) fun t4 =>
      Option.bind (f57_at v1 ((v2.toInt64 + (3 * s.1.toInt64)).toInt32 + 2) s.2 J) fun t6 =>
      Option.bind (f68_addSort t2.toInt32 t4.toInt32 t6.toInt32 s.2) fun t8 =>
      if (0 : Int32) ≤ t8.1 then
        some (.inr (.inr ((s.1 + 1), t8.2)))
      else
        some (.inl (s.1, t8.2))
    else
      some (.inl (s.1, s.2))
def f90_sortsFrom (v1 : Nat) (v2 : Int32) (v3 : Int32) (I : (Nat → Nat → Int32)) (J : (Nat → Nat → Int64)) : Option (Int32 × (Nat → Nat → Int32)) :=
  zbR (zloopR (f90_sortsFrom_L3 v1 v2 v3 J) 5000 ((0 : Int32), I)) (fun rr => some rr) fun s12 =>
  some (v3, s12.2)
def f89_sorts (v1 : Int32) (v2 : Int32) (v3 : Int32) (I : (Nat → Nat → Int32)) (J : (Nat → Nat → Int64)) : Option (Int32 × (Nat → Nat → Int32)) :=
  Option.bind (f127_isShelf v1) fun t2 =>
  if t2 = 0 then
    some ((-1), I)
  else
    Option.bind (f126_within v3 1 8) fun t4 =>
    if t4 = 0 then
      some ((-1), I)
    else
      bif zin v1 6 then
      Option.bind (f55_refusal (zshelf v1) 1 I) fun t7 =>
      if t7 = (-12) then
        some (t7, I)
      else
        if t7 = 0 then
          if (0 : Int32) ≤ v2 then
            bif zin v1 6 then
            Option.bind (f90_sortsFrom (zshelf v1) v2 v3 I J) fun t10 =>
            some (t10.1, t10.2)
            else none
          else
            some (0, I)
        else
          some (0, I)
      else none
def f210_isShelf (v0 : Int32) : Option Int32 :=
  Option.bind (f129_in v0 0 5) fun t2 =>
  if (t2 = 0 ∨ t2 = 1) then
    some t2
  else none
def f137_sorts_L58 (v1 : Int32) (v2 : Int32) (v3 : Int32) (J : (Nat → Nat → Int64)) (s : (Int32 × (Nat → Nat → Int32))) : Option ((Int32 × (Nat → Nat → Int32)) ⊕ ((Int32 × (Nat → Nat → Int32)) ⊕ (Int32 × (Nat → Nat → Int32)))) :=
  if v3 ≤ s.1 then
    some (.inr (.inl (s.1, s.2)))
  else
    if (lg_cmp (v2.toInt64 + (3 * s.1).toInt64) 0) < 0 then
      some (.inl (s.1, s.2))
    else
      bif zin v1 6 then
      if (0 : Int32) ≤ (lg_cmp ((v2.toInt64 + (3 * s.1).toInt64) + 2) (s.2 111 v1.toNatClampNeg).toInt64) then
        some (.inl (s.1, s.2))
      else
        if (s.2 73 9) = 8 then
          some (.inl (s.1, s.2))
        else
          bif zin ((60 * v1) + (v2.toInt64 + (3 * s.1).toInt64).toInt32) 360 then
          bif zin (((60 * v1) + (v2.toInt64 + (3 * s.1).toInt64).toInt32) + 1) 360 then
          bif zin (((60 * v1) + (v2.toInt64 + (3 * s.1).toInt64).toInt32) + 2) 360 then
          Option.bind (f134_isSortSo (J 112 ((60 * v1) + (v2.toInt64 + (3 * s.1).toInt64).toInt32).toNatClampNeg).toInt32 (J 112 (((60 * v1) + (v2.toInt64 + (3 * s.1).toInt64).toInt32) + 1).toNatClampNeg).toInt32 (J 112 (((60 * v1) + (v2.toInt64 + (3 * s.1).toInt64).toInt32) + 2).toNatClampNeg).toInt32 s.2) fun t12 =>
          if t12 = 0 then
            some (.inl (s.1, s.2))
          else
            bif zin ((60 * v1) + (v2.toInt64 + (3 * s.1).toInt64).toInt32) 360 then
            bif zin (((60 * v1) + (v2.toInt64 + (3 * s.1).toInt64).toInt32) + 1) 360 then
            bif zin (((60 * v1) + (v2.toInt64 + (3 * s.1).toInt64).toInt32) + 2) 360 then
            Option.bind (f135_addSort (J 112 ((60 * v1) + (v2.toInt64 + (3 * s.1).toInt64).toInt32).toNatClampNeg).toInt32 (J 112 (((60 * v1) + (v2.toInt64 + (3 * s.1).toInt64).toInt32) + 1).toNatClampNeg).toInt32 (J 112 (((60 * v1) + (v2.toInt64 + (3 * s.1).toInt64).toInt32) + 2).toNatClampNeg).toInt32 s.2) fun t17 =>
            some (.inr (.inr ((s.1 + 1), t17.2)))
            else none
            else none
            else none
          else none
          else none
          else none
      else none
def f137_sorts (v1 : Int32) (v2 : Int32) (v3 : Int32) (I : (Nat → Nat → Int32)) (J : (Nat → Nat → Int64)) : Option (Int32 × (Nat → Nat → Int32)) :=
  Option.bind (f210_isShelf v1) fun t2 =>
  if t2 = 0 then
    some ((-1), I)
  else
    Option.bind (f129_in v3 1 8) fun t4 =>
    if t4 = 0 then
      some ((-1), I)
    else
      bif zin v1 6 then
      if (I 110 v1.toNatClampNeg) = (-1) then
        bif zin v1 6 then
        if (I 110 v1.toNatClampNeg) = (-1) then
          some (0, I)
        else
          zbR (zloopR (f137_sorts_L58 v1 v2 v3 J) 5000 ((0 : Int32), I)) (fun rr => some rr) fun s23 =>
          some (v3, s23.2)
        else none
      else
        bif zin v1 6 then
        if (I 110 v1.toNatClampNeg) = (-3) then
          bif zin v1 6 then
          if (I 110 v1.toNatClampNeg) = (-1) then
            some (0, I)
          else
            zbR (zloopR (f137_sorts_L58 v1 v2 v3 J) 5000 ((0 : Int32), I)) (fun rr => some rr) fun s29 =>
            some (v3, s29.2)
          else none
        else
          some ((-12), I)
        else none
      else none
def f18_take (v1 : Int32) (I : (Nat → Nat → Int32)) : Option (Int32 × (Nat → Nat → Int32)) :=
  if (I 15 6) = 120 then
    some ((-3), I)
  else
    bif zin (I 15 6) 120 then
    some (((I 15 6) + 1), (zu (zu I 16 (I 15 6).toNatClampNeg v1) 15 6 ((I 15 6) + 1)))
    else none
def f91_feed (v1 : Int32) (I : (Nat → Nat → Int32)) : Option (Int32 × (Nat → Nat → Int32)) :=
  Option.bind (f126_within v1 0 255) fun t2 =>
  if t2 = 0 then
    some ((-1), I)
  else
    Option.bind (f18_take v1 I) fun t4 =>
    some (t4.1, t4.2)
def f138_feed (v1 : Int32) (I : (Nat → Nat → Int32)) : Option (Int32 × (Nat → Nat → Int32)) :=
  Option.bind (f129_in v1 0 255) fun t2 =>
  if t2 = 0 then
    some ((-1), I)
  else
    if (I 73 19) = 120 then
      some ((-3), I)
    else
      bif zin (I 73 19) 120 then
      some (((I 73 19) + 1), (zu (zu I 85 (I 73 19).toNatClampNeg v1.toInt8.toInt32.toInt8.toInt32) 73 19 ((I 73 19) + 1)))
      else none
def f28_next (I : (Nat → Nat → Int32)) : Option Int32 :=
  if (I 15 4) < 0 then
    some (-1)
  else
    if (I 15 6) ≤ (I 15 4) then
      some (-1)
    else
      if (120 : Int32) ≤ (I 15 4) then
        some (-1)
      else
        bif zin (I 15 4) 120 then
        some (I 16 (I 15 4).toNatClampNeg)
        else none
def f23_levelOf (v0 : Int32) : Option Int32 :=
  if v0.toInt = 37 then
    some 4
  else
  if v0.toInt = 38 then
    some 1
  else
  if v0.toInt = 42 then
    some 4
  else
  if v0.toInt = 43 then
    some 3
  else
  if v0.toInt = 45 then
    some 3
  else
  if v0.toInt = 47 then
    some 4
  else
  if v0.toInt = 60 then
    some 2
  else
  if v0.toInt = 61 then
    some 2
  else
  if v0.toInt = 62 then
    some 2
  else
  if v0.toInt = 124 then
    some 0
  else
  some (-1)
def f29_write (v1 : Int32) (I : (Nat → Nat → Int32)) : Option (Nat → Nat → Int32) :=
  bif zin (I 15 7) 4 then
  if (121 : Int32) ≤ (I 22 (I 15 7).toNatClampNeg) then
    some I
  else
    bif zin (I 15 7) 4 then
    bif zin (I 15 7) 4 then
    bif zin (I 22 (I 15 7).toNatClampNeg) 121 then
    bif zin ((zu I (zrow0 (I 15 7)) (I 22 (I 15 7).toNatClampNeg).toNatClampNeg v1) 15 7) 4 then
    bif zin ((zu I (zrow0 (I 15 7)) (I 22 (I 15 7).toNatClampNeg).toNatClampNeg v1) 15 7) 4 then
    some (zu (zu I (zrow0 (I 15 7)) (I 22 (I 15 7).toNatClampNeg).toNatClampNeg v1) 22 ((zu I (zrow0 (I 15 7)) (I 22 (I 15 7).toNatClampNeg).toNatClampNeg v1) 15 7).toNatClampNeg (((zu I (zrow0 (I 15 7)) (I 22 (I 15 7).toNatClampNeg).toNatClampNeg v1) 22 ((zu I (zrow0 (I 15 7)) (I 22 (I 15 7).toNatClampNeg).toNatClampNeg v1) 15 7).toNatClampNeg) + 1))
    else none
    else none
    else none
    else none
    else none
  else none
def f27_isDigit (v0 : Int32) : Option Int32 :=
  if v0 < 48 then
    some 0
  else
    if (57 : Int32) < v0 then
      some 0
    else
      some 1
def f222_isLatin1 : Option Int32 :=
  some 1
def f221_coder : Option Int32 :=
  some 0
def f218_length : Option Int32 :=
  Option.bind f221_coder fun t2 =>
  some ((8 : Int32) >>> (t2 &&& 31))
def f223_canEncode (v0 : Int32) : Option Int32 :=
  if v0 < 0 then
    some 0
  else
    if (255 : Int32) < v0 then
      some 0
    else
      some 1
def f225_indexOfChar_L7 (v3 : Int32) (v4 : Int32) (I : (Nat → Nat → Int32)) (s : Int32) : Option (Int32 ⊕ (Int32 ⊕ Int32)) :=
  if v3 ≤ s then
    some (.inr (.inl s))
  else
    bif zin s 8 then
    if (znames.getD s.toNatClampNeg 0) = v4 then
      some (.inl s)
    else
      some (.inr (.inr (s + 1)))
    else none
def f225_indexOfChar (v1 : Int32) (v2 : Int32) (v3 : Int32) (I : (Nat → Nat → Int32)) : Option Int32 :=
  zbR (zloopR (f225_indexOfChar_L7 v3 v1.toInt8.toInt32 I) 5000 v2) (fun rr => some rr) fun s4 =>
  some (-1)
def f224_indexOf (v1 : Int32) (v2 : Int32) (v3 : Int32) (I : (Nat → Nat → Int32)) : Option Int32 :=
  Option.bind (f223_canEncode v1) fun t2 =>
  if t2 = 0 then
    some (-1)
  else
    if (zmax v2 0) < (zmin v3 8) then
      Option.bind (f225_indexOfChar v1 (zmax v2 0) (zmin v3 8) I) fun t4 =>
      some t4
    else
      some (-1)
def f220_indexOf (v1 : Int32) (v2 : Int32) (I : (Nat → Nat → Int32)) : Option Int32 :=
  Option.bind f222_isLatin1 fun t2 =>
  if t2 = 0 then
    Option.bind f218_length fun t4 =>
    none
  else
    Option.bind f218_length fun t6 =>
    Option.bind (f224_indexOf v1 v2 t6 I) fun t8 =>
    some t8
def f219_indexOf (v1 : Int32) (I : (Nat → Nat → Int32)) : Option Int32 :=
  Option.bind (f220_indexOf v1 0 I) fun t2 =>
  some t2
def f26_readNumber_L4 (s : (Int32 × Int32 × (Nat → Nat → Int32))) : Option ((Int32 × Int32 × (Nat → Nat → Int32)) ⊕ (Int32 × Int32 × (Nat → Nat → Int32))) :=
  if (4 : Int32) ≤ s.2.1 then
    some (.inl (s.1, s.2.1, s.2.2))
  else
    Option.bind (f28_next s.2.2) fun t2 =>
    Option.bind (f27_isDigit t2) fun t4 =>
    if t4 = 0 then
      some (.inl (s.1, s.2.1, s.2.2))
    else
      Option.bind (f28_next s.2.2) fun t6 =>
      some (.inr ((((s.1 * 10) + t6) - 48), (s.2.1 + 1), (zu s.2.2 15 4 ((s.2.2 15 4) + 1))))
def f26_readNumber (I : (Nat → Nat → Int32)) : Option (Nat → Nat → Int32) :=
  Option.bind (zloop f26_readNumber_L4 5000 ((0 : Int32), (0 : Int32), I)) fun s9 =>
  Option.bind (f29_write s9.1 s9.2.2) fun t12 =>
  some t12
def f22_readPart_L39 (rc : ((Int32 → Int32 → (Nat → Nat → Int32) → Option (Int32 × (Nat → Nat → Int32))) × (Int32 → (Nat → Nat → Int32) → Option (Int32 × (Nat → Nat → Int32))) × (Int32 → Int32 → (Nat → Nat → Int32) → Option (Int32 × (Nat → Nat → Int32))))) (v1 : Int32) (v2 : Int32) (v3 : Int32) (s : (Int32 × (Nat → Nat → Int32))) : Option ((Int32 × (Nat → Nat → Int32)) ⊕ ((Int32 × (Nat → Nat → Int32)) ⊕ (Int32 × (Nat → Nat → Int32)))) :=
  if v3 ≤ s.1 then
    some (.inr (.inl (s.1, s.2)))
  else
    Option.bind (f28_next s.2) fun t4 =>
    Option.bind (f23_levelOf t4) fun t6 =>
    if v1 = t6 then
      Option.bind (f28_next s.2) fun t8 =>
      Option.bind (rc.1 (v1 + 1) v2 (zu s.2 15 4 ((s.2 15 4) + 1))) fun t10 =>
      if t10.1 = 0 then
        some (.inl (0, t10.2))
      else
        Option.bind (f29_write (20000 + t8) t10.2) fun t12 =>
        some (.inr (.inr ((s.1 + 1), t12)))
    else
      some (.inr (.inl (s.1, s.2)))
def bf22_readPart (rc : ((Int32 → Int32 → (Nat → Nat → Int32) → Option (Int32 × (Nat → Nat → Int32))) × (Int32 → (Nat → Nat → Int32) → Option (Int32 × (Nat → Nat → Int32))) × (Int32 → Int32 → (Nat → Nat → Int32) → Option (Int32 × (Nat → Nat → Int32))))) (v1 : Int32) (v2 : Int32) (I : (Nat → Nat → Int32)) : Option (Int32 × (Nat → Nat → Int32)) :=
  if v1 < 5 then
    Option.bind (rc.1 (v1 + 1) v2 I) fun t2 =>
    if t2.1 = 0 then
      some (0, t2.2)
    else
      if v1 = 2 then
        zbR (zloopR (f22_readPart_L39 rc v1 v2 1) 5000 ((0 : Int32), t2.2)) (fun rr => some rr) fun s16 =>
        some (1, s16.2)
      else
        zbR (zloopR (f22_readPart_L39 rc v1 v2 120) 5000 ((0 : Int32), t2.2)) (fun rr => some rr) fun s19 =>
        some (1, s19.2)
  else
    Option.bind (rc.2.1 v2 I) fun t25 =>
    if (t25.1 = 0 ∨ t25.1 = 1) then
      some (t25.1, t25.2)
    else none
def bf24_readOperand (rc : ((Int32 → Int32 → (Nat → Nat → Int32) → Option (Int32 × (Nat → Nat → Int32))) × (Int32 → (Nat → Nat → Int32) → Option (Int32 × (Nat → Nat → Int32))) × (Int32 → Int32 → (Nat → Nat → Int32) → Option (Int32 × (Nat → Nat → Int32))))) (v1 : Int32) (I : (Nat → Nat → Int32)) : Option (Int32 × (Nat → Nat → Int32)) :=
  Option.bind (f28_next I) fun t2 =>
  Option.bind (f27_isDigit t2) fun t4 =>
  if t4 = 0 then
    if (0 : Int32) ≤ t2 then
      Option.bind (f219_indexOf (t2.toUInt32 % 65536).toInt32 I) fun t6 =>
      if t6 < 0 then
        if (6 : Int32) ≤ v1 then
          some (0, I)
        else
          if t2 = 40 then
            Option.bind (rc.2.2 t2 (v1 + 1) (zu I 15 4 ((I 15 4) + 1))) fun t8 =>
            if (t8.1 = 0 ∨ t8.1 = 1) then
              some (t8.1, t8.2)
            else none
          else
            if t2 = 33 then
              Option.bind (rc.2.2 t2 (v1 + 1) (zu I 15 4 ((I 15 4) + 1))) fun t11 =>
              if (t11.1 = 0 ∨ t11.1 = 1) then
                some (t11.1, t11.2)
              else none
            else
              if t2 = 45 then
                Option.bind (rc.2.2 t2 (v1 + 1) (zu I 15 4 ((I 15 4) + 1))) fun t14 =>
                if (t14.1 = 0 ∨ t14.1 = 1) then
                  some (t14.1, t14.2)
                else none
              else
                some (0, I)
      else
        Option.bind (f29_write (10000 + t6) (zu I 15 4 ((I 15 4) + 1))) fun t21 =>
        some (1, t21)
    else
      if (6 : Int32) ≤ v1 then
        some (0, I)
      else
        if t2 = 40 then
          Option.bind (rc.2.2 t2 (v1 + 1) (zu I 15 4 ((I 15 4) + 1))) fun t24 =>
          if (t24.1 = 0 ∨ t24.1 = 1) then
            some (t24.1, t24.2)
          else none
        else
          if t2 = 33 then
            Option.bind (rc.2.2 t2 (v1 + 1) (zu I 15 4 ((I 15 4) + 1))) fun t27 =>
            if (t27.1 = 0 ∨ t27.1 = 1) then
              some (t27.1, t27.2)
            else none
          else
            if t2 = 45 then
              Option.bind (rc.2.2 t2 (v1 + 1) (zu I 15 4 ((I 15 4) + 1))) fun t30 =>
              if (t30.1 = 0 ∨ t30.1 = 1) then
                some (t30.1, t30.2)
              else none
            else
              some (0, I)
  else
    Option.bind (f26_readNumber I) fun t38 =>
    some (1, t38)
def bf25_readOpened (rc : ((Int32 → Int32 → (Nat → Nat → Int32) → Option (Int32 × (Nat → Nat → Int32))) × (Int32 → (Nat → Nat → Int32) → Option (Int32 × (Nat → Nat → Int32))) × (Int32 → Int32 → (Nat → Nat → Int32) → Option (Int32 × (Nat → Nat → Int32))))) (v1 : Int32) (v2 : Int32) (I : (Nat → Nat → Int32)) : Option (Int32 × (Nat → Nat → Int32)) :=
  if v1 = 40 then
    Option.bind (rc.1 0 v2 I) fun t2 =>
    if t2.1 = 0 then
      some (0, t2.2)
    else
      Option.bind (f28_next t2.2) fun t4 =>
      if t4 = 41 then
        some (1, (zu t2.2 15 4 ((t2.2 15 4) + 1)))
      else
        some (0, t2.2)
  else
    Option.bind (rc.2.1 v2 I) fun t8 =>
    if t8.1 = 0 then
      some (0, t8.2)
    else
      if v1 = 33 then
        Option.bind (f29_write 20033 t8.2) fun t10 =>
        some (1, t10)
      else
        Option.bind (f29_write 20126 t8.2) fun t12 =>
        some (1, t12)
def F22 : Nat → ((Int32 → Int32 → (Nat → Nat → Int32) → Option (Int32 × (Nat → Nat → Int32))) × (Int32 → (Nat → Nat → Int32) → Option (Int32 × (Nat → Nat → Int32))) × (Int32 → Int32 → (Nat → Nat → Int32) → Option (Int32 × (Nat → Nat → Int32))))
  | 0 => (fun _ _ _ => none, fun _ _ => none, fun _ _ _ => none)
  | n + 1 => (bf22_readPart (F22 n), bf24_readOperand (F22 n), bf25_readOpened (F22 n))
def f22_readPart (n : Nat) (v1 : Int32) (v2 : Int32) (I : (Nat → Nat → Int32)) : Option (Int32 × (Nat → Nat → Int32)) := (F22 n).1 v1 v2 I
def f24_readOperand (n : Nat) (v1 : Int32) (I : (Nat → Nat → Int32)) : Option (Int32 × (Nat → Nat → Int32)) := (F22 n).2.1 v1 I
def f25_readOpened (n : Nat) (v1 : Int32) (v2 : Int32) (I : (Nat → Nat → Int32)) : Option (Int32 × (Nat → Nat → Int32)) := (F22 n).2.2 v1 v2 I
def f21_readLine (I : (Nat → Nat → Int32)) : Option (Int32 × (Nat → Nat → Int32)) :=
  Option.bind (f22_readPart 200 0 0 I) fun t2 =>
  if t2.1 = 0 then
    some (0, t2.2)
  else
    Option.bind (f28_next t2.2) fun t4 =>
    if t4 = 63 then
      Option.bind (f29_write 20063 (zu t2.2 15 4 ((t2.2 15 4) + 1))) fun t6 =>
      Option.bind (f22_readPart 200 0 0 t6) fun t8 =>
      if t8.1 = 0 then
        some (0, t8.2)
      else
        Option.bind (f29_write 20059 t8.2) fun t10 =>
        some (1, t10)
    else
      Option.bind (f29_write 20059 t2.2) fun t13 =>
      some (1, t13)
def f20_readLines_L2 (s : (Int32 × (Nat → Nat → Int32))) : Option ((Int32 × (Nat → Nat → Int32)) ⊕ ((Int32 × (Nat → Nat → Int32)) ⊕ (Int32 × (Nat → Nat → Int32)))) :=
  if (120 : Int32) < s.1 then
    some (.inr (.inl (s.1, s.2)))
  else
    Option.bind (f21_readLine s.2) fun t2 =>
    if t2.1 = 0 then
      some (.inl (0, t2.2))
    else
      if (t2.2 15 4) = (t2.2 15 6) then
        some (.inl (1, t2.2))
      else
        Option.bind (f28_next t2.2) fun t4 =>
        if t4 = 59 then
          some (.inr (.inr ((s.1 + 1), (zu t2.2 15 4 ((t2.2 15 4) + 1)))))
        else
          some (.inl (0, t2.2))
def f20_readLines (I : (Nat → Nat → Int32)) : Option (Int32 × (Nat → Nat → Int32)) :=
  zbR (zloopR f20_readLines_L2 5000 ((0 : Int32), I)) (fun rr => some rr) fun s9 =>
  some (0, s9.2)
def f19_becomes (I : (Nat → Nat → Int32)) : Option (Int32 × (Nat → Nat → Int32)) :=
  if (I 15 7) = 4 then
    some ((-3), I)
  else
    bif zin (I 15 7) 4 then
    Option.bind (f20_readLines (zu (zu I 15 4 0) 22 (I 15 7).toNatClampNeg 0)) fun t3 =>
    if t3.1 = 0 then
      some (((-100) - (t3.2 15 4)), (zu t3.2 15 6 0))
    else
      some ((((t3.2 15 7) + 1) - 1), (zu (zu t3.2 15 6 0) 15 7 ((t3.2 15 7) + 1)))
    else none
def f92_law (I : (Nat → Nat → Int32)) : Option (Int32 × (Nat → Nat → Int32)) :=
  Option.bind (f19_becomes I) fun t2 =>
  some (t2.1, t2.2)
def f139_look (I : (Nat → Nat → Int32)) : Option Int32 :=
  if (I 73 19) ≤ (I 73 20) then
    some (-1)
  else
    bif zin (I 73 20) 120 then
    some (I 85 (I 73 20).toNatClampNeg)
    else none
def f142_nameOf (v0 : Int32) : Option Int32 :=
  if v0.toInt = 102 then
    some 5
  else
  if v0.toInt = 103 then
    some (-1)
  else
  if v0.toInt = 104 then
    some 7
  else
  if v0.toInt = 105 then
    some (-1)
  else
  if v0.toInt = 106 then
    some (-1)
  else
  if v0.toInt = 107 then
    some 1
  else
  if v0.toInt = 108 then
    some (-1)
  else
  if v0.toInt = 109 then
    some 0
  else
  if v0.toInt = 110 then
    some 4
  else
  if v0.toInt = 111 then
    some 6
  else
  if v0.toInt = 112 then
    some (-1)
  else
  if v0.toInt = 113 then
    some 3
  else
  if v0.toInt = 114 then
    some (-1)
  else
  if v0.toInt = 115 then
    some (-1)
  else
  if v0.toInt = 116 then
    some (-1)
  else
  if v0.toInt = 117 then
    some (-1)
  else
  if v0.toInt = 118 then
    some (-1)
  else
  if v0.toInt = 119 then
    some 2
  else
  some (-1)
def f140_wrong (I : (Nat → Nat → Int32)) : Option (Nat → Nat → Int32) :=
  if (0 : Int32) ≤ (I 73 21) then
    some I
  else
    some (zu I 73 21 (I 73 20))
def f143_opens (I : (Nat → Nat → Int32)) : Option (Int32 × (Nat → Nat → Int32)) :=
  if (I 73 22) = 6 then
    Option.bind (f140_wrong I) fun t2 =>
    some (0, t2)
  else
    some (1, (zu (zu I 73 22 ((I 73 22) + 1)) 73 20 ((I 73 20) + 1)))
def f141_addStep (v1 : Int32) (v2 : Int32) (I : (Nat → Nat → Int32)) : Option (Nat → Nat → Int32) :=
  bif zin (520 + (I 73 23)) 650 then
  bif zin (520 + (I 73 23)) 650 then
  some (zu (zu (zu I 86 (520 + (I 73 23)).toNatClampNeg v1.toInt8.toInt32.toInt8.toInt32) 87 (520 + (I 73 23)).toNatClampNeg v2) 73 23 ((I 73 23) + 1))
  else none
  else none
def f144_figure_L4 (s : (Int32 × Int32 × (Nat → Nat → Int32))) : Option ((Int32 × Int32 × (Nat → Nat → Int32)) ⊕ (Int32 × Int32 × (Nat → Nat → Int32))) :=
  if (4 : Int32) ≤ s.2.1 then
    some (.inl (s.1, s.2.1, s.2.2))
  else
    Option.bind (f139_look s.2.2) fun t2 =>
    Option.bind (f129_in t2 48 57) fun t4 =>
    if t4 = 0 then
      some (.inl (s.1, s.2.1, s.2.2))
    else
      Option.bind (f139_look s.2.2) fun t6 =>
      some (.inr ((((10 * s.1) + t6) - 48), (s.2.1 + 1), (zu s.2.2 73 20 ((s.2.2 73 20) + 1))))
def f144_figure (I : (Nat → Nat → Int32)) : Option (Nat → Nat → Int32) :=
  Option.bind (zloop f144_figure_L4 5000 ((0 : Int32), (0 : Int32), I)) fun s9 =>
  if s9.2.1 = 0 then
    Option.bind (f140_wrong s9.2.2) fun t12 =>
    Option.bind (f141_addStep 1 s9.1 t12) fun t14 =>
    some t14
  else
    Option.bind (f139_look s9.2.2) fun t16 =>
    Option.bind (f129_in t16 48 57) fun t18 =>
    if t18 = 0 then
      Option.bind (f141_addStep 1 s9.1 s9.2.2) fun t20 =>
      some t20
    else
      Option.bind (f140_wrong s9.2.2) fun t22 =>
      Option.bind (f141_addStep 1 s9.1 t22) fun t24 =>
      some t24
def f146_product_L4 (rc : (((Nat → Nat → Int32) → Option (Nat → Nat → Int32)) × ((Nat → Nat → Int32) → Option (Nat → Nat → Int32)) × ((Nat → Nat → Int32) → Option (Nat → Nat → Int32)) × ((Nat → Nat → Int32) → Option (Nat → Nat → Int32)) × ((Nat → Nat → Int32) → Option (Nat → Nat → Int32)) × ((Nat → Nat → Int32) → Option (Nat → Nat → Int32)))) (s : (Nat → Nat → Int32)) : Option ((Nat → Nat → Int32) ⊕ (Nat → Nat → Int32)) :=
  if (0 : Int32) ≤ (s 73 21) then
    some (.inl s)
  else
    Option.bind (f139_look s) fun t4 =>
    if t4 = 42 then
      Option.bind (f139_look s) fun t6 =>
      Option.bind (rc.1 (zu s 73 20 ((s 73 20) + 1))) fun t8 =>
      Option.bind (f141_addStep t6 0 t8) fun t10 =>
      some (.inr t10)
    else
      Option.bind (f139_look s) fun t12 =>
      if t12 = 47 then
        Option.bind (f139_look s) fun t14 =>
        Option.bind (rc.1 (zu s 73 20 ((s 73 20) + 1))) fun t16 =>
        Option.bind (f141_addStep t14 0 t16) fun t18 =>
        some (.inr t18)
      else
        Option.bind (f139_look s) fun t20 =>
        if t20 = 37 then
          Option.bind (f139_look s) fun t22 =>
          Option.bind (rc.1 (zu s 73 20 ((s 73 20) + 1))) fun t24 =>
          Option.bind (f141_addStep t22 0 t24) fun t26 =>
          some (.inr t26)
        else
          some (.inl s)
def f147_sum_L4 (rc : (((Nat → Nat → Int32) → Option (Nat → Nat → Int32)) × ((Nat → Nat → Int32) → Option (Nat → Nat → Int32)) × ((Nat → Nat → Int32) → Option (Nat → Nat → Int32)) × ((Nat → Nat → Int32) → Option (Nat → Nat → Int32)) × ((Nat → Nat → Int32) → Option (Nat → Nat → Int32)) × ((Nat → Nat → Int32) → Option (Nat → Nat → Int32)))) (s : (Nat → Nat → Int32)) : Option ((Nat → Nat → Int32) ⊕ (Nat → Nat → Int32)) :=
  if (0 : Int32) ≤ (s 73 21) then
    some (.inl s)
  else
    Option.bind (f139_look s) fun t4 =>
    if t4 = 43 then
      Option.bind (f139_look s) fun t6 =>
      Option.bind (rc.2.1 (zu s 73 20 ((s 73 20) + 1))) fun t8 =>
      Option.bind (f141_addStep t6 0 t8) fun t10 =>
      some (.inr t10)
    else
      Option.bind (f139_look s) fun t12 =>
      if t12 = 45 then
        Option.bind (f139_look s) fun t14 =>
        Option.bind (rc.2.1 (zu s 73 20 ((s 73 20) + 1))) fun t16 =>
        Option.bind (f141_addStep t14 0 t16) fun t18 =>
        some (.inr t18)
      else
        some (.inl s)
def f149_both_L4 (rc : (((Nat → Nat → Int32) → Option (Nat → Nat → Int32)) × ((Nat → Nat → Int32) → Option (Nat → Nat → Int32)) × ((Nat → Nat → Int32) → Option (Nat → Nat → Int32)) × ((Nat → Nat → Int32) → Option (Nat → Nat → Int32)) × ((Nat → Nat → Int32) → Option (Nat → Nat → Int32)) × ((Nat → Nat → Int32) → Option (Nat → Nat → Int32)))) (s : (Nat → Nat → Int32)) : Option ((Nat → Nat → Int32) ⊕ (Nat → Nat → Int32)) :=
  if (0 : Int32) ≤ (s 73 21) then
    some (.inl s)
  else
    Option.bind (f139_look s) fun t4 =>
    if t4 = 38 then
      Option.bind (rc.2.2.2.1 (zu s 73 20 ((s 73 20) + 1))) fun t6 =>
      Option.bind (f141_addStep 38 0 t6) fun t8 =>
      some (.inr t8)
    else
      some (.inl s)
def f150_either_L4 (rc : (((Nat → Nat → Int32) → Option (Nat → Nat → Int32)) × ((Nat → Nat → Int32) → Option (Nat → Nat → Int32)) × ((Nat → Nat → Int32) → Option (Nat → Nat → Int32)) × ((Nat → Nat → Int32) → Option (Nat → Nat → Int32)) × ((Nat → Nat → Int32) → Option (Nat → Nat → Int32)) × ((Nat → Nat → Int32) → Option (Nat → Nat → Int32)))) (s : (Nat → Nat → Int32)) : Option ((Nat → Nat → Int32) ⊕ (Nat → Nat → Int32)) :=
  if (0 : Int32) ≤ (s 73 21) then
    some (.inl s)
  else
    Option.bind (f139_look s) fun t4 =>
    if t4 = 124 then
      Option.bind (rc.2.2.2.2.1 (zu s 73 20 ((s 73 20) + 1))) fun t6 =>
      Option.bind (f141_addStep 124 0 t6) fun t8 =>
      some (.inr t8)
    else
      some (.inl s)
def bf145_operand (rc : (((Nat → Nat → Int32) → Option (Nat → Nat → Int32)) × ((Nat → Nat → Int32) → Option (Nat → Nat → Int32)) × ((Nat → Nat → Int32) → Option (Nat → Nat → Int32)) × ((Nat → Nat → Int32) → Option (Nat → Nat → Int32)) × ((Nat → Nat → Int32) → Option (Nat → Nat → Int32)) × ((Nat → Nat → Int32) → Option (Nat → Nat → Int32)))) (I : (Nat → Nat → Int32)) : Option (Nat → Nat → Int32) :=
  Option.bind (f139_look I) fun t2 =>
  Option.bind (f142_nameOf t2) fun t4 =>
  if t4 < 0 then
    if t2 = 33 then
      Option.bind (f143_opens I) fun t6 =>
      if t6.1 = 0 then
        some t6.2
      else
        Option.bind (rc.1 t6.2) fun t8 =>
        if t2 = 33 then
          Option.bind (f141_addStep 3 0 (zu t8 73 22 ((t8 73 22) - 1))) fun t10 =>
          some t10
        else
          Option.bind (f141_addStep 4 0 (zu t8 73 22 ((t8 73 22) - 1))) fun t12 =>
          some t12
    else
      if t2 = 45 then
        Option.bind (f143_opens I) fun t16 =>
        if t16.1 = 0 then
          some t16.2
        else
          Option.bind (rc.1 t16.2) fun t18 =>
          if t2 = 33 then
            Option.bind (f141_addStep 3 0 (zu t18 73 22 ((t18 73 22) - 1))) fun t20 =>
            some t20
          else
            Option.bind (f141_addStep 4 0 (zu t18 73 22 ((t18 73 22) - 1))) fun t22 =>
            some t22
      else
        if t2 = 40 then
          Option.bind (f143_opens I) fun t26 =>
          if t26.1 = 0 then
            some t26.2
          else
            Option.bind (rc.2.2.2.2.2 t26.2) fun t28 =>
            if (t28 73 21) < 0 then
              Option.bind (f139_look t28) fun t30 =>
              if t30 = 41 then
                some (zu (zu t28 73 20 ((t28 73 20) + 1)) 73 22 ((t28 73 22) - 1))
              else
                Option.bind (f140_wrong t28) fun t32 =>
                some t32
            else
              some t28
        else
          Option.bind (f144_figure I) fun t37 =>
          some t37
  else
    Option.bind (f142_nameOf t2) fun t42 =>
    Option.bind (f141_addStep 2 t42 I) fun t44 =>
    some (zu t44 73 20 ((t44 73 20) + 1))
def bf146_product (rc : (((Nat → Nat → Int32) → Option (Nat → Nat → Int32)) × ((Nat → Nat → Int32) → Option (Nat → Nat → Int32)) × ((Nat → Nat → Int32) → Option (Nat → Nat → Int32)) × ((Nat → Nat → Int32) → Option (Nat → Nat → Int32)) × ((Nat → Nat → Int32) → Option (Nat → Nat → Int32)) × ((Nat → Nat → Int32) → Option (Nat → Nat → Int32)))) (I : (Nat → Nat → Int32)) : Option (Nat → Nat → Int32) :=
  Option.bind (rc.1 I) fun t2 =>
  Option.bind (zloop (f146_product_L4 rc) 5000 t2) fun s31 =>
  some s31
def bf147_sum (rc : (((Nat → Nat → Int32) → Option (Nat → Nat → Int32)) × ((Nat → Nat → Int32) → Option (Nat → Nat → Int32)) × ((Nat → Nat → Int32) → Option (Nat → Nat → Int32)) × ((Nat → Nat → Int32) → Option (Nat → Nat → Int32)) × ((Nat → Nat → Int32) → Option (Nat → Nat → Int32)) × ((Nat → Nat → Int32) → Option (Nat → Nat → Int32)))) (I : (Nat → Nat → Int32)) : Option (Nat → Nat → Int32) :=
  Option.bind (rc.2.1 I) fun t2 =>
  Option.bind (zloop (f147_sum_L4 rc) 5000 t2) fun s22 =>
  some s22
def bf148_compared (rc : (((Nat → Nat → Int32) → Option (Nat → Nat → Int32)) × ((Nat → Nat → Int32) → Option (Nat → Nat → Int32)) × ((Nat → Nat → Int32) → Option (Nat → Nat → Int32)) × ((Nat → Nat → Int32) → Option (Nat → Nat → Int32)) × ((Nat → Nat → Int32) → Option (Nat → Nat → Int32)) × ((Nat → Nat → Int32) → Option (Nat → Nat → Int32)))) (I : (Nat → Nat → Int32)) : Option (Nat → Nat → Int32) :=
  Option.bind (rc.2.2.1 I) fun t2 =>
  Option.bind (f139_look t2) fun t4 =>
  if (0 : Int32) ≤ (t2 73 21) then
    some t2
  else
    if t4 = 60 then
      Option.bind (rc.2.2.1 (zu t2 73 20 ((t2 73 20) + 1))) fun t6 =>
      Option.bind (f141_addStep t4 0 t6) fun t8 =>
      some t8
    else
      if t4 = 61 then
        Option.bind (rc.2.2.1 (zu t2 73 20 ((t2 73 20) + 1))) fun t10 =>
        Option.bind (f141_addStep t4 0 t10) fun t12 =>
        some t12
      else
        if t4 = 62 then
          Option.bind (rc.2.2.1 (zu t2 73 20 ((t2 73 20) + 1))) fun t14 =>
          Option.bind (f141_addStep t4 0 t14) fun t16 =>
          some t16
        else
          some t2
def bf149_both (rc : (((Nat → Nat → Int32) → Option (Nat → Nat → Int32)) × ((Nat → Nat → Int32) → Option (Nat → Nat → Int32)) × ((Nat → Nat → Int32) → Option (Nat → Nat → Int32)) × ((Nat → Nat → Int32) → Option (Nat → Nat → Int32)) × ((Nat → Nat → Int32) → Option (Nat → Nat → Int32)) × ((Nat → Nat → Int32) → Option (Nat → Nat → Int32)))) (I : (Nat → Nat → Int32)) : Option (Nat → Nat → Int32) :=
  Option.bind (rc.2.2.2.1 I) fun t2 =>
  Option.bind (zloop (f149_both_L4 rc) 5000 t2) fun s11 =>
  some s11
def bf150_either (rc : (((Nat → Nat → Int32) → Option (Nat → Nat → Int32)) × ((Nat → Nat → Int32) → Option (Nat → Nat → Int32)) × ((Nat → Nat → Int32) → Option (Nat → Nat → Int32)) × ((Nat → Nat → Int32) → Option (Nat → Nat → Int32)) × ((Nat → Nat → Int32) → Option (Nat → Nat → Int32)) × ((Nat → Nat → Int32) → Option (Nat → Nat → Int32)))) (I : (Nat → Nat → Int32)) : Option (Nat → Nat → Int32) :=
  Option.bind (rc.2.2.2.2.1 I) fun t2 =>
  Option.bind (zloop (f150_either_L4 rc) 5000 t2) fun s11 =>
  some s11
def F145 : Nat → (((Nat → Nat → Int32) → Option (Nat → Nat → Int32)) × ((Nat → Nat → Int32) → Option (Nat → Nat → Int32)) × ((Nat → Nat → Int32) → Option (Nat → Nat → Int32)) × ((Nat → Nat → Int32) → Option (Nat → Nat → Int32)) × ((Nat → Nat → Int32) → Option (Nat → Nat → Int32)) × ((Nat → Nat → Int32) → Option (Nat → Nat → Int32)))
  | 0 => (fun _ => none, fun _ => none, fun _ => none, fun _ => none, fun _ => none, fun _ => none)
  | n + 1 => (bf145_operand (F145 n), bf146_product (F145 n), bf147_sum (F145 n), bf148_compared (F145 n), bf149_both (F145 n), bf150_either (F145 n))
def f145_operand (n : Nat) (I : (Nat → Nat → Int32)) : Option (Nat → Nat → Int32) := (F145 n).1 I
def f146_product (n : Nat) (I : (Nat → Nat → Int32)) : Option (Nat → Nat → Int32) := (F145 n).2.1 I
def f147_sum (n : Nat) (I : (Nat → Nat → Int32)) : Option (Nat → Nat → Int32) := (F145 n).2.2.1 I
def f148_compared (n : Nat) (I : (Nat → Nat → Int32)) : Option (Nat → Nat → Int32) := (F145 n).2.2.2.1 I
def f149_both (n : Nat) (I : (Nat → Nat → Int32)) : Option (Nat → Nat → Int32) := (F145 n).2.2.2.2.1 I
def f150_either (n : Nat) (I : (Nat → Nat → Int32)) : Option (Nat → Nat → Int32) := (F145 n).2.2.2.2.2 I
def f151_line (I : (Nat → Nat → Int32)) : Option (Nat → Nat → Int32) :=
  bif zin (244 + (I 88 4)) 305 then
  Option.bind (f150_either 200 (zu I 89 (244 + (I 88 4)).toNatClampNeg (I 73 23).toInt16.toInt32.toInt16.toInt32)) fun t3 =>
  if (0 : Int32) ≤ (t3 73 21) then
    bif zin (244 + (I 88 4)) 305 then
    some (zu (zu t3 90 (244 + (I 88 4)).toNatClampNeg (t3 73 23).toInt16.toInt32.toInt16.toInt32) 88 4 ((t3 88 4) + 1))
    else none
  else
    Option.bind (f139_look t3) fun t6 =>
    if t6 = 63 then
      bif zin (244 + (I 88 4)) 305 then
      Option.bind (f150_either 200 (zu (zu t3 73 20 ((t3 73 20) + 1)) 89 (244 + (I 88 4)).toNatClampNeg (t3 73 23).toInt16.toInt32.toInt16.toInt32)) fun t9 =>
      bif zin (244 + (I 88 4)) 305 then
      some (zu (zu t9 90 (244 + (I 88 4)).toNatClampNeg (t9 73 23).toInt16.toInt32.toInt16.toInt32) 88 4 ((t9 88 4) + 1))
      else none
      else none
    else
      bif zin (244 + (I 88 4)) 305 then
      some (zu (zu t3 90 (244 + (I 88 4)).toNatClampNeg (t3 73 23).toInt16.toInt32.toInt16.toInt32) 88 4 ((t3 88 4) + 1))
      else none
  else none
def f152_readText_L31 (v1 : Int32) (s : (Nat → Nat → Int32)) : Option ((Nat → Nat → Int32) ⊕ (Nat → Nat → Int32)) :=
  if (0 : Int32) ≤ (s 73 21) then
    some (.inl s)
  else
    Option.bind (f139_look s) fun t4 =>
    if t4 = 59 then
      Option.bind (f151_line (zu s 73 20 ((s 73 20) + 1))) fun t6 =>
      some (.inr t6)
    else
      some (.inl s)
def f152_readText_L105 (v1 : Int32) (s : (Int32 × (Nat → Nat → Int32))) : Option ((Int32 × (Nat → Nat → Int32)) ⊕ (Int32 × (Nat → Nat → Int32))) :=
  if (s.2 73 23) ≤ s.1 then
    some (.inl (s.1, s.2))
  else
    bif zin (520 + s.1) 650 then
    bif zin ((130 * v1) + s.1) 650 then
    bif zin (520 + s.1) 650 then
    bif zin ((130 * v1) + s.1) 650 then
    some (.inr ((s.1 + 1), (zu (zu s.2 86 ((130 * v1) + s.1).toNatClampNeg (s.2 86 (520 + s.1).toNatClampNeg).toInt8.toInt32) 87 ((130 * v1) + s.1).toNatClampNeg (s.2 87 (520 + s.1).toNatClampNeg))))
    else none
    else none
    else none
    else none
def f152_readText_L177 (v1 : Int32) (s : (Int32 × (Nat → Nat → Int32))) : Option ((Int32 × (Nat → Nat → Int32)) ⊕ (Int32 × (Nat → Nat → Int32))) :=
  bif zin v1 5 then
  if (s.2 88 v1.toNatClampNeg) ≤ s.1 then
    some (.inl (s.1, s.2))
  else
    bif zin (244 + s.1) 305 then
    bif zin ((61 * v1) + s.1) 305 then
    bif zin (244 + s.1) 305 then
    bif zin ((61 * v1) + s.1) 305 then
    some (.inr ((s.1 + 1), (zu (zu s.2 89 ((61 * v1) + s.1).toNatClampNeg (s.2 89 (244 + s.1).toNatClampNeg).toInt16.toInt32) 90 ((61 * v1) + s.1).toNatClampNeg (s.2 90 (244 + s.1).toNatClampNeg).toInt16.toInt32)))
    else none
    else none
    else none
    else none
  else none
def f152_readText (v1 : Int32) (I : (Nat → Nat → Int32)) : Option (Int32 × (Nat → Nat → Int32)) :=
  Option.bind (f151_line (zu (zu (zu (zu (zu I 73 20 0) 73 21 (-1)) 73 22 0) 73 23 0) 88 4 0)) fun t2 =>
  Option.bind (zloop (f152_readText_L31 v1) 5000 t2) fun s9 =>
  if (0 : Int32) ≤ (s9 73 21) then
    if (s9 73 21) < 0 then
      Option.bind (zloop (f152_readText_L105 v1) 5000 ((0 : Int32), (zu s9 73 19 0))) fun s16 =>
      bif zin v1 5 then
      Option.bind (zloop (f152_readText_L177 v1) 5000 ((0 : Int32), (zu s16.2 88 v1.toNatClampNeg (s16.2 88 4)))) fun s25 =>
      some ((-1), s25.2)
      else none
    else
      some ((s9 73 21), (zu s9 73 19 0))
  else
    if (s9 73 19) ≤ (s9 73 20) then
      if (s9 73 21) < 0 then
        Option.bind (zloop (f152_readText_L105 v1) 5000 ((0 : Int32), (zu s9 73 19 0))) fun s28 =>
        bif zin v1 5 then
        Option.bind (zloop (f152_readText_L177 v1) 5000 ((0 : Int32), (zu s28.2 88 v1.toNatClampNeg (s28.2 88 4)))) fun s31 =>
        some ((-1), s31.2)
        else none
      else
        some ((s9 73 21), (zu s9 73 19 0))
    else
      Option.bind (f140_wrong s9) fun t35 =>
      if (t35 73 21) < 0 then
        Option.bind (zloop (f152_readText_L105 v1) 5000 ((0 : Int32), (zu t35 73 19 0))) fun s36 =>
        bif zin v1 5 then
        Option.bind (zloop (f152_readText_L177 v1) 5000 ((0 : Int32), (zu s36.2 88 v1.toNatClampNeg (s36.2 88 4)))) fun s39 =>
        some ((-1), s39.2)
        else none
      else
        some ((t35 73 21), (zu t35 73 19 0))
def f157_law (I : (Nat → Nat → Int32)) : Option (Int32 × (Nat → Nat → Int32)) :=
  if (I 73 31) = 4 then
    some ((-3), I)
  else
    Option.bind (f152_readText (I 73 31) I) fun t2 =>
    if t2.1 < 0 then
      some ((((t2.2 73 31) + 1) - 1), (zu t2.2 73 31 ((t2.2 73 31) + 1)))
    else
      some (((-100) - t2.1), t2.2)
def f93_set (v1 : Int32) (v2 : Int32) (I : (Nat → Nat → Int32)) : Option (Int32 × (Nat → Nat → Int32)) :=
  if v1 = 0 then
    Option.bind (f126_within v2 1 60) fun t2 =>
    if t2 = 0 then
      if v1 = 1 then
        Option.bind (f126_within v2 0 9) fun t4 =>
        if t4 = 0 then
          if v1 = 2 then
            Option.bind (f126_within v2 0 20) fun t6 =>
            if t6 = 0 then
              some ((-1), I)
            else
              some ((I 1 5), (zu I 1 5 v2))
          else
            some ((-1), I)
        else
          some ((I 1 4), (zu I 1 4 v2))
      else
        if v1 = 2 then
          Option.bind (f126_within v2 0 20) fun t11 =>
          if t11 = 0 then
            some ((-1), I)
          else
            some ((I 1 5), (zu I 1 5 v2))
        else
          some ((-1), I)
    else
      some ((I 1 3), (zu I 1 3 v2))
  else
    if v1 = 1 then
      Option.bind (f126_within v2 0 9) fun t17 =>
      if t17 = 0 then
        if v1 = 2 then
          Option.bind (f126_within v2 0 20) fun t19 =>
          if t19 = 0 then
            some ((-1), I)
          else
            some ((I 1 5), (zu I 1 5 v2))
        else
          some ((-1), I)
      else
        some ((I 1 4), (zu I 1 4 v2))
    else
      if v1 = 2 then
        Option.bind (f126_within v2 0 20) fun t24 =>
        if t24 = 0 then
          some ((-1), I)
        else
          some ((I 1 5), (zu I 1 5 v2))
      else
        some ((-1), I)
def f158_set (v1 : Int32) (v2 : Int32) (I : (Nat → Nat → Int32)) : Option (Int32 × (Nat → Nat → Int32)) :=
  if v1.toInt = 0 then
    Option.bind (f129_in v2 1 60) fun t2 =>
    if t2 = 0 then
      some ((-1), I)
    else
      some ((I 73 15), (zu I 73 15 v2))
  else
  if v1.toInt = 1 then
    Option.bind (f129_in v2 0 9) fun t5 =>
    if t5 = 0 then
      some ((-1), I)
    else
      some ((I 73 16), (zu I 73 16 v2))
  else
  if v1.toInt = 2 then
    Option.bind (f129_in v2 0 20) fun t8 =>
    if t8 = 0 then
      some ((-1), I)
    else
      some ((I 73 17), (zu I 73 17 v2))
  else
  some ((-1), I)
def f62_isSort (v1 : Int32) (I : (Nat → Nat → Int32)) : Option Int32 :=
  if v1 < 0 then
    some 0
  else
    if (I 1 2) ≤ v1 then
      some 0
    else
      some 1
def f69_mended (v1 : Int32) (v2 : Int32) (v3 : Int32) (I : (Nat → Nat → Int32)) : Option (Int32 × (Nat → Nat → Int32)) :=
  if v2 = 0 then
    bif zin v1 8 then
    bif zin v1 8 then
    some ((I 8 v1.toNatClampNeg), (zu I 8 v1.toNatClampNeg v3))
    else none
    else none
  else
    bif zin v1 4 then
    bif zin v1 4 then
    some ((I 2 v1.toNatClampNeg), (zu I 2 v1.toNatClampNeg v3))
    else none
    else none
def f14_forgetFirst (I : (Nat → Nat → Int32)) : Option (Nat → Nat → Int32) :=
  bif zcpok 1 0 39 40 40 then
  bif zcpok 1 0 39 40 40 then
  bif zcpok 1 0 39 40 40 then
  bif zcpok 1 0 39 40 40 then
  some (zu (zcp (zcp (zcp (zcp I 53 53 1 0 39) 54 54 1 0 39) 55 55 1 0 39) 56 56 1 0 39) 52 5 ((I 52 5) - 1))
  else none
  else none
  else none
  else none
def f13_add (v1 : Int32) (v2 : Int32) (v3 : Int32) (v4 : Int32) (I : (Nat → Nat → Int32)) : Option (Nat → Nat → Int32) :=
  if (I 52 5) = 40 then
    Option.bind (f14_forgetFirst I) fun t2 =>
    bif zin (t2 52 5) 40 then
    bif zin (t2 52 5) 40 then
    bif zin (t2 52 5) 40 then
    bif zin (t2 52 5) 40 then
    some (zu (zu (zu (zu (zu (zu t2 53 (t2 52 5).toNatClampNeg v1) 54 (t2 52 5).toNatClampNeg v2) 55 (t2 52 5).toNatClampNeg v3) 56 (t2 52 5).toNatClampNeg v4) 52 5 ((t2 52 5) + 1)) 52 4 ((t2 52 5) + 1))
    else none
    else none
    else none
    else none
  else
    bif zin (I 52 5) 40 then
    bif zin (I 52 5) 40 then
    bif zin (I 52 5) 40 then
    bif zin (I 52 5) 40 then
    some (zu (zu (zu (zu (zu (zu I 53 (I 52 5).toNatClampNeg v1) 54 (I 52 5).toNatClampNeg v2) 55 (I 52 5).toNatClampNeg v3) 56 (I 52 5).toNatClampNeg v4) 52 5 ((I 52 5) + 1)) 52 4 ((I 52 5) + 1))
    else none
    else none
    else none
    else none
def f94_mend (v1 : Int32) (v2 : Int32) (v3 : Int32) (I : (Nat → Nat → Int32)) : Option (Int32 × (Nat → Nat → Int32)) :=
  if v2 = 0 then
    Option.bind (f62_isSort v1 I) fun t2 =>
    if t2 = 0 then
      if v2 = 1 then
        Option.bind (f61_isSquare v1 I) fun t4 =>
        if t4 = 0 then
          some ((-1), I)
        else
          Option.bind (f126_within v3 0 999) fun t6 =>
          if t6 = 0 then
            some ((-1), I)
          else
            Option.bind (f69_mended v1 v2 v3 I) fun t8 =>
            if t8.1 = v3 then
              some (t8.1, t8.2)
            else
              Option.bind (f13_add v1 v2 t8.1 v3 t8.2) fun t10 =>
              some (t8.1, t10)
      else
        some ((-1), I)
    else
      Option.bind (f126_within v3 0 200) fun t16 =>
      if t16 = 0 then
        if v2 = 1 then
          Option.bind (f61_isSquare v1 I) fun t18 =>
          if t18 = 0 then
            some ((-1), I)
          else
            Option.bind (f126_within v3 0 999) fun t20 =>
            if t20 = 0 then
              some ((-1), I)
            else
              Option.bind (f69_mended v1 v2 v3 I) fun t22 =>
              if t22.1 = v3 then
                some (t22.1, t22.2)
              else
                Option.bind (f13_add v1 v2 t22.1 v3 t22.2) fun t24 =>
                some (t22.1, t24)
        else
          some ((-1), I)
      else
        if v2 = 1 then
          Option.bind (f61_isSquare v1 I) fun t30 =>
          if t30 = 0 then
            Option.bind (f69_mended v1 v2 v3 I) fun t32 =>
            if t32.1 = v3 then
              some (t32.1, t32.2)
            else
              Option.bind (f13_add v1 v2 t32.1 v3 t32.2) fun t34 =>
              some (t32.1, t34)
          else
            Option.bind (f126_within v3 0 999) fun t37 =>
            if t37 = 0 then
              Option.bind (f69_mended v1 v2 v3 I) fun t39 =>
              if t39.1 = v3 then
                some (t39.1, t39.2)
              else
                Option.bind (f13_add v1 v2 t39.1 v3 t39.2) fun t41 =>
                some (t39.1, t41)
            else
              Option.bind (f69_mended v1 v2 v3 I) fun t44 =>
              if t44.1 = v3 then
                some (t44.1, t44.2)
              else
                Option.bind (f13_add v1 v2 t44.1 v3 t44.2) fun t46 =>
                some (t44.1, t46)
        else
          Option.bind (f69_mended v1 v2 v3 I) fun t51 =>
          if t51.1 = v3 then
            some (t51.1, t51.2)
          else
            Option.bind (f13_add v1 v2 t51.1 v3 t51.2) fun t53 =>
            some (t51.1, t53)
  else
    if v2 = 1 then
      Option.bind (f61_isSquare v1 I) fun t59 =>
      if t59 = 0 then
        some ((-1), I)
      else
        Option.bind (f126_within v3 0 999) fun t61 =>
        if t61 = 0 then
          some ((-1), I)
        else
          Option.bind (f69_mended v1 v2 v3 I) fun t63 =>
          if t63.1 = v3 then
            some (t63.1, t63.2)
          else
            Option.bind (f13_add v1 v2 t63.1 v3 t63.2) fun t65 =>
            some (t63.1, t65)
    else
      some ((-1), I)
def f131_isSort (v1 : Int32) (I : (Nat → Nat → Int32)) : Option Int32 :=
  Option.bind (f129_in v1 0 ((I 73 9) - 1)) fun t2 =>
  if (t2 = 0 ∨ t2 = 1) then
    some t2
  else none
def f159_valueAt (v1 : Int32) (v2 : Int32) (I : (Nat → Nat → Int32)) : Option Int32 :=
  if v1 = 0 then
    bif zin v2 8 then
    some (I 80 v2.toNatClampNeg)
    else none
  else
    bif zin v2 4 then
    some (I 74 v2.toNatClampNeg)
    else none
def f160_lays (v1 : Int32) (v2 : Int32) (v3 : Int32) (I : (Nat → Nat → Int32)) : Option (Nat → Nat → Int32) :=
  if v1 = 0 then
    bif zin v2 8 then
    some (zu I 80 v2.toNatClampNeg v3)
    else none
  else
    bif zin v2 4 then
    some (zu I 74 v2.toNatClampNeg v3)
    else none
def f161_changes_L34 (v1 : Int32) (v2 : Int32) (v3 : Int32) (v4 : Int32) (s : (Int32 × (Nat → Nat → Int32))) : Option ((Int32 × (Nat → Nat → Int32)) ⊕ (Int32 × (Nat → Nat → Int32))) :=
  if (40 : Int32) ≤ s.1 then
    some (.inl (s.1, s.2))
  else
    bif zin s.1 40 then
    bif zin (s.1 - 1) 40 then
    bif zin s.1 40 then
    bif zin (s.1 - 1) 40 then
    bif zin s.1 40 then
    bif zin (s.1 - 1) 40 then
    bif zin s.1 40 then
    bif zin (s.1 - 1) 40 then
    some (.inr ((s.1 + 1), (zu (zu (zu (zu s.2 93 (s.1 - 1).toNatClampNeg (s.2 93 s.1.toNatClampNeg)) 94 (s.1 - 1).toNatClampNeg (s.2 94 s.1.toNatClampNeg)) 95 (s.1 - 1).toNatClampNeg (s.2 95 s.1.toNatClampNeg)) 96 (s.1 - 1).toNatClampNeg (s.2 96 s.1.toNatClampNeg))))
    else none
    else none
    else none
    else none
    else none
    else none
    else none
    else none
def f161_changes (v1 : Int32) (v2 : Int32) (v3 : Int32) (I : (Nat → Nat → Int32)) : Option (Int32 × (Nat → Nat → Int32)) :=
  Option.bind (f159_valueAt v1 v2 I) fun t2 =>
  if t2 = v3 then
    some (t2, I)
  else
    if (I 73 32) = 40 then
      Option.bind (zloop (f161_changes_L34 v1 v2 v3 t2) 5000 ((1 : Int32), (zu I 73 33 0))) fun s12 =>
      bif zin ((s12.2 73 32) - 1) 40 then
      bif zin ((s12.2 73 32) - 1) 40 then
      bif zin ((s12.2 73 32) - 1) 40 then
      bif zin ((s12.2 73 32) - 1) 40 then
      Option.bind (f160_lays v1 v2 v3 (zu (zu (zu (zu (zu (zu s12.2 73 32 ((s12.2 73 32) - 1)) 93 ((s12.2 73 32) - 1).toNatClampNeg v1) 94 ((s12.2 73 32) - 1).toNatClampNeg v2) 95 ((s12.2 73 32) - 1).toNatClampNeg t2) 96 ((s12.2 73 32) - 1).toNatClampNeg v3) 73 32 (((s12.2 73 32) - 1) + 1))) fun t19 =>
      some (t2, t19)
      else none
      else none
      else none
      else none
    else
      bif zin (I 73 32) 40 then
      bif zin (I 73 32) 40 then
      bif zin (I 73 32) 40 then
      bif zin (I 73 32) 40 then
      Option.bind (f160_lays v1 v2 v3 (zu (zu (zu (zu (zu (zu I 73 33 0) 93 (I 73 32).toNatClampNeg v1) 94 (I 73 32).toNatClampNeg v2) 95 (I 73 32).toNatClampNeg t2) 96 (I 73 32).toNatClampNeg v3) 73 32 ((I 73 32) + 1))) fun t25 =>
      some (t2, t25)
      else none
      else none
      else none
      else none
def f164_mend (v1 : Int32) (v2 : Int32) (v3 : Int32) (I : (Nat → Nat → Int32)) : Option (Int32 × (Nat → Nat → Int32)) :=
  if v2 = 0 then
    Option.bind (f131_isSort v1 I) fun t2 =>
    if t2 = 0 then
      some ((-1), I)
    else
      Option.bind (f129_in v3 0 200) fun t4 =>
      if t4 = 0 then
        some ((-1), I)
      else
        Option.bind (f161_changes 0 v1 v3 I) fun t6 =>
        some (t6.1, t6.2)
  else
    if v2 = 1 then
      Option.bind (f130_isSquare v1 I) fun t10 =>
      if t10 = 0 then
        some ((-1), I)
      else
        Option.bind (f129_in v3 0 999) fun t12 =>
        if t12 = 0 then
          some ((-1), I)
        else
          Option.bind (f161_changes 1 v1 v3 I) fun t14 =>
          some (t14.1, t14.2)
    else
      some ((-1), I)
def f72_ofWay (v1 : Int32) (v2 : Int32) (I : (Nat → Nat → Int32)) : Option Int32 :=
  if v1 < 0 then
    some (-1)
  else
    if v1 < (I 1 1) then
      if v2.toInt = 20 then
        bif zin v1 12 then
        some (I 4 v1.toNatClampNeg)
        else none
      else
      if v2.toInt = 21 then
        bif zin v1 12 then
        some (I 5 v1.toNatClampNeg)
        else none
      else
      if v2.toInt = 22 then
        bif zin v1 12 then
        some (I 6 v1.toNatClampNeg)
        else none
      else
      if v2.toInt = 23 then
        bif zin v1 12 then
        some (I 7 v1.toNatClampNeg)
        else none
      else
      some (-1)
    else
      some (-1)
def f71_ofSquare (v1 : Int32) (v2 : Int32) (I : (Nat → Nat → Int32)) : Option Int32 :=
  Option.bind (f61_isSquare v1 I) fun t2 =>
  if t2 = 0 then
    some (-1)
  else
    if v2 < 10 then
      some (-1)
    else
      if v2 ≤ 11 then
        if v2 = 10 then
          bif zin v1 4 then
          some (I 2 v1.toNatClampNeg)
          else none
        else
          bif zin v1 4 then
          some (I 3 v1.toNatClampNeg)
          else none
      else
        some (-1)
def f70_ofSort (v1 : Int32) (v2 : Int32) (I : (Nat → Nat → Int32)) : Option Int32 :=
  Option.bind (f62_isSort v1 I) fun t2 =>
  if t2 = 0 then
    some (-1)
  else
    if v2.toInt = 0 then
      bif zin v1 8 then
      some (I 8 v1.toNatClampNeg)
      else none
    else
    if v2.toInt = 1 then
      bif zin v1 8 then
      some (I 9 v1.toNatClampNeg)
      else none
    else
    if v2.toInt = 2 then
      bif zin v1 8 then
      some (I 10 v1.toNatClampNeg)
      else none
    else
    if v2.toInt = 3 then
      bif zin v1 8 then
      some (I 11 v1.toNatClampNeg)
      else none
    else
    if v2.toInt = 4 then
      bif zin v1 8 then
      some (I 12 v1.toNatClampNeg)
      else none
    else
    some (-1)
def f95_of (v1 : Int32) (v2 : Int32) (I : (Nat → Nat → Int32)) : Option Int32 :=
  if (10 : Int32) ≤ v2 then
    if (20 : Int32) ≤ v2 then
      Option.bind (f72_ofWay v1 v2 I) fun t2 =>
      some t2
    else
      Option.bind (f71_ofSquare v1 v2 I) fun t4 =>
      some t4
  else
    Option.bind (f70_ofSort v1 v2 I) fun t7 =>
    some t7
def f165_of (v1 : Int32) (v2 : Int32) (I : (Nat → Nat → Int32)) : Option Int32 :=
  Option.bind (f129_in v2 0 4) fun t2 =>
  if t2 = 0 then
    Option.bind (f129_in v2 10 11) fun t4 =>
    if t4 = 0 then
      Option.bind (f129_in v2 20 23) fun t6 =>
      if t6 = 0 then
        some (-1)
      else
        Option.bind (f129_in v1 0 ((I 73 4) - 1)) fun t8 =>
        if t8 = 0 then
          some (-1)
        else
          if v2 = 20 then
            bif zin v1 12 then
            some (I 76 v1.toNatClampNeg)
            else none
          else
            if v2 = 21 then
              bif zin v1 12 then
              some (I 77 v1.toNatClampNeg)
              else none
            else
              if v2 = 22 then
                bif zin v1 12 then
                some (I 78 v1.toNatClampNeg)
                else none
              else
                bif zin v1 12 then
                some (I 79 v1.toNatClampNeg)
                else none
    else
      Option.bind (f130_isSquare v1 I) fun t19 =>
      if t19 = 0 then
        some (-1)
      else
        if v2 = 10 then
          bif zin v1 4 then
          some (I 74 v1.toNatClampNeg)
          else none
        else
          bif zin v1 4 then
          some (I 75 v1.toNatClampNeg)
          else none
  else
    Option.bind (f131_isSort v1 I) fun t26 =>
    if t26 = 0 then
      some (-1)
    else
      if v2 = 0 then
        bif zin v1 8 then
        some (I 80 v1.toNatClampNeg)
        else none
      else
        if v2 = 1 then
          bif zin v1 8 then
          some (I 81 v1.toNatClampNeg)
          else none
        else
          if v2 = 2 then
            bif zin v1 8 then
            some (I 82 v1.toNatClampNeg)
            else none
          else
            if v2 = 3 then
              bif zin v1 8 then
              some (I 83 v1.toNatClampNeg)
              else none
            else
              bif zin v1 8 then
              some (I 84 v1.toNatClampNeg)
              else none
def f81_asIn_25 (I : (Nat → Nat → Int32)) : Option (Nat → Nat → Int32) :=
  bif zcpok 0 0 8 8 8 then
  bif zcpok 0 0 8 8 8 then
  some (zcp (zcp (zu (zu (zu (zu I 25 0 (I 1 3)) 25 1 (I 1 4)) 25 3 0) 25 4 (-1)) 10 26 0 0 8) 12 27 0 0 8)
  else none
  else none
def f41_begin_24_L24 (s : (Int32 × (Nat → Nat → Int32))) : Option ((Int32 × (Nat → Nat → Int32)) ⊕ (Int32 × (Nat → Nat → Int32))) :=
  if (32 : Int32) ≤ s.1 then
    some (.inl (s.1, s.2))
  else
    bif zin s.1 32 then
    bif zin s.1 32 then
    bif zin s.1 32 then
    some (.inr ((s.1 + 1), (zu (zu (zu s.2 28 s.1.toNatClampNeg 0) 29 s.1.toNatClampNeg 0) 30 s.1.toNatClampNeg 200)))
    else none
    else none
    else none
def f41_begin_24_L61 (s : (Int32 × (Nat → Nat → Int32))) : Option ((Int32 × (Nat → Nat → Int32)) ⊕ (Int32 × (Nat → Nat → Int32))) :=
  if (((s.2 25 0) + 1) * 32) ≤ s.1 then
    some (.inl (s.1, s.2))
  else
    bif zin s.1 1952 then
    some (.inr ((s.1 + 1), (zu s.2 32 s.1.toNatClampNeg 0)))
    else none
def f41_begin_24_L92 (s : (Int32 × (Nat → Nat → Int32))) : Option ((Int32 × (Nat → Nat → Int32)) ⊕ (Int32 × (Nat → Nat → Int32))) :=
  if (4 : Int32) ≤ s.1 then
    some (.inl (s.1, s.2))
  else
    bif zin s.1 4 then
    some (.inr ((s.1 + 1), (zu s.2 31 s.1.toNatClampNeg 0)))
    else none
def f41_begin_24_L112 (s : (Int32 × (Nat → Nat → Int32))) : Option ((Int32 × (Nat → Nat → Int32)) ⊕ (Int32 × (Nat → Nat → Int32))) :=
  if (s.2 1 2) ≤ s.1 then
    some (.inl (s.1, s.2))
  else
    bif zin s.1 8 then
    bif zin s.1 8 then
    bif zin (((s.2 26 s.1.toNatClampNeg) * 8) + s.1) 32 then
    bif zin s.1 8 then
    bif zin (s.2 26 s.1.toNatClampNeg) 4 then
    bif zin s.1 8 then
    bif zin (s.2 26 s.1.toNatClampNeg) 4 then
    some (.inr ((s.1 + 1), (zu (zu s.2 28 (((s.2 26 s.1.toNatClampNeg) * 8) + s.1).toNatClampNeg (s.2 8 s.1.toNatClampNeg)) 31 (s.2 26 s.1.toNatClampNeg).toNatClampNeg ((s.2 31 (s.2 26 s.1.toNatClampNeg).toNatClampNeg) + (s.2 8 s.1.toNatClampNeg)))))
    else none
    else none
    else none
    else none
    else none
    else none
    else none
def f41_begin_24 (I : (Nat → Nat → Int32)) : Option (Nat → Nat → Int32) :=
  Option.bind (zloop f41_begin_24_L24 5000 ((0 : Int32), (zu (zu I 24 13 (I 1 0)) 24 14 (I 1 2)))) fun s5 =>
  Option.bind (zloop f41_begin_24_L61 5000 ((0 : Int32), s5.2)) fun s9 =>
  Option.bind (zloop f41_begin_24_L92 5000 ((0 : Int32), s9.2)) fun s13 =>
  Option.bind (zloop f41_begin_24_L112 5000 ((0 : Int32), s13.2)) fun s23 =>
  bif zin (s23.2 25 2) 4 then
  bif zin (s23.2 25 2) 4 then
  some (zu s23.2 31 (s23.2 25 2).toNatClampNeg ((s23.2 31 (s23.2 25 2).toNatClampNeg) + (s23.2 25 3)))
  else none
  else none
def f43_seenIn_24 (v1 : Int32) (I : (Nat → Nat → Int32)) : Option Int32 :=
  bif zin (((I 24 12) * 4) + v1) 240 then
  some (I 34 (((I 24 12) * 4) + v1).toNatClampNeg)
  else none
def f42_see_24_L2 (v1 : Int32) (s : (Int32 × (Nat → Nat → Int32))) : Option ((Int32 × (Nat → Nat → Int32)) ⊕ (Int32 × (Nat → Nat → Int32))) :=
  if (4 : Int32) ≤ s.1 then
    some (.inl (s.1, s.2))
  else
    bif zin s.1 4 then
    bif zin ((v1 * 4) + s.1) 240 then
    some (.inr ((s.1 + 1), (zu s.2 34 ((v1 * 4) + s.1).toNatClampNeg (s.2 31 s.1.toNatClampNeg))))
    else none
    else none
def f42_see_24_L50 (v1 : Int32) (I : (Nat → Nat → Int32)) (s : (Int32 × Int32)) : Option ((Int32 × Int32) ⊕ (Int32 × Int32)) :=
  if (I 1 0) ≤ s.2 then
    some (.inl (s.1, s.2))
  else
    Option.bind (f43_seenIn_24 s.2 I) fun t7 =>
    Option.bind (f43_seenIn_24 s.1 I) fun t9 =>
    if t7 ≤ t9 then
      some (.inr (s.1, (s.2 + 1)))
    else
      some (.inr (s.2, (s.2 + 1)))
def f42_see_24 (v1 : Int32) (I : (Nat → Nat → Int32)) : Option (Nat → Nat → Int32) :=
  Option.bind (zloop (f42_see_24_L2 v1) 5000 ((0 : Int32), I)) fun s4 =>
  Option.bind (zloop (f42_see_24_L50 v1 (zu s4.2 24 12 (zmax 0 (v1 - (s4.2 25 1))))) 5000 ((0 : Int32), (1 : Int32))) fun s12 =>
  Option.bind (f43_seenIn_24 s12.1 (zu (zu (zu s4.2 24 12 (zmax 0 (v1 - (s4.2 25 1)))) 36 0 ((s4.2 25 0) - v1)) 36 5 s12.1)) fun t15 =>
  some (zu (zu (zu (zu s4.2 24 12 (zmax 0 (v1 - (s4.2 25 1)))) 36 0 ((s4.2 25 0) - v1)) 36 5 s12.1) 36 6 t15)
def f44_arrive_24_L15 (v1 : Int32) (v2 : Int32) (s : (Int32 × (Nat → Nat → Int32))) : Option ((Int32 × (Nat → Nat → Int32)) ⊕ (Int32 × (Nat → Nat → Int32))) :=
  if (s.2 1 2) ≤ s.1 then
    some (.inl (s.1, s.2))
  else
    bif zin ((v2 * 8) + s.1) 32 then
    bif zin ((v1 * 32) + ((v2 * 8) + s.1)) 1952 then
    bif zin ((v2 * 8) + s.1) 32 then
    bif zin ((v2 * 8) + s.1) 32 then
    bif zin v2 4 then
    bif zin v2 4 then
    bif zin ((v2 * 8) + s.1) 32 then
    bif zin ((v2 * 8) + s.1) 32 then
    bif zin ((v2 * 8) + s.1) 32 then
    bif zin ((v2 * 8) + s.1) 32 then
    bif zin v2 4 then
    bif zin v2 4 then
    some (.inr ((s.1 + 1), (zu (zu (zu (zu s.2 29 ((v2 * 8) + s.1).toNatClampNeg ((s.2 29 ((v2 * 8) + s.1).toNatClampNeg) + (s.2 32 ((v1 * 32) + ((v2 * 8) + s.1)).toNatClampNeg))) 29 ((v2 * 8) + s.1).toNatClampNeg (((zu s.2 29 ((v2 * 8) + s.1).toNatClampNeg ((s.2 29 ((v2 * 8) + s.1).toNatClampNeg) + (s.2 32 ((v1 * 32) + ((v2 * 8) + s.1)).toNatClampNeg))) 29 ((v2 * 8) + s.1).toNatClampNeg) - (zmin ((zu s.2 29 ((v2 * 8) + s.1).toNatClampNeg ((s.2 29 ((v2 * 8) + s.1).toNatClampNeg) + (s.2 32 ((v1 * 32) + ((v2 * 8) + s.1)).toNatClampNeg))) 29 ((v2 * 8) + s.1).toNatClampNeg) (zmax 0 ((s.2 2 v2.toNatClampNeg) - (s.2 31 v2.toNatClampNeg)))))) 28 ((v2 * 8) + s.1).toNatClampNeg ((s.2 28 ((v2 * 8) + s.1).toNatClampNeg) + (zmin ((zu s.2 29 ((v2 * 8) + s.1).toNatClampNeg ((s.2 29 ((v2 * 8) + s.1).toNatClampNeg) + (s.2 32 ((v1 * 32) + ((v2 * 8) + s.1)).toNatClampNeg))) 29 ((v2 * 8) + s.1).toNatClampNeg) (zmax 0 ((s.2 2 v2.toNatClampNeg) - (s.2 31 v2.toNatClampNeg)))))) 31 v2.toNatClampNeg ((s.2 31 v2.toNatClampNeg) + (zmin ((zu s.2 29 ((v2 * 8) + s.1).toNatClampNeg ((s.2 29 ((v2 * 8) + s.1).toNatClampNeg) + (s.2 32 ((v1 * 32) + ((v2 * 8) + s.1)).toNatClampNeg))) 29 ((v2 * 8) + s.1).toNatClampNeg) (zmax 0 ((s.2 2 v2.toNatClampNeg) - (s.2 31 v2.toNatClampNeg))))))))
    else none
    else none
    else none
    else none
    else none
    else none
    else none
    else none
    else none
    else none
    else none
    else none
def f44_arrive_24_L2 (v1 : Int32) (s : (Int32 × (Nat → Nat → Int32))) : Option ((Int32 × (Nat → Nat → Int32)) ⊕ (Int32 × (Nat → Nat → Int32))) :=
  if (s.2 1 0) ≤ s.1 then
    some (.inl (s.1, s.2))
  else
    Option.bind (zloop (f44_arrive_24_L15 v1 s.1) 5000 ((0 : Int32), s.2)) fun s14 =>
    some (.inr ((s.1 + 1), s14.2))
def f44_arrive_24 (v1 : Int32) (I : (Nat → Nat → Int32)) : Option (Nat → Nat → Int32) :=
  Option.bind (zloop (f44_arrive_24_L2 v1) 5000 ((0 : Int32), I)) fun s17 =>
  some s17.2
def f34_pop (I : (Nat → Nat → Int32)) : Option (Int32 × (Nat → Nat → Int32)) :=
  if (0 : Int32) < (I 15 5) then
    bif zin ((I 15 5) - 1) 64 then
    some ((I 23 ((I 15 5) - 1).toNatClampNeg), (zu I 15 5 ((I 15 5) - 1)))
    else none
  else
    some (0, I)
def f33_push (v1 : Int32) (I : (Nat → Nat → Int32)) : Option (Nat → Nat → Int32) :=
  if (64 : Int32) ≤ (I 15 5) then
    some I
  else
    bif zin (I 15 5) 64 then
    some (zu (zu I 23 (I 15 5).toNatClampNeg v1) 15 5 ((I 15 5) + 1))
    else none
def f32_joined (v0 : Int32) (v1 : Int32) (v2 : Int32) : Option Int32 :=
  if v1.toInt = 38 then
    if v0 = 0 then
      some 0
    else
      if v2 = 0 then
        some 0
      else
        some 1
  else
  if v1.toInt = 42 then
    some (v0 * v2)
  else
  if v1.toInt = 43 then
    some (v0 + v2)
  else
  if v1.toInt = 45 then
    some (v0 - v2)
  else
  if v1.toInt = 47 then
    if v2 = 0 then
      some 0
    else
      if (v2 : Int32) = 0 then none else
      some (v0 / v2)
  else
  if v1.toInt = 60 then
    if v2 ≤ v0 then
      some 0
    else
      some 1
  else
  if v1.toInt = 61 then
    if v0 = v2 then
      some 1
    else
      some 0
  else
  if v1.toInt = 62 then
    if v0 ≤ v2 then
      some 0
    else
      some 1
  else
  if v1.toInt = 124 then
    if v0 = 0 then
      if v2 = 0 then
        some 0
      else
        some 1
    else
      some 1
  else
  if v2 = 0 then
    some 0
  else
    if (v2 : Int32) = 0 then none else
    some (v0 - v0 / v2 * v2)
def f31_passesLine_15_36 (v1 : Int32) (I : (Nat → Nat → Int32)) : Option (Int32 × (Nat → Nat → Int32)) :=
  if v1 = 20063 then
    Option.bind (f34_pop I) fun t2 =>
    if t2.1 = 0 then
      some (1, t2.2)
    else
      some (0, t2.2)
  else
    if (10000 : Int32) ≤ v1 then
      if (20000 : Int32) ≤ v1 then
        if v1 = 20033 then
          Option.bind (f34_pop I) fun t5 =>
          if t5.1 = 0 then
            Option.bind (f33_push 1 t5.2) fun t7 =>
            some (0, t7)
          else
            Option.bind (f33_push 0 t5.2) fun t9 =>
            some (0, t9)
        else
          if v1 = 20126 then
            Option.bind (f34_pop I) fun t12 =>
            Option.bind (f33_push (-t12.1) t12.2) fun t14 =>
            some (0, t14)
          else
            Option.bind (f34_pop I) fun t16 =>
            Option.bind (f34_pop t16.2) fun t18 =>
            Option.bind (f32_joined t18.1 (v1 - 20000) t16.1) fun t20 =>
            Option.bind (f33_push t20 t18.2) fun t22 =>
            some (0, t22)
      else
        bif zin (v1 - 10000) 8 then
        Option.bind (f33_push (I 36 (v1 - 10000).toNatClampNeg) I) fun t27 =>
        some (0, t27)
        else none
    else
      Option.bind (f33_push v1 I) fun t30 =>
      some (0, t30)
def f30_gives_15_36_L10 (v1 : Int32) (s : (Int32 × Int32 × (Nat → Nat → Int32))) : Option ((Int32 × (Nat → Nat → Int32)) ⊕ ((Int32 × Int32 × (Nat → Nat → Int32)) ⊕ (Int32 × Int32 × (Nat → Nat → Int32)))) :=
  bif zin v1 4 then
  if (s.2.2 22 v1.toNatClampNeg) ≤ s.2.1 then
    some (.inr (.inl (s.1, s.2.1, s.2.2)))
  else
    bif zin v1 4 then
    bif zin s.2.1 121 then
    if (s.2.2 (zrow0 v1) s.2.1.toNatClampNeg) = 20059 then
      if s.1 = 0 then
        Option.bind (f34_pop s.2.2) fun t5 =>
        some (.inl (t5.1, t5.2))
      else
        some (.inr (.inr ((0 : Int32), (s.2.1 + 1), s.2.2)))
    else
      if s.1 = 0 then
        Option.bind (f31_passesLine_15_36 (s.2.2 (zrow0 v1) s.2.1.toNatClampNeg) s.2.2) fun t8 =>
        if t8.1 = 0 then
          some (.inr (.inr ((0 : Int32), (s.2.1 + 1), t8.2)))
        else
          some (.inr (.inr ((1 : Int32), (s.2.1 + 1), t8.2)))
      else
        some (.inr (.inr ((1 : Int32), (s.2.1 + 1), s.2.2)))
    else none
    else none
  else none
def f30_gives_15_36 (v1 : Int32) (I : (Nat → Nat → Int32)) : Option (Int32 × (Nat → Nat → Int32)) :=
  zbR (zloopR (f30_gives_15_36_L10 v1) 5000 ((0 : Int32), (0 : Int32), (zu I 15 5 0))) (fun rr => some rr) fun s13 =>
  some (0, s13.2.2)
def f76_firstFor_L2 (v1 : Int32) (I : (Nat → Nat → Int32)) (s : Int32) : Option (Int32 ⊕ (Int32 ⊕ Int32)) :=
  if (I 1 0) ≤ s then
    some (.inr (.inl s))
  else
    bif zin s 4 then
    if (I 3 s.toNatClampNeg) = v1 then
      some (.inl s)
    else
      some (.inr (.inr (s + 1)))
    else none
def f76_firstFor (v1 : Int32) (I : (Nat → Nat → Int32)) : Option Int32 :=
  zbR (zloopR (f76_firstFor_L2 v1 I) 5000 (0 : Int32)) (fun rr => some rr) fun s4 =>
  some (-1)
def f47_aim_24 (v1 : Int32) (v2 : Int32) (v3 : Int32) (I : (Nat → Nat → Int32)) : Option (Int32 × (Nat → Nat → Int32)) :=
  if v2 = (I 25 4) then
    if (I 25 6) ≤ v1 then
      some ((I 25 5), I)
    else
      some ((-1), I)
  else
    bif zin v2 8 then
    if (I 27 v2.toNatClampNeg) < (I 15 7) then
      bif zin v2 8 then
      bif zin ((v3 * 8) + v2) 32 then
      Option.bind (f43_seenIn_24 v3 (zu (zu (zu (zu I 36 1 v2) 36 2 (I 9 v2.toNatClampNeg)) 36 3 v3) 36 4 (I 28 ((v3 * 8) + v2).toNatClampNeg))) fun t6 =>
      bif zin v2 8 then
      Option.bind (f30_gives_15_36 (I 27 v2.toNatClampNeg) (zu (zu (zu (zu (zu I 36 1 v2) 36 2 (I 9 v2.toNatClampNeg)) 36 3 v3) 36 4 (I 28 ((v3 * 8) + v2).toNatClampNeg)) 36 7 t6)) fun t9 =>
      some (t9.1, t9.2)
      else none
      else none
      else none
    else
      bif zin v2 8 then
      Option.bind (f76_firstFor (I 9 v2.toNatClampNeg) I) fun t12 =>
      some (t12, I)
      else none
    else none
def f46_setOut_24 (v1 : Int32) (v2 : Int32) (v3 : Int32) (I : (Nat → Nat → Int32)) : Option (Nat → Nat → Int32) :=
  Option.bind (f47_aim_24 v1 v2 v3 I) fun t2 =>
  Option.bind (f61_isSquare t2.1 t2.2) fun t4 =>
  if t4 = 0 then
    some t2.2
  else
    if t2.1 = v3 then
      some t2.2
    else
      bif zin ((v3 * 4) + t2.1) 16 then
      if (0 : Int32) ≤ (t2.2 13 ((v3 * 4) + t2.1).toNatClampNeg) then
        bif zin (t2.2 13 ((v3 * 4) + t2.1).toNatClampNeg) 12 then
        if (t2.2 4 (t2.2 13 ((v3 * 4) + t2.1).toNatClampNeg).toNatClampNeg) = v3 then
          bif zin ((v3 * 8) + v2) 32 then
          bif zin (2 * (t2.2 13 ((v3 * 4) + t2.1).toNatClampNeg)) 24 then
          bif zin (2 * (t2.2 13 ((v3 * 4) + t2.1).toNatClampNeg)) 24 then
          bif zin (2 * (t2.2 13 ((v3 * 4) + t2.1).toNatClampNeg)) 24 then
          bif zin ((v3 * 8) + v2) 32 then
          bif zin ((v3 * 8) + v2) 32 then
          bif zin v3 4 then
          bif zin v3 4 then
          bif zin (t2.2 13 ((v3 * 4) + t2.1).toNatClampNeg) 12 then
          bif zin v2 8 then
          if (t2.2 25 0) < (v1 + ((t2.2 6 (t2.2 13 ((v3 * 4) + t2.1).toNatClampNeg).toNatClampNeg) * (t2.2 11 v2.toNatClampNeg))) then
            some (zu (zu (zu t2.2 35 (2 * (t2.2 13 ((v3 * 4) + t2.1).toNatClampNeg)).toNatClampNeg ((t2.2 35 (2 * (t2.2 13 ((v3 * 4) + t2.1).toNatClampNeg)).toNatClampNeg) - (zmin (t2.2 28 ((v3 * 8) + v2).toNatClampNeg) (t2.2 35 (2 * (t2.2 13 ((v3 * 4) + t2.1).toNatClampNeg)).toNatClampNeg)))) 28 ((v3 * 8) + v2).toNatClampNeg ((t2.2 28 ((v3 * 8) + v2).toNatClampNeg) - (zmin (t2.2 28 ((v3 * 8) + v2).toNatClampNeg) (t2.2 35 (2 * (t2.2 13 ((v3 * 4) + t2.1).toNatClampNeg)).toNatClampNeg)))) 31 v3.toNatClampNeg ((t2.2 31 v3.toNatClampNeg) - (zmin (t2.2 28 ((v3 * 8) + v2).toNatClampNeg) (t2.2 35 (2 * (t2.2 13 ((v3 * 4) + t2.1).toNatClampNeg)).toNatClampNeg))))
          else
            bif zin ((((v1 + ((t2.2 6 (t2.2 13 ((v3 * 4) + t2.1).toNatClampNeg).toNatClampNeg) * (t2.2 11 v2.toNatClampNeg))) * 32) + (t2.1 * 8)) + v2) 1952 then
            bif zin ((((v1 + ((t2.2 6 (t2.2 13 ((v3 * 4) + t2.1).toNatClampNeg).toNatClampNeg) * (t2.2 11 v2.toNatClampNeg))) * 32) + (t2.1 * 8)) + v2) 1952 then
            some (zu (zu (zu (zu t2.2 35 (2 * (t2.2 13 ((v3 * 4) + t2.1).toNatClampNeg)).toNatClampNeg ((t2.2 35 (2 * (t2.2 13 ((v3 * 4) + t2.1).toNatClampNeg)).toNatClampNeg) - (zmin (t2.2 28 ((v3 * 8) + v2).toNatClampNeg) (t2.2 35 (2 * (t2.2 13 ((v3 * 4) + t2.1).toNatClampNeg)).toNatClampNeg)))) 28 ((v3 * 8) + v2).toNatClampNeg ((t2.2 28 ((v3 * 8) + v2).toNatClampNeg) - (zmin (t2.2 28 ((v3 * 8) + v2).toNatClampNeg) (t2.2 35 (2 * (t2.2 13 ((v3 * 4) + t2.1).toNatClampNeg)).toNatClampNeg)))) 31 v3.toNatClampNeg ((t2.2 31 v3.toNatClampNeg) - (zmin (t2.2 28 ((v3 * 8) + v2).toNatClampNeg) (t2.2 35 (2 * (t2.2 13 ((v3 * 4) + t2.1).toNatClampNeg)).toNatClampNeg)))) 32 ((((v1 + ((t2.2 6 (t2.2 13 ((v3 * 4) + t2.1).toNatClampNeg).toNatClampNeg) * (t2.2 11 v2.toNatClampNeg))) * 32) + (t2.1 * 8)) + v2).toNatClampNeg ((t2.2 32 ((((v1 + ((t2.2 6 (t2.2 13 ((v3 * 4) + t2.1).toNatClampNeg).toNatClampNeg) * (t2.2 11 v2.toNatClampNeg))) * 32) + (t2.1 * 8)) + v2).toNatClampNeg) + (zmin (t2.2 28 ((v3 * 8) + v2).toNatClampNeg) (t2.2 35 (2 * (t2.2 13 ((v3 * 4) + t2.1).toNatClampNeg)).toNatClampNeg))))
            else none
            else none
          else none
          else none
          else none
          else none
          else none
          else none
          else none
          else none
          else none
          else none
        else
          bif zin ((v3 * 8) + v2) 32 then
          bif zin ((2 * (t2.2 13 ((v3 * 4) + t2.1).toNatClampNeg)) + 1) 24 then
          bif zin ((2 * (t2.2 13 ((v3 * 4) + t2.1).toNatClampNeg)) + 1) 24 then
          bif zin ((2 * (t2.2 13 ((v3 * 4) + t2.1).toNatClampNeg)) + 1) 24 then
          bif zin ((v3 * 8) + v2) 32 then
          bif zin ((v3 * 8) + v2) 32 then
          bif zin v3 4 then
          bif zin v3 4 then
          bif zin (t2.2 13 ((v3 * 4) + t2.1).toNatClampNeg) 12 then
          bif zin v2 8 then
          if (t2.2 25 0) < (v1 + ((t2.2 6 (t2.2 13 ((v3 * 4) + t2.1).toNatClampNeg).toNatClampNeg) * (t2.2 11 v2.toNatClampNeg))) then
            some (zu (zu (zu t2.2 35 ((2 * (t2.2 13 ((v3 * 4) + t2.1).toNatClampNeg)) + 1).toNatClampNeg ((t2.2 35 ((2 * (t2.2 13 ((v3 * 4) + t2.1).toNatClampNeg)) + 1).toNatClampNeg) - (zmin (t2.2 28 ((v3 * 8) + v2).toNatClampNeg) (t2.2 35 ((2 * (t2.2 13 ((v3 * 4) + t2.1).toNatClampNeg)) + 1).toNatClampNeg)))) 28 ((v3 * 8) + v2).toNatClampNeg ((t2.2 28 ((v3 * 8) + v2).toNatClampNeg) - (zmin (t2.2 28 ((v3 * 8) + v2).toNatClampNeg) (t2.2 35 ((2 * (t2.2 13 ((v3 * 4) + t2.1).toNatClampNeg)) + 1).toNatClampNeg)))) 31 v3.toNatClampNeg ((t2.2 31 v3.toNatClampNeg) - (zmin (t2.2 28 ((v3 * 8) + v2).toNatClampNeg) (t2.2 35 ((2 * (t2.2 13 ((v3 * 4) + t2.1).toNatClampNeg)) + 1).toNatClampNeg))))
          else
            bif zin ((((v1 + ((t2.2 6 (t2.2 13 ((v3 * 4) + t2.1).toNatClampNeg).toNatClampNeg) * (t2.2 11 v2.toNatClampNeg))) * 32) + (t2.1 * 8)) + v2) 1952 then
            bif zin ((((v1 + ((t2.2 6 (t2.2 13 ((v3 * 4) + t2.1).toNatClampNeg).toNatClampNeg) * (t2.2 11 v2.toNatClampNeg))) * 32) + (t2.1 * 8)) + v2) 1952 then
            some (zu (zu (zu (zu t2.2 35 ((2 * (t2.2 13 ((v3 * 4) + t2.1).toNatClampNeg)) + 1).toNatClampNeg ((t2.2 35 ((2 * (t2.2 13 ((v3 * 4) + t2.1).toNatClampNeg)) + 1).toNatClampNeg) - (zmin (t2.2 28 ((v3 * 8) + v2).toNatClampNeg) (t2.2 35 ((2 * (t2.2 13 ((v3 * 4) + t2.1).toNatClampNeg)) + 1).toNatClampNeg)))) 28 ((v3 * 8) + v2).toNatClampNeg ((t2.2 28 ((v3 * 8) + v2).toNatClampNeg) - (zmin (t2.2 28 ((v3 * 8) + v2).toNatClampNeg) (t2.2 35 ((2 * (t2.2 13 ((v3 * 4) + t2.1).toNatClampNeg)) + 1).toNatClampNeg)))) 31 v3.toNatClampNeg ((t2.2 31 v3.toNatClampNeg) - (zmin (t2.2 28 ((v3 * 8) + v2).toNatClampNeg) (t2.2 35 ((2 * (t2.2 13 ((v3 * 4) + t2.1).toNatClampNeg)) + 1).toNatClampNeg)))) 32 ((((v1 + ((t2.2 6 (t2.2 13 ((v3 * 4) + t2.1).toNatClampNeg).toNatClampNeg) * (t2.2 11 v2.toNatClampNeg))) * 32) + (t2.1 * 8)) + v2).toNatClampNeg ((t2.2 32 ((((v1 + ((t2.2 6 (t2.2 13 ((v3 * 4) + t2.1).toNatClampNeg).toNatClampNeg) * (t2.2 11 v2.toNatClampNeg))) * 32) + (t2.1 * 8)) + v2).toNatClampNeg) + (zmin (t2.2 28 ((v3 * 8) + v2).toNatClampNeg) (t2.2 35 ((2 * (t2.2 13 ((v3 * 4) + t2.1).toNatClampNeg)) + 1).toNatClampNeg))))
            else none
            else none
          else none
          else none
          else none
          else none
          else none
          else none
          else none
          else none
          else none
          else none
        else none
      else
        some t2.2
      else none
def f45_go_24_L2 (v1 : Int32) (s : (Int32 × (Nat → Nat → Int32))) : Option ((Int32 × (Nat → Nat → Int32)) ⊕ (Int32 × (Nat → Nat → Int32))) :=
  if (s.2 1 1) ≤ s.1 then
    some (.inl (s.1, s.2))
  else
    bif zin s.1 12 then
    bif zin (2 * s.1) 24 then
    bif zin s.1 12 then
    bif zin ((2 * s.1) + 1) 24 then
    some (.inr ((s.1 + 1), (zu (zu s.2 35 (2 * s.1).toNatClampNeg (s.2 7 s.1.toNatClampNeg)) 35 ((2 * s.1) + 1).toNatClampNeg (s.2 7 s.1.toNatClampNeg))))
    else none
    else none
    else none
    else none
def f45_go_24_L70 (v1 : Int32) (v2 : Int32) (s : (Int32 × (Nat → Nat → Int32))) : Option ((Int32 × (Nat → Nat → Int32)) ⊕ (Int32 × (Nat → Nat → Int32))) :=
  if (s.2 1 0) ≤ s.1 then
    some (.inl (s.1, s.2))
  else
    bif zin ((s.1 * 8) + v2) 32 then
    if (s.2 28 ((s.1 * 8) + v2).toNatClampNeg) ≤ 0 then
      some (.inr ((s.1 + 1), s.2))
    else
      Option.bind (f46_setOut_24 v1 v2 s.1 s.2) fun t10 =>
      some (.inr ((s.1 + 1), t10))
    else none
def f45_go_24_L57 (v1 : Int32) (s : (Int32 × (Nat → Nat → Int32))) : Option ((Int32 × (Nat → Nat → Int32)) ⊕ (Int32 × (Nat → Nat → Int32))) :=
  if (s.2 1 2) ≤ s.1 then
    some (.inl (s.1, s.2))
  else
    Option.bind (zloop (f45_go_24_L70 v1 s.1) 5000 ((0 : Int32), s.2)) fun s13 =>
    some (.inr ((s.1 + 1), s13.2))
def f45_go_24 (v1 : Int32) (I : (Nat → Nat → Int32)) : Option (Nat → Nat → Int32) :=
  Option.bind (zloop (f45_go_24_L2 v1) 5000 ((0 : Int32), I)) fun s6 =>
  Option.bind (zloop (f45_go_24_L57 v1) 5000 ((0 : Int32), s6.2)) fun s16 =>
  some s16.2
def f48_end_24_L39 (s : (Int32 × (Nat → Nat → Int32))) : Option ((Int32 × (Nat → Nat → Int32)) ⊕ (Int32 × (Nat → Nat → Int32))) :=
  if (32 : Int32) ≤ s.1 then
    some (.inl (s.1, s.2))
  else
    bif zin s.1 32 then
    bif zin s.1 32 then
    bif zin s.1 32 then
    some (.inr ((s.1 + 1), (zu s.2 30 s.1.toNatClampNeg (zmin (s.2 30 s.1.toNatClampNeg) (s.2 28 s.1.toNatClampNeg)))))
    else none
    else none
    else none
def f48_end_24 (v1 : Int32) (I : (Nat → Nat → Int32)) : Option (Nat → Nat → Int32) :=
  bif zcpok 0 (v1 * 32) 32 32 1952 then
  if v1 < ((I 25 0) - (I 1 5)) then
    some (zcp I 28 33 0 (v1 * 32) 32)
  else
    Option.bind (zloop f48_end_24_L39 5000 ((0 : Int32), (zcp I 28 33 0 (v1 * 32) 32))) fun s6 =>
    some s6.2
  else none
def f74_wanting_L4 (v1 : Int32) (I : (Nat → Nat → Int32)) (s : (Int32 × Int32)) : Option ((Int32 × Int32) ⊕ (Int32 × Int32)) :=
  if (I 1 2) ≤ s.2 then
    some (.inl (s.1, s.2))
  else
    bif zin s.2 8 then
    if (I 9 s.2.toNatClampNeg) = v1 then
      bif zin s.2 8 then
      some (.inr ((s.1 + (I 8 s.2.toNatClampNeg)), (s.2 + 1)))
      else none
    else
      some (.inr ((s.1 + 0), (s.2 + 1)))
    else none
def f74_wanting (v1 : Int32) (I : (Nat → Nat → Int32)) : Option Int32 :=
  Option.bind (zloop (f74_wanting_L4 v1 I) 5000 ((0 : Int32), (0 : Int32))) fun s5 =>
  some s5.1
def f73_people (I : (Nat → Nat → Int32)) : Option Int32 :=
  Option.bind (f74_wanting 0 I) fun t2 =>
  Option.bind (f74_wanting 1 I) fun t4 =>
  some (t2 + t4)
def f49_tally_24_L56 (v1 : Int32) (s : (Int32 × (Nat → Nat → Int32))) : Option ((Int32 × (Nat → Nat → Int32)) ⊕ (Int32 × (Nat → Nat → Int32))) :=
  if (8 : Int32) ≤ s.1 then
    some (.inl (s.1, s.2))
  else
    bif zin v1 4 then
    bif zin ((v1 * 8) + s.1) 32 then
    bif zin v1 4 then
    some (.inr ((s.1 + 1), (zu s.2 37 v1.toNatClampNeg ((s.2 37 v1.toNatClampNeg) + (s.2 30 ((v1 * 8) + s.1).toNatClampNeg)))))
    else none
    else none
    else none
def f49_tally_24_L21 (s : (Int32 × (Nat → Nat → Int32))) : Option ((Int32 × (Nat → Nat → Int32)) ⊕ (Int32 × (Nat → Nat → Int32))) :=
  if (4 : Int32) ≤ s.1 then
    some (.inl (s.1, s.2))
  else
    if s.1 = (s.2 25 2) then
      bif zin s.1 4 then
      Option.bind (zloop (f49_tally_24_L56 s.1) 5000 ((0 : Int32), (zu s.2 37 s.1.toNatClampNeg (s.2 25 3)))) fun s8 =>
      bif zin s.1 4 then
      some (.inr ((s.1 + 1), (zu s8.2 24 19 ((s8.2 24 19) - (s8.2 31 s.1.toNatClampNeg)))))
      else none
      else none
    else
      bif zin s.1 4 then
      Option.bind (zloop (f49_tally_24_L56 s.1) 5000 ((0 : Int32), (zu s.2 37 s.1.toNatClampNeg 0))) fun s12 =>
      bif zin s.1 4 then
      some (.inr ((s.1 + 1), (zu s12.2 24 19 ((s12.2 24 19) - (s12.2 31 s.1.toNatClampNeg)))))
      else none
      else none
def f49_tally_24_L116 (s : (Int32 × (Nat → Nat → Int32))) : Option ((Int32 × (Nat → Nat → Int32)) ⊕ (Int32 × (Nat → Nat → Int32))) :=
  if (s.2 1 0) ≤ s.1 then
    some (.inl (s.1, s.2))
  else
    bif zin s.1 4 then
    bif zin (s.2 24 16) 4 then
    if (s.2 37 s.1.toNatClampNeg) ≤ (s.2 37 (s.2 24 16).toNatClampNeg) then
      some (.inr ((s.1 + 1), (zu s.2 24 16 (s.2 24 16))))
    else
      some (.inr ((s.1 + 1), (zu s.2 24 16 s.1)))
    else none
    else none
def f49_tally_24_L167 (I : (Nat → Nat → Int32)) (s : (Int32 × Int32)) : Option ((Int32 × Int32) ⊕ (Int32 × Int32)) :=
  if (I 1 0) ≤ s.2 then
    some (.inl (s.1, s.2))
  else
    if s.2 = (I 24 16) then
      some (.inr (s.1, (s.2 + 1)))
    else
      bif zin s.2 4 then
      some (.inr ((zmax s.1 (I 37 s.2.toNatClampNeg)), (s.2 + 1)))
      else none
def f49_tally_24 (I : (Nat → Nat → Int32)) : Option (Nat → Nat → Int32) :=
  Option.bind (f73_people I) fun t2 =>
  Option.bind (zloop f49_tally_24_L21 5000 ((0 : Int32), (zu I 24 19 (t2 + (I 25 3))))) fun s17 =>
  Option.bind (zloop f49_tally_24_L116 5000 ((1 : Int32), (zu s17.2 24 16 0))) fun s23 =>
  Option.bind (zloop (f49_tally_24_L167 s23.2) 5000 ((0 : Int32), (0 : Int32))) fun s28 =>
  bif zin (s23.2 24 16) 4 then
  bif zin (s23.2 24 16) 4 then
  some (zu (zu s23.2 24 17 (s23.2 3 (s23.2 24 16).toNatClampNeg)) 24 18 ((s23.2 37 (s23.2 24 16).toNatClampNeg) - s28.1))
  else none
  else none
def f40_pass_24_L6 (s : (Int32 × (Nat → Nat → Int32))) : Option ((Int32 × (Nat → Nat → Int32)) ⊕ (Int32 × (Nat → Nat → Int32))) :=
  if (s.2 25 0) ≤ s.1 then
    some (.inl (s.1, s.2))
  else
    Option.bind (f42_see_24 s.1 s.2) fun t4 =>
    Option.bind (f44_arrive_24 s.1 t4) fun t6 =>
    Option.bind (f45_go_24 s.1 t6) fun t8 =>
    Option.bind (f48_end_24 s.1 t8) fun t10 =>
    some (.inr ((s.1 + 1), t10))
def f40_pass_24 (I : (Nat → Nat → Int32)) : Option (Nat → Nat → Int32) :=
  Option.bind (f41_begin_24 I) fun t2 =>
  Option.bind (zloop f40_pass_24_L6 5000 ((0 : Int32), t2)) fun s12 =>
  Option.bind (f44_arrive_24 (s12.2 25 0) s12.2) fun t15 =>
  Option.bind (f48_end_24 (t15 25 0) t15) fun t17 =>
  Option.bind (f49_tally_24 t17) fun t19 =>
  some t19
def f96_run (I : (Nat → Nat → Int32)) : Option (Int32 × (Nat → Nat → Int32)) :=
  if (I 1 0) = 0 then
    some ((-5), I)
  else
    Option.bind (f81_asIn_25 I) fun t2 =>
    Option.bind (f40_pass_24 t2) fun t4 =>
    some ((t4 24 17), (zu t4 0 7 1))
def f166_inSquare_L26 (v1 : Int32) (I : (Nat → Nat → Int32)) (s : (Int32 × Int32)) : Option ((Int32 × Int32) ⊕ (Int32 × Int32)) :=
  if (I 73 9) ≤ s.2 then
    some (.inl (s.1, s.2))
  else
    bif zin ((8 * v1) + s.2) 32 then
    some (.inr ((s.1 + (I 97 ((8 * v1) + s.2).toNatClampNeg)), (s.2 + 1)))
    else none
def f166_inSquare (v1 : Int32) (I : (Nat → Nat → Int32)) : Option Int32 :=
  if (I 73 45) ≤ 0 then
    Option.bind (zloop (f166_inSquare_L26 v1 I) 5000 ((0 : Int32), (0 : Int32))) fun s3 =>
    some s3.1
  else
    if v1 = (I 73 46) then
      Option.bind (zloop (f166_inSquare_L26 v1 I) 5000 ((I 73 45), (0 : Int32))) fun s5 =>
      some s5.1
    else
      Option.bind (zloop (f166_inSquare_L26 v1 I) 5000 ((0 : Int32), (0 : Int32))) fun s7 =>
      some s7.1
def f167_arrive_L26 (v1 : Int32) (v2 : Int32) (s : (Int32 × Int32 × (Nat → Nat → Int32))) : Option ((Int32 × Int32 × (Nat → Nat → Int32)) ⊕ (Int32 × Int32 × (Nat → Nat → Int32))) :=
  if (s.2.2 73 9) ≤ s.2.1 then
    some (.inl (s.1, s.2.1, s.2.2))
  else
    bif zin ((8 * v2) + s.2.1) 32 then
    bif zin ((32 * v1) + ((8 * v2) + s.2.1)) 4864 then
    bif zin ((8 * v2) + s.2.1) 32 then
    bif zin ((8 * v2) + s.2.1) 32 then
    if s.1 ≤ ((zu s.2.2 98 ((8 * v2) + s.2.1).toNatClampNeg ((s.2.2 98 ((8 * v2) + s.2.1).toNatClampNeg) + (s.2.2 99 ((32 * v1) + ((8 * v2) + s.2.1)).toNatClampNeg))) 98 ((8 * v2) + s.2.1).toNatClampNeg) then
      if (0 : Int32) < s.1 then
        bif zin ((8 * v2) + s.2.1) 32 then
        bif zin ((8 * v2) + s.2.1) 32 then
        bif zin ((8 * v2) + s.2.1) 32 then
        bif zin ((8 * v2) + s.2.1) 32 then
        some (.inr ((s.1 - s.1), (s.2.1 + 1), (zu (zu (zu s.2.2 98 ((8 * v2) + s.2.1).toNatClampNeg ((s.2.2 98 ((8 * v2) + s.2.1).toNatClampNeg) + (s.2.2 99 ((32 * v1) + ((8 * v2) + s.2.1)).toNatClampNeg))) 98 ((8 * v2) + s.2.1).toNatClampNeg (((zu s.2.2 98 ((8 * v2) + s.2.1).toNatClampNeg ((s.2.2 98 ((8 * v2) + s.2.1).toNatClampNeg) + (s.2.2 99 ((32 * v1) + ((8 * v2) + s.2.1)).toNatClampNeg))) 98 ((8 * v2) + s.2.1).toNatClampNeg) - s.1)) 97 ((8 * v2) + s.2.1).toNatClampNeg ((s.2.2 97 ((8 * v2) + s.2.1).toNatClampNeg) + s.1))))
        else none
        else none
        else none
        else none
      else
        some (.inr (s.1, (s.2.1 + 1), (zu s.2.2 98 ((8 * v2) + s.2.1).toNatClampNeg ((s.2.2 98 ((8 * v2) + s.2.1).toNatClampNeg) + (s.2.2 99 ((32 * v1) + ((8 * v2) + s.2.1)).toNatClampNeg)))))
    else
      bif zin ((8 * v2) + s.2.1) 32 then
      if (0 : Int32) < ((zu s.2.2 98 ((8 * v2) + s.2.1).toNatClampNeg ((s.2.2 98 ((8 * v2) + s.2.1).toNatClampNeg) + (s.2.2 99 ((32 * v1) + ((8 * v2) + s.2.1)).toNatClampNeg))) 98 ((8 * v2) + s.2.1).toNatClampNeg) then
        bif zin ((8 * v2) + s.2.1) 32 then
        bif zin ((8 * v2) + s.2.1) 32 then
        bif zin ((8 * v2) + s.2.1) 32 then
        bif zin ((8 * v2) + s.2.1) 32 then
        some (.inr ((s.1 - ((zu s.2.2 98 ((8 * v2) + s.2.1).toNatClampNeg ((s.2.2 98 ((8 * v2) + s.2.1).toNatClampNeg) + (s.2.2 99 ((32 * v1) + ((8 * v2) + s.2.1)).toNatClampNeg))) 98 ((8 * v2) + s.2.1).toNatClampNeg)), (s.2.1 + 1), (zu (zu (zu s.2.2 98 ((8 * v2) + s.2.1).toNatClampNeg ((s.2.2 98 ((8 * v2) + s.2.1).toNatClampNeg) + (s.2.2 99 ((32 * v1) + ((8 * v2) + s.2.1)).toNatClampNeg))) 98 ((8 * v2) + s.2.1).toNatClampNeg (((zu s.2.2 98 ((8 * v2) + s.2.1).toNatClampNeg ((s.2.2 98 ((8 * v2) + s.2.1).toNatClampNeg) + (s.2.2 99 ((32 * v1) + ((8 * v2) + s.2.1)).toNatClampNeg))) 98 ((8 * v2) + s.2.1).toNatClampNeg) - ((zu s.2.2 98 ((8 * v2) + s.2.1).toNatClampNeg ((s.2.2 98 ((8 * v2) + s.2.1).toNatClampNeg) + (s.2.2 99 ((32 * v1) + ((8 * v2) + s.2.1)).toNatClampNeg))) 98 ((8 * v2) + s.2.1).toNatClampNeg))) 97 ((8 * v2) + s.2.1).toNatClampNeg ((s.2.2 97 ((8 * v2) + s.2.1).toNatClampNeg) + ((zu s.2.2 98 ((8 * v2) + s.2.1).toNatClampNeg ((s.2.2 98 ((8 * v2) + s.2.1).toNatClampNeg) + (s.2.2 99 ((32 * v1) + ((8 * v2) + s.2.1)).toNatClampNeg))) 98 ((8 * v2) + s.2.1).toNatClampNeg)))))
        else none
        else none
        else none
        else none
      else
        some (.inr (s.1, (s.2.1 + 1), (zu s.2.2 98 ((8 * v2) + s.2.1).toNatClampNeg ((s.2.2 98 ((8 * v2) + s.2.1).toNatClampNeg) + (s.2.2 99 ((32 * v1) + ((8 * v2) + s.2.1)).toNatClampNeg)))))
      else none
    else none
    else none
    else none
    else none
def f167_arrive_L2 (v1 : Int32) (s : (Int32 × (Nat → Nat → Int32))) : Option ((Int32 × (Nat → Nat → Int32)) ⊕ (Int32 × (Nat → Nat → Int32))) :=
  if (s.2 73 1) ≤ s.1 then
    some (.inl (s.1, s.2))
  else
    bif zin s.1 4 then
    Option.bind (f166_inSquare s.1 s.2) fun t3 =>
    Option.bind (zloop (f167_arrive_L26 v1 s.1) 5000 (((s.2 74 s.1.toNatClampNeg) - t3), (0 : Int32), s.2)) fun s21 =>
    some (.inr ((s.1 + 1), s21.2.2))
    else none
def f167_arrive (v1 : Int32) (I : (Nat → Nat → Int32)) : Option (Nat → Nat → Int32) :=
  Option.bind (zloop (f167_arrive_L2 v1) 5000 ((0 : Int32), I)) fun s24 =>
  some s24.2
def f156_isLaw (v1 : Int32) (I : (Nat → Nat → Int32)) : Option Int32 :=
  Option.bind (f129_in v1 0 ((I 73 31) - 1)) fun t2 =>
  if (t2 = 0 ∨ t2 = 1) then
    some t2
  else none
def f153_twoOf (v0 : Int32) (v1 : Int32) (v2 : Int32) : Option Int32 :=
  if v0.toInt = 37 then
    if v2 = 0 then
      some 0
    else
      if v2 = (-1) then
        some 0
      else
        if (v2 : Int32) = 0 then none else
        some (v1 - v1 / v2 * v2)
  else
  if v0.toInt = 38 then
    if v1 = 0 then
      some 0
    else
      if v2 = 0 then
        some 0
      else
        some 1
  else
  if v0.toInt = 39 then
    if v1 = 0 then
      if v2 = 0 then
        some 0
      else
        some 1
    else
      some 1
  else
  if v0.toInt = 40 then
    if v1 = 0 then
      if v2 = 0 then
        some 0
      else
        some 1
    else
      some 1
  else
  if v0.toInt = 41 then
    if v1 = 0 then
      if v2 = 0 then
        some 0
      else
        some 1
    else
      some 1
  else
  if v0.toInt = 42 then
    some (v1 * v2)
  else
  if v0.toInt = 43 then
    some (v1 + v2)
  else
  if v0.toInt = 44 then
    if v1 = 0 then
      if v2 = 0 then
        some 0
      else
        some 1
    else
      some 1
  else
  if v0.toInt = 45 then
    some (v1 - v2)
  else
  if v0.toInt = 46 then
    if v1 = 0 then
      if v2 = 0 then
        some 0
      else
        some 1
    else
      some 1
  else
  if v0.toInt = 47 then
    if v2 = 0 then
      some 0
    else
      if v2 = (-1) then
        some (-v1)
      else
        if (v2 : Int32) = 0 then none else
        some (v1 / v2)
  else
  if v0.toInt = 48 then
    if v1 = 0 then
      if v2 = 0 then
        some 0
      else
        some 1
    else
      some 1
  else
  if v0.toInt = 49 then
    if v1 = 0 then
      if v2 = 0 then
        some 0
      else
        some 1
    else
      some 1
  else
  if v0.toInt = 50 then
    if v1 = 0 then
      if v2 = 0 then
        some 0
      else
        some 1
    else
      some 1
  else
  if v0.toInt = 51 then
    if v1 = 0 then
      if v2 = 0 then
        some 0
      else
        some 1
    else
      some 1
  else
  if v0.toInt = 52 then
    if v1 = 0 then
      if v2 = 0 then
        some 0
      else
        some 1
    else
      some 1
  else
  if v0.toInt = 53 then
    if v1 = 0 then
      if v2 = 0 then
        some 0
      else
        some 1
    else
      some 1
  else
  if v0.toInt = 54 then
    if v1 = 0 then
      if v2 = 0 then
        some 0
      else
        some 1
    else
      some 1
  else
  if v0.toInt = 55 then
    if v1 = 0 then
      if v2 = 0 then
        some 0
      else
        some 1
    else
      some 1
  else
  if v0.toInt = 56 then
    if v1 = 0 then
      if v2 = 0 then
        some 0
      else
        some 1
    else
      some 1
  else
  if v0.toInt = 57 then
    if v1 = 0 then
      if v2 = 0 then
        some 0
      else
        some 1
    else
      some 1
  else
  if v0.toInt = 58 then
    if v1 = 0 then
      if v2 = 0 then
        some 0
      else
        some 1
    else
      some 1
  else
  if v0.toInt = 59 then
    if v1 = 0 then
      if v2 = 0 then
        some 0
      else
        some 1
    else
      some 1
  else
  if v0.toInt = 60 then
    if v2 ≤ v1 then
      some 0
    else
      some 1
  else
  if v0.toInt = 61 then
    if v1 = v2 then
      some 1
    else
      some 0
  else
  if v0.toInt = 62 then
    if v1 ≤ v2 then
      some 0
    else
      some 1
  else
  if v1 = 0 then
    if v2 = 0 then
      some 0
    else
      some 1
  else
    some 1
def f154_worked_L12 (v1 : Int32) (v3 : Int32) (s : (Int32 × Int32 × (Nat → Nat → Int32))) : Option ((Int32 × Int32 × (Nat → Nat → Int32)) ⊕ (Int32 × Int32 × (Nat → Nat → Int32))) :=
  if ((130 * v1) + v3) ≤ s.2.1 then
    some (.inl (s.1, s.2.1, s.2.2))
  else
    bif zin s.2.1 650 then
    if (s.2.2 86 s.2.1.toNatClampNeg) = 1 then
      if (s.2.2 86 s.2.1.toNatClampNeg) = 1 then
        bif zin s.2.1 650 then
        bif zin s.1 130 then
        some (.inr ((s.1 + 1), (s.2.1 + 1), (zu s.2.2 92 s.1.toNatClampNeg (s.2.2 87 s.2.1.toNatClampNeg))))
        else none
        else none
      else
        bif zin s.2.1 650 then
        bif zin (s.2.2 87 s.2.1.toNatClampNeg) 8 then
        bif zin s.1 130 then
        some (.inr ((s.1 + 1), (s.2.1 + 1), (zu s.2.2 92 s.1.toNatClampNeg (s.2.2 91 (s.2.2 87 s.2.1.toNatClampNeg).toNatClampNeg))))
        else none
        else none
        else none
    else
      if (s.2.2 86 s.2.1.toNatClampNeg) = 2 then
        if (s.2.2 86 s.2.1.toNatClampNeg) = 1 then
          bif zin s.2.1 650 then
          bif zin s.1 130 then
          some (.inr ((s.1 + 1), (s.2.1 + 1), (zu s.2.2 92 s.1.toNatClampNeg (s.2.2 87 s.2.1.toNatClampNeg))))
          else none
          else none
        else
          bif zin s.2.1 650 then
          bif zin (s.2.2 87 s.2.1.toNatClampNeg) 8 then
          bif zin s.1 130 then
          some (.inr ((s.1 + 1), (s.2.1 + 1), (zu s.2.2 92 s.1.toNatClampNeg (s.2.2 91 (s.2.2 87 s.2.1.toNatClampNeg).toNatClampNeg))))
          else none
          else none
          else none
      else
        if (s.2.2 86 s.2.1.toNatClampNeg) = 3 then
          bif zin (s.1 - 1) 130 then
          if (s.2.2 92 (s.1 - 1).toNatClampNeg) = 0 then
            bif zin (s.1 - 1) 130 then
            some (.inr (s.1, (s.2.1 + 1), (zu s.2.2 92 (s.1 - 1).toNatClampNeg 1)))
            else none
          else
            bif zin (s.1 - 1) 130 then
            some (.inr (s.1, (s.2.1 + 1), (zu s.2.2 92 (s.1 - 1).toNatClampNeg 0)))
            else none
          else none
        else
          if (s.2.2 86 s.2.1.toNatClampNeg) = 4 then
            bif zin (s.1 - 1) 130 then
            bif zin (s.1 - 1) 130 then
            some (.inr (s.1, (s.2.1 + 1), (zu s.2.2 92 (s.1 - 1).toNatClampNeg (-(s.2.2 92 (s.1 - 1).toNatClampNeg)))))
            else none
            else none
          else
            bif zin ((s.1 - 1) - 1) 130 then
            bif zin (s.1 - 1) 130 then
            Option.bind (f153_twoOf (s.2.2 86 s.2.1.toNatClampNeg) (s.2.2 92 ((s.1 - 1) - 1).toNatClampNeg) (s.2.2 92 (s.1 - 1).toNatClampNeg)) fun t23 =>
            bif zin ((s.1 - 1) - 1) 130 then
            some (.inr ((s.1 - 1), (s.2.1 + 1), (zu s.2.2 92 ((s.1 - 1) - 1).toNatClampNeg t23)))
            else none
            else none
            else none
    else none
def f154_worked (v1 : Int32) (v2 : Int32) (v3 : Int32) (I : (Nat → Nat → Int32)) : Option (Int32 × (Nat → Nat → Int32)) :=
  Option.bind (zloop (f154_worked_L12 v1 v3) 5000 ((0 : Int32), ((130 * v1) + v2), I)) fun s30 =>
  some ((s30.2.2 92 0), s30.2.2)
def f155_gives_L7 (v1 : Int32) (s : (Int32 × Int32 × (Nat → Nat → Int32))) : Option ((Int32 × (Nat → Nat → Int32)) ⊕ ((Int32 × Int32 × (Nat → Nat → Int32)) ⊕ (Int32 × Int32 × (Nat → Nat → Int32)))) :=
  bif zin v1 5 then
  if ((61 * v1) + (s.2.2 88 v1.toNatClampNeg)) ≤ s.2.1 then
    some (.inr (.inl (s.1, s.2.1, s.2.2)))
  else
    bif zin s.2.1 305 then
    if (s.2.2 89 s.2.1.toNatClampNeg) = s.1 then
      bif zin s.2.1 305 then
      bif zin s.2.1 305 then
      Option.bind (f154_worked v1 (s.2.2 89 s.2.1.toNatClampNeg) (s.2.2 90 s.2.1.toNatClampNeg) s.2.2) fun t6 =>
      some (.inl (t6.1, t6.2))
      else none
      else none
    else
      bif zin s.2.1 305 then
      Option.bind (f154_worked v1 s.1 (s.2.2 89 s.2.1.toNatClampNeg) s.2.2) fun t9 =>
      if t9.1 = 0 then
        bif zin s.2.1 305 then
        some (.inr (.inr ((t9.2 90 s.2.1.toNatClampNeg), (s.2.1 + 1), t9.2)))
        else none
      else
        bif zin s.2.1 305 then
        bif zin s.2.1 305 then
        Option.bind (f154_worked v1 (t9.2 89 s.2.1.toNatClampNeg) (t9.2 90 s.2.1.toNatClampNeg) t9.2) fun t14 =>
        some (.inl (t14.1, t14.2))
        else none
        else none
      else none
    else none
  else none
def f155_gives (v1 : Int32) (I : (Nat → Nat → Int32)) : Option (Int32 × (Nat → Nat → Int32)) :=
  zbR (zloopR (f155_gives_L7 v1) 5000 ((0 : Int32), (61 * v1), I)) (fun rr => some rr) fun s18 =>
  some (0, s18.2.2)
def f168_goal_L60 (v1 : Int32) (v2 : Int32) (I : (Nat → Nat → Int32)) (s : Int32) : Option ((Int32 × (Nat → Nat → Int32)) ⊕ (Int32 ⊕ Int32)) :=
  if (I 73 1) ≤ s then
    some (.inr (.inl s))
  else
    bif zin s 4 then
    bif zin v1 8 then
    if (I 75 s.toNatClampNeg) = (I 81 v1.toNatClampNeg) then
      some (.inl (s, I))
    else
      some (.inr (.inr (s + 1)))
    else none
    else none
def f168_goal_L122 (v1 : Int32) (v2 : Int32) (v4 : Int32) (v5 : Int32) (v6 : Int32) (I : (Nat → Nat → Int32)) (s : (Int32 × Int32)) : Option ((Int32 × Int32) ⊕ (Int32 × Int32)) :=
  if (I 73 1) ≤ s.2 then
    some (.inl (s.1, s.2))
  else
    bif zin ((4 * v6) + s.2) 240 then
    bif zin ((4 * v6) + s.1) 240 then
    if (I 101 ((4 * v6) + s.2).toNatClampNeg) ≤ (I 101 ((4 * v6) + s.1).toNatClampNeg) then
      some (.inr (s.1, (s.2 + 1)))
    else
      some (.inr (s.2, (s.2 + 1)))
    else none
    else none
def f168_goal (v1 : Int32) (v2 : Int32) (v3 : Int32) (v4 : Int32) (I : (Nat → Nat → Int32)) : Option (Int32 × (Nat → Nat → Int32)) :=
  if v1 = (I 73 47) then
    if (I 73 48) ≤ v3 then
      some ((I 73 49), I)
    else
      some (v2, I)
  else
    if v1 = (I 73 50) then
      Option.bind (f156_isLaw (I 73 51) I) fun t3 =>
      if t3 = 0 then
        zbR (zloopR (f168_goal_L60 v1 v2 I) 5000 (0 : Int32)) (fun rr => some rr) fun s8 =>
        some (v2, I)
      else
        if (I 73 16) ≤ v3 then
          Option.bind (zloop (f168_goal_L122 v1 v2 v4 (I 73 51) (v3 - (I 73 16)) I) 5000 ((0 : Int32), (1 : Int32))) fun s15 =>
          bif zin v1 8 then
          bif zin ((8 * v2) + v1) 32 then
          bif zin ((4 * (v3 - (I 73 16))) + s15.1) 240 then
          bif zin ((4 * (v3 - (I 73 16))) + v2) 240 then
          Option.bind (f155_gives (I 73 51) (zu (zu (zu (zu (zu (zu (zu (zu I 91 0 v4) 91 1 v1) 91 2 (I 81 v1.toNatClampNeg)) 91 3 v2) 91 4 (I 97 ((8 * v2) + v1).toNatClampNeg)) 91 5 s15.1) 91 6 (I 101 ((4 * (v3 - (I 73 16))) + s15.1).toNatClampNeg)) 91 7 (I 101 ((4 * (v3 - (I 73 16))) + v2).toNatClampNeg))) fun t22 =>
          some (t22.1, t22.2)
          else none
          else none
          else none
          else none
        else
          Option.bind (zloop (f168_goal_L122 v1 v2 v4 (I 73 51) 0 I) 5000 ((0 : Int32), (1 : Int32))) fun s23 =>
          bif zin v1 8 then
          bif zin ((8 * v2) + v1) 32 then
          bif zin (0 + s23.1) 240 then
          bif zin (0 + v2) 240 then
          Option.bind (f155_gives (I 73 51) (zu (zu (zu (zu (zu (zu (zu (zu I 91 0 v4) 91 1 v1) 91 2 (I 81 v1.toNatClampNeg)) 91 3 v2) 91 4 (I 97 ((8 * v2) + v1).toNatClampNeg)) 91 5 s23.1) 91 6 (I 101 (0 + s23.1).toNatClampNeg)) 91 7 (I 101 (0 + v2).toNatClampNeg))) fun t30 =>
          some (t30.1, t30.2)
          else none
          else none
          else none
          else none
    else
      bif zin v1 8 then
      Option.bind (f156_isLaw (I 84 v1.toNatClampNeg) I) fun t35 =>
      if t35 = 0 then
        zbR (zloopR (f168_goal_L60 v1 v2 I) 5000 (0 : Int32)) (fun rr => some rr) fun s36 =>
        some (v2, I)
      else
        if (I 73 16) ≤ v3 then
          Option.bind (zloop (f168_goal_L122 v1 v2 v4 (I 84 v1.toNatClampNeg) (v3 - (I 73 16)) I) 5000 ((0 : Int32), (1 : Int32))) fun s39 =>
          bif zin v1 8 then
          bif zin ((8 * v2) + v1) 32 then
          bif zin ((4 * (v3 - (I 73 16))) + s39.1) 240 then
          bif zin ((4 * (v3 - (I 73 16))) + v2) 240 then
          Option.bind (f155_gives (I 84 v1.toNatClampNeg) (zu (zu (zu (zu (zu (zu (zu (zu I 91 0 v4) 91 1 v1) 91 2 (I 81 v1.toNatClampNeg)) 91 3 v2) 91 4 (I 97 ((8 * v2) + v1).toNatClampNeg)) 91 5 s39.1) 91 6 (I 101 ((4 * (v3 - (I 73 16))) + s39.1).toNatClampNeg)) 91 7 (I 101 ((4 * (v3 - (I 73 16))) + v2).toNatClampNeg))) fun t46 =>
          some (t46.1, t46.2)
          else none
          else none
          else none
          else none
        else
          Option.bind (zloop (f168_goal_L122 v1 v2 v4 (I 84 v1.toNatClampNeg) 0 I) 5000 ((0 : Int32), (1 : Int32))) fun s47 =>
          bif zin v1 8 then
          bif zin ((8 * v2) + v1) 32 then
          bif zin (0 + s47.1) 240 then
          bif zin (0 + v2) 240 then
          Option.bind (f155_gives (I 84 v1.toNatClampNeg) (zu (zu (zu (zu (zu (zu (zu (zu I 91 0 v4) 91 1 v1) 91 2 (I 81 v1.toNatClampNeg)) 91 3 v2) 91 4 (I 97 ((8 * v2) + v1).toNatClampNeg)) 91 5 s47.1) 91 6 (I 101 (0 + s47.1).toNatClampNeg)) 91 7 (I 101 (0 + v2).toNatClampNeg))) fun t54 =>
          some (t54.1, t54.2)
          else none
          else none
          else none
          else none
      else none
def f169_doesLead (v0 : Int32) (v1 : Int32) (v2 : Int32) (v3 : Int32) : Option Int32 :=
  if v0 = v2 then
    if v1 = v3 then
      some 1
    else
      if v0 = v3 then
        if v1 = v2 then
          some 1
        else
          some 0
      else
        some 0
  else
    if v0 = v3 then
      if v1 = v2 then
        some 1
      else
        some 0
    else
      some 0
def f170_go_L2 (v1 : Int32) (v2 : Int32) (s : (Int32 × (Nat → Nat → Int32))) : Option ((Int32 × (Nat → Nat → Int32)) ⊕ (Int32 × (Nat → Nat → Int32))) :=
  if (24 : Int32) ≤ s.1 then
    some (.inl (s.1, s.2))
  else
    bif zin s.1 24 then
    some (.inr ((s.1 + 1), (zu s.2 102 s.1.toNatClampNeg 0)))
    else none
def f170_go_L97 (v1 : Int32) (v2 : Int32) (v3 : Int32) (v4 : Int32) (v5 : Int32) (I : (Nat → Nat → Int32)) (s : (Int32 × Int32)) : Option ((Int32 × Int32) ⊕ (Int32 × Int32)) :=
  if (I 73 4) ≤ s.2 then
    some (.inl (s.1, s.2))
  else
    bif zin s.2 12 then
    bif zin s.2 12 then
    Option.bind (f169_doesLead (I 76 s.2.toNatClampNeg) (I 77 s.2.toNatClampNeg) v4 v5) fun t13 =>
    if t13 = 0 then
      some (.inr (s.1, (s.2 + 1)))
    else
      if s.1 < 0 then
        some (.inr (s.2, (s.2 + 1)))
      else
        bif zin s.2 12 then
        bif zin s.1 12 then
        if (I 78 s.1.toNatClampNeg) ≤ (I 78 s.2.toNatClampNeg) then
          some (.inr (s.1, (s.2 + 1)))
        else
          some (.inr (s.2, (s.2 + 1)))
        else none
        else none
    else none
    else none
def f170_go_L34 (v1 : Int32) (v2 : Int32) (v3 : Int32) (s : (Int32 × (Nat → Nat → Int32))) : Option ((Int32 × (Nat → Nat → Int32)) ⊕ (Int32 × (Nat → Nat → Int32))) :=
  if (s.2 73 1) ≤ s.1 then
    some (.inl (s.1, s.2))
  else
    bif zin ((8 * s.1) + v3) 32 then
    if (s.2 97 ((8 * s.1) + v3).toNatClampNeg) = 0 then
      some (.inr ((s.1 + 1), s.2))
    else
      Option.bind (f168_goal v3 s.1 v1 v2 s.2) fun t7 =>
      Option.bind (f130_isSquare t7.1 t7.2) fun t9 =>
      if t9 = 0 then
        some (.inr ((s.1 + 1), t7.2))
      else
        if t7.1 = s.1 then
          some (.inr ((s.1 + 1), t7.2))
        else
          Option.bind (zloop (f170_go_L97 v1 v2 v3 s.1 t7.1 t7.2) 5000 (((-1) : Int32), (0 : Int32))) fun s20 =>
          if (0 : Int32) ≤ s20.1 then
            bif zin s20.1 12 then
            if (t7.2 76 s20.1.toNatClampNeg) = s.1 then
              bif zin s20.1 12 then
              bif zin ((2 * s20.1) + 0) 24 then
              bif zin ((8 * s.1) + v3) 32 then
              if ((t7.2 79 s20.1.toNatClampNeg) - (t7.2 102 ((2 * s20.1) + 0).toNatClampNeg)) ≤ (t7.2 97 ((8 * s.1) + v3).toNatClampNeg) then
                bif zin ((2 * s20.1) + 0) 24 then
                bif zin ((2 * s20.1) + 0) 24 then
                bif zin ((8 * s.1) + v3) 32 then
                bif zin ((8 * s.1) + v3) 32 then
                bif zin s20.1 12 then
                bif zin v3 8 then
                bif zin (((32 * (v1 + ((t7.2 78 s20.1.toNatClampNeg) * (t7.2 83 v3.toNatClampNeg)))) + (8 * t7.1)) + v3) 4864 then
                bif zin (((32 * (v1 + ((t7.2 78 s20.1.toNatClampNeg) * (t7.2 83 v3.toNatClampNeg)))) + (8 * t7.1)) + v3) 4864 then
                some (.inr ((s.1 + 1), (zu (zu (zu t7.2 102 ((2 * s20.1) + 0).toNatClampNeg ((t7.2 102 ((2 * s20.1) + 0).toNatClampNeg) + ((t7.2 79 s20.1.toNatClampNeg) - (t7.2 102 ((2 * s20.1) + 0).toNatClampNeg)))) 97 ((8 * s.1) + v3).toNatClampNeg ((t7.2 97 ((8 * s.1) + v3).toNatClampNeg) - ((t7.2 79 s20.1.toNatClampNeg) - (t7.2 102 ((2 * s20.1) + 0).toNatClampNeg)))) 99 (((32 * (v1 + ((t7.2 78 s20.1.toNatClampNeg) * (t7.2 83 v3.toNatClampNeg)))) + (8 * t7.1)) + v3).toNatClampNeg ((t7.2 99 (((32 * (v1 + ((t7.2 78 s20.1.toNatClampNeg) * (t7.2 83 v3.toNatClampNeg)))) + (8 * t7.1)) + v3).toNatClampNeg) + ((t7.2 79 s20.1.toNatClampNeg) - (t7.2 102 ((2 * s20.1) + 0).toNatClampNeg))))))
                else none
                else none
                else none
                else none
                else none
                else none
                else none
                else none
              else
                bif zin ((8 * s.1) + v3) 32 then
                bif zin ((2 * s20.1) + 0) 24 then
                bif zin ((2 * s20.1) + 0) 24 then
                bif zin ((8 * s.1) + v3) 32 then
                bif zin ((8 * s.1) + v3) 32 then
                bif zin s20.1 12 then
                bif zin v3 8 then
                bif zin (((32 * (v1 + ((t7.2 78 s20.1.toNatClampNeg) * (t7.2 83 v3.toNatClampNeg)))) + (8 * t7.1)) + v3) 4864 then
                bif zin (((32 * (v1 + ((t7.2 78 s20.1.toNatClampNeg) * (t7.2 83 v3.toNatClampNeg)))) + (8 * t7.1)) + v3) 4864 then
                some (.inr ((s.1 + 1), (zu (zu (zu t7.2 102 ((2 * s20.1) + 0).toNatClampNeg ((t7.2 102 ((2 * s20.1) + 0).toNatClampNeg) + (t7.2 97 ((8 * s.1) + v3).toNatClampNeg))) 97 ((8 * s.1) + v3).toNatClampNeg ((t7.2 97 ((8 * s.1) + v3).toNatClampNeg) - (t7.2 97 ((8 * s.1) + v3).toNatClampNeg))) 99 (((32 * (v1 + ((t7.2 78 s20.1.toNatClampNeg) * (t7.2 83 v3.toNatClampNeg)))) + (8 * t7.1)) + v3).toNatClampNeg ((t7.2 99 (((32 * (v1 + ((t7.2 78 s20.1.toNatClampNeg) * (t7.2 83 v3.toNatClampNeg)))) + (8 * t7.1)) + v3).toNatClampNeg) + (t7.2 97 ((8 * s.1) + v3).toNatClampNeg)))))
                else none
                else none
                else none
                else none
                else none
                else none
                else none
                else none
                else none
              else none
              else none
              else none
            else
              bif zin s20.1 12 then
              bif zin ((2 * s20.1) + 1) 24 then
              bif zin ((8 * s.1) + v3) 32 then
              if ((t7.2 79 s20.1.toNatClampNeg) - (t7.2 102 ((2 * s20.1) + 1).toNatClampNeg)) ≤ (t7.2 97 ((8 * s.1) + v3).toNatClampNeg) then
                bif zin ((2 * s20.1) + 1) 24 then
                bif zin ((2 * s20.1) + 1) 24 then
                bif zin ((8 * s.1) + v3) 32 then
                bif zin ((8 * s.1) + v3) 32 then
                bif zin s20.1 12 then
                bif zin v3 8 then
                bif zin (((32 * (v1 + ((t7.2 78 s20.1.toNatClampNeg) * (t7.2 83 v3.toNatClampNeg)))) + (8 * t7.1)) + v3) 4864 then
                bif zin (((32 * (v1 + ((t7.2 78 s20.1.toNatClampNeg) * (t7.2 83 v3.toNatClampNeg)))) + (8 * t7.1)) + v3) 4864 then
                some (.inr ((s.1 + 1), (zu (zu (zu t7.2 102 ((2 * s20.1) + 1).toNatClampNeg ((t7.2 102 ((2 * s20.1) + 1).toNatClampNeg) + ((t7.2 79 s20.1.toNatClampNeg) - (t7.2 102 ((2 * s20.1) + 1).toNatClampNeg)))) 97 ((8 * s.1) + v3).toNatClampNeg ((t7.2 97 ((8 * s.1) + v3).toNatClampNeg) - ((t7.2 79 s20.1.toNatClampNeg) - (t7.2 102 ((2 * s20.1) + 1).toNatClampNeg)))) 99 (((32 * (v1 + ((t7.2 78 s20.1.toNatClampNeg) * (t7.2 83 v3.toNatClampNeg)))) + (8 * t7.1)) + v3).toNatClampNeg ((t7.2 99 (((32 * (v1 + ((t7.2 78 s20.1.toNatClampNeg) * (t7.2 83 v3.toNatClampNeg)))) + (8 * t7.1)) + v3).toNatClampNeg) + ((t7.2 79 s20.1.toNatClampNeg) - (t7.2 102 ((2 * s20.1) + 1).toNatClampNeg))))))
                else none
                else none
                else none
                else none
                else none
                else none
                else none
                else none
              else
                bif zin ((8 * s.1) + v3) 32 then
                bif zin ((2 * s20.1) + 1) 24 then
                bif zin ((2 * s20.1) + 1) 24 then
                bif zin ((8 * s.1) + v3) 32 then
                bif zin ((8 * s.1) + v3) 32 then
                bif zin s20.1 12 then
                bif zin v3 8 then
                bif zin (((32 * (v1 + ((t7.2 78 s20.1.toNatClampNeg) * (t7.2 83 v3.toNatClampNeg)))) + (8 * t7.1)) + v3) 4864 then
                bif zin (((32 * (v1 + ((t7.2 78 s20.1.toNatClampNeg) * (t7.2 83 v3.toNatClampNeg)))) + (8 * t7.1)) + v3) 4864 then
                some (.inr ((s.1 + 1), (zu (zu (zu t7.2 102 ((2 * s20.1) + 1).toNatClampNeg ((t7.2 102 ((2 * s20.1) + 1).toNatClampNeg) + (t7.2 97 ((8 * s.1) + v3).toNatClampNeg))) 97 ((8 * s.1) + v3).toNatClampNeg ((t7.2 97 ((8 * s.1) + v3).toNatClampNeg) - (t7.2 97 ((8 * s.1) + v3).toNatClampNeg))) 99 (((32 * (v1 + ((t7.2 78 s20.1.toNatClampNeg) * (t7.2 83 v3.toNatClampNeg)))) + (8 * t7.1)) + v3).toNatClampNeg ((t7.2 99 (((32 * (v1 + ((t7.2 78 s20.1.toNatClampNeg) * (t7.2 83 v3.toNatClampNeg)))) + (8 * t7.1)) + v3).toNatClampNeg) + (t7.2 97 ((8 * s.1) + v3).toNatClampNeg)))))
                else none
                else none
                else none
                else none
                else none
                else none
                else none
                else none
                else none
              else none
              else none
              else none
            else none
          else
            some (.inr ((s.1 + 1), t7.2))
    else none
def f170_go_L23 (v1 : Int32) (v2 : Int32) (s : (Int32 × (Nat → Nat → Int32))) : Option ((Int32 × (Nat → Nat → Int32)) ⊕ (Int32 × (Nat → Nat → Int32))) :=
  if (s.2 73 9) ≤ s.1 then
    some (.inl (s.1, s.2))
  else
    Option.bind (zloop (f170_go_L34 v1 v2 s.1) 5000 ((0 : Int32), s.2)) fun s71 =>
    some (.inr ((s.1 + 1), s71.2))
def f170_go (v1 : Int32) (v2 : Int32) (I : (Nat → Nat → Int32)) : Option (Nat → Nat → Int32) :=
  Option.bind (zloop (f170_go_L2 v1 v2) 5000 ((0 : Int32), I)) fun s3 =>
  Option.bind (zloop (f170_go_L23 v1 v2) 5000 ((0 : Int32), s3.2)) fun s74 =>
  some s74.2
def f172_countSquare_L72 (v1 : Int32) (v2 : Int32) (v3 : Int32) (I : (Nat → Nat → Int32)) (s : (Int32 × Int32)) : Option ((Int32 × Int32) ⊕ (Int32 × Int32)) :=
  if v2 ≤ s.2 then
    some (.inl (s.1, s.2))
  else
    bif zin (((32 * s.2) + (8 * v1)) + v3) 1952 then
    if s.1 ≤ (I 100 (((32 * s.2) + (8 * v1)) + v3).toNatClampNeg) then
      some (.inr (s.1, (s.2 + 1)))
    else
      bif zin (((32 * s.2) + (8 * v1)) + v3) 1952 then
      some (.inr ((I 100 (((32 * s.2) + (8 * v1)) + v3).toNatClampNeg), (s.2 + 1)))
      else none
    else none
def f172_countSquare_L31 (v1 : Int32) (v2 : Int32) (s : (Int32 × (Nat → Nat → Int32))) : Option ((Int32 × (Nat → Nat → Int32)) ⊕ (Int32 × (Nat → Nat → Int32))) :=
  if (s.2 73 9) ≤ s.1 then
    some (.inl (s.1, s.2))
  else
    bif zin ((8 * v1) + s.1) 32 then
    if (s.2 73 17) ≤ v2 then
      Option.bind (zloop (f172_countSquare_L72 v1 v2 s.1 s.2) 5000 ((s.2 97 ((8 * v1) + s.1).toNatClampNeg), (v2 - (s.2 73 17)))) fun s7 =>
      bif zin v1 4 then
      bif zin v1 4 then
      some (.inr ((s.1 + 1), (zu s.2 103 v1.toNatClampNeg ((s.2 103 v1.toNatClampNeg) + s7.1))))
      else none
      else none
    else
      Option.bind (zloop (f172_countSquare_L72 v1 v2 s.1 s.2) 5000 ((s.2 97 ((8 * v1) + s.1).toNatClampNeg), (0 : Int32))) fun s11 =>
      bif zin v1 4 then
      bif zin v1 4 then
      some (.inr ((s.1 + 1), (zu s.2 103 v1.toNatClampNeg ((s.2 103 v1.toNatClampNeg) + s11.1))))
      else none
      else none
    else none
def f172_countSquare (v1 : Int32) (v2 : Int32) (I : (Nat → Nat → Int32)) : Option (Nat → Nat → Int32) :=
  if (I 73 45) ≤ 0 then
    bif zin v1 4 then
    Option.bind (zloop (f172_countSquare_L31 v1 v2) 5000 ((0 : Int32), (zu I 103 v1.toNatClampNeg 0))) fun s17 =>
    some s17.2
    else none
  else
    if v1 = (I 73 46) then
      bif zin v1 4 then
      Option.bind (zloop (f172_countSquare_L31 v1 v2) 5000 ((0 : Int32), (zu I 103 v1.toNatClampNeg (I 73 45)))) fun s20 =>
      some s20.2
      else none
    else
      bif zin v1 4 then
      Option.bind (zloop (f172_countSquare_L31 v1 v2) 5000 ((0 : Int32), (zu I 103 v1.toNatClampNeg 0))) fun s23 =>
      some s23.2
      else none
def f173_counts_L2 (v1 : Int32) (s : (Int32 × (Nat → Nat → Int32))) : Option ((Int32 × (Nat → Nat → Int32)) ⊕ (Int32 × (Nat → Nat → Int32))) :=
  if (s.2 73 1) ≤ s.1 then
    some (.inl (s.1, s.2))
  else
    Option.bind (f172_countSquare s.1 v1 s.2) fun t2 =>
    some (.inr ((s.1 + 1), t2))
def f173_counts_L29 (s : (Int32 × (Nat → Nat → Int32))) : Option ((Int32 × (Nat → Nat → Int32)) ⊕ (Int32 × (Nat → Nat → Int32))) :=
  if (s.2 73 1) ≤ s.1 then
    some (.inl (s.1, s.2))
  else
    bif zin s.1 4 then
    bif zin (s.2 73 53) 4 then
    if (s.2 103 s.1.toNatClampNeg) ≤ (s.2 103 (s.2 73 53).toNatClampNeg) then
      some (.inr ((s.1 + 1), s.2))
    else
      some (.inr ((s.1 + 1), (zu s.2 73 53 s.1)))
    else none
    else none
def f173_counts_L70 (I : (Nat → Nat → Int32)) (s : (Int32 × Int32)) : Option ((Int32 × Int32) ⊕ (Int32 × Int32)) :=
  if (I 73 1) ≤ s.2 then
    some (.inl (s.1, s.2))
  else
    if s.2 = (I 73 53) then
      some (.inr (s.1, (s.2 + 1)))
    else
      bif zin s.2 4 then
      if (I 103 s.2.toNatClampNeg) ≤ s.1 then
        some (.inr (s.1, (s.2 + 1)))
      else
        bif zin s.2 4 then
        some (.inr ((I 103 s.2.toNatClampNeg), (s.2 + 1)))
        else none
      else none
def f173_counts (v1 : Int32) (I : (Nat → Nat → Int32)) : Option (Nat → Nat → Int32) :=
  Option.bind (zloop (f173_counts_L2 v1) 5000 ((0 : Int32), I)) fun s4 =>
  Option.bind (zloop f173_counts_L29 5000 ((1 : Int32), (zu s4.2 73 53 0))) fun s10 =>
  Option.bind (zloop (f173_counts_L70 s10.2) 5000 ((0 : Int32), (0 : Int32))) fun s17 =>
  bif zin (s10.2 73 53) 4 then
  bif zin (s10.2 73 53) 4 then
  some (zu (zu s10.2 73 54 ((s10.2 103 (s10.2 73 53).toNatClampNeg) - s17.1)) 73 52 (s10.2 75 (s10.2 73 53).toNatClampNeg))
  else none
  else none
def f171_goTo_L2 (v1 : Int32) (s : (Int32 × (Nat → Nat → Int32))) : Option ((Int32 × (Nat → Nat → Int32)) ⊕ (Int32 × (Nat → Nat → Int32))) :=
  if (32 : Int32) ≤ s.1 then
    some (.inl (s.1, s.2))
  else
    bif zin s.1 32 then
    bif zin s.1 32 then
    some (.inr ((s.1 + 1), (zu (zu s.2 97 s.1.toNatClampNeg 0) 98 s.1.toNatClampNeg 0)))
    else none
    else none
def f171_goTo_L30 (v1 : Int32) (s : (Int32 × (Nat → Nat → Int32))) : Option ((Int32 × (Nat → Nat → Int32)) ⊕ (Int32 × (Nat → Nat → Int32))) :=
  if (4864 : Int32) ≤ s.1 then
    some (.inl (s.1, s.2))
  else
    bif zin s.1 4864 then
    some (.inr ((s.1 + 1), (zu s.2 99 s.1.toNatClampNeg 0)))
    else none
def f171_goTo_L52 (v1 : Int32) (s : (Int32 × (Nat → Nat → Int32))) : Option ((Int32 × (Nat → Nat → Int32)) ⊕ (Int32 × (Nat → Nat → Int32))) :=
  if (s.2 73 9) ≤ s.1 then
    some (.inl (s.1, s.2))
  else
    bif zin s.1 8 then
    bif zin s.1 8 then
    bif zin ((8 * (s.2 82 s.1.toNatClampNeg)) + s.1) 32 then
    some (.inr ((s.1 + 1), (zu s.2 97 ((8 * (s.2 82 s.1.toNatClampNeg)) + s.1).toNatClampNeg (s.2 80 s.1.toNatClampNeg))))
    else none
    else none
    else none
def f171_goTo_L97 (v1 : Int32) (v2 : Int32) (s : (Int32 × (Nat → Nat → Int32))) : Option ((Int32 × (Nat → Nat → Int32)) ⊕ (Int32 × (Nat → Nat → Int32))) :=
  if (s.2 73 1) ≤ s.1 then
    some (.inl (s.1, s.2))
  else
    Option.bind (f166_inSquare s.1 s.2) fun t17 =>
    bif zin ((4 * v2) + s.1) 240 then
    some (.inr ((s.1 + 1), (zu s.2 101 ((4 * v2) + s.1).toNatClampNeg t17)))
    else none
def f171_goTo_L141 (v1 : Int32) (v2 : Int32) (s : (Int32 × (Nat → Nat → Int32))) : Option ((Int32 × (Nat → Nat → Int32)) ⊕ (Int32 × (Nat → Nat → Int32))) :=
  if (32 : Int32) ≤ s.1 then
    some (.inl (s.1, s.2))
  else
    bif zin s.1 32 then
    bif zin ((32 * v2) + s.1) 1952 then
    some (.inr ((s.1 + 1), (zu s.2 100 ((32 * v2) + s.1).toNatClampNeg (s.2 97 s.1.toNatClampNeg))))
    else none
    else none
def f171_goTo_L90 (v1 : Int32) (s : (Int32 × (Nat → Nat → Int32))) : Option ((Int32 × (Nat → Nat → Int32)) ⊕ (Int32 × (Nat → Nat → Int32))) :=
  if v1 ≤ s.1 then
    some (.inl (s.1, s.2))
  else
    Option.bind (zloop (f171_goTo_L97 v1 s.1) 5000 ((0 : Int32), s.2)) fun s20 =>
    Option.bind (f167_arrive s.1 s20.2) fun t23 =>
    Option.bind (f170_go s.1 (v1 - s.1) t23) fun t25 =>
    Option.bind (zloop (f171_goTo_L141 v1 s.1) 5000 ((0 : Int32), t25)) fun s29 =>
    some (.inr ((s.1 + 1), s29.2))
def f171_goTo_L183 (v1 : Int32) (s : (Int32 × (Nat → Nat → Int32))) : Option ((Int32 × (Nat → Nat → Int32)) ⊕ (Int32 × (Nat → Nat → Int32))) :=
  if (32 : Int32) ≤ s.1 then
    some (.inl (s.1, s.2))
  else
    bif zin s.1 32 then
    bif zin ((32 * v1) + s.1) 1952 then
    some (.inr ((s.1 + 1), (zu s.2 100 ((32 * v1) + s.1).toNatClampNeg (s.2 97 s.1.toNatClampNeg))))
    else none
    else none
def f171_goTo (v1 : Int32) (I : (Nat → Nat → Int32)) : Option (Int32 × (Nat → Nat → Int32)) :=
  Option.bind (zloop (f171_goTo_L2 v1) 5000 ((0 : Int32), I)) fun s4 =>
  Option.bind (zloop (f171_goTo_L30 v1) 5000 ((0 : Int32), s4.2)) fun s8 =>
  Option.bind (zloop (f171_goTo_L52 v1) 5000 ((0 : Int32), s8.2)) fun s14 =>
  Option.bind (zloop (f171_goTo_L90 v1) 5000 ((0 : Int32), s14.2)) fun s32 =>
  Option.bind (f167_arrive v1 s32.2) fun t35 =>
  Option.bind (zloop (f171_goTo_L183 v1) 5000 ((0 : Int32), t35)) fun s39 =>
  Option.bind (f173_counts v1 s39.2) fun t42 =>
  some ((t42 73 52), t42)
def f174_run_L74 (s : (Int32 × (Nat → Nat → Int32))) : Option ((Int32 × (Nat → Nat → Int32)) ⊕ (Int32 × (Nat → Nat → Int32))) :=
  if (s.2 73 9) ≤ s.1 then
    some (.inl (s.1, s.2))
  else
    bif zin s.1 8 then
    some (.inr ((s.1 + 1), (zu s.2 73 59 ((s.2 73 59) + (s.2 80 s.1.toNatClampNeg)))))
    else none
def f174_run_L105 (s : (Int32 × (Nat → Nat → Int32))) : Option ((Int32 × (Nat → Nat → Int32)) ⊕ (Int32 × (Nat → Nat → Int32))) :=
  if (32 : Int32) ≤ s.1 then
    some (.inl (s.1, s.2))
  else
    bif zin s.1 32 then
    some (.inr ((s.1 + 1), (zu s.2 73 59 ((s.2 73 59) - (s.2 97 s.1.toNatClampNeg)))))
    else none
def f174_run_L134 (s : (Int32 × (Nat → Nat → Int32))) : Option ((Int32 × (Nat → Nat → Int32)) ⊕ (Int32 × (Nat → Nat → Int32))) :=
  if (1952 : Int32) ≤ s.1 then
    some (.inl (s.1, s.2))
  else
    bif zin s.1 1952 then
    bif zin s.1 1952 then
    some (.inr ((s.1 + 1), (zu s.2 104 s.1.toNatClampNeg (s.2 100 s.1.toNatClampNeg))))
    else none
    else none
def f174_run_L161 (s : (Int32 × (Nat → Nat → Int32))) : Option ((Int32 × (Nat → Nat → Int32)) ⊕ (Int32 × (Nat → Nat → Int32))) :=
  if (s.2 73 1) ≤ s.1 then
    some (.inl (s.1, s.2))
  else
    bif zin s.1 4 then
    bif zin s.1 4 then
    some (.inr ((s.1 + 1), (zu s.2 105 s.1.toNatClampNeg (s.2 103 s.1.toNatClampNeg))))
    else none
    else none
def f174_run (I : (Nat → Nat → Int32)) : Option (Int32 × (Nat → Nat → Int32)) :=
  if (I 73 1) = 0 then
    some ((-5), I)
  else
    Option.bind (f171_goTo (I 73 15) I) fun t2 =>
    Option.bind (zloop f174_run_L74 5000 ((0 : Int32), (zu (zu (zu (zu (zu (zu (zu t2.2 73 55 (t2.2 73 15)) 73 56 (t2.2 73 53)) 73 57 (t2.2 73 52)) 73 58 (t2.2 73 54)) 73 60 (t2.2 73 1)) 73 61 (t2.2 73 9)) 73 59 0))) fun s5 =>
    Option.bind (zloop f174_run_L105 5000 ((0 : Int32), s5.2)) fun s9 =>
    Option.bind (zloop f174_run_L134 5000 ((0 : Int32), s9.2)) fun s14 =>
    Option.bind (zloop f174_run_L161 5000 ((0 : Int32), s14.2)) fun s19 =>
    some ((s19.2 73 52), s19.2)
def f36_hasSquare_24 (v1 : Int32) (I : (Nat → Nat → Int32)) : Option Int32 :=
  if v1 < 0 then
    some 0
  else
    if (I 24 13) ≤ v1 then
      some 0
    else
      some 1
def f38_atEnd_24 (v1 : Int32) (v2 : Int32) (v3 : Int32) (I : (Nat → Nat → Int32)) : Option Int32 :=
  bif zin (((v1 * 32) + (v2 * 8)) + v3) 1952 then
  some (I 33 (((v1 * 32) + (v2 * 8)) + v3).toNatClampNeg)
  else none
def f39_allAtEnd_24_L5 (v1 : Int32) (v2 : Int32) (I : (Nat → Nat → Int32)) (s : (Int32 × Int32)) : Option ((Int32 × Int32) ⊕ (Int32 × Int32)) :=
  if (8 : Int32) ≤ s.2 then
    some (.inl (s.1, s.2))
  else
    Option.bind (f38_atEnd_24 v1 v2 s.2 I) fun t2 =>
    some (.inr ((s.1 + t2), (s.2 + 1)))
def f39_allAtEnd_24 (v1 : Int32) (v2 : Int32) (I : (Nat → Nat → Int32)) : Option Int32 :=
  Option.bind (zloop (f39_allAtEnd_24_L5 v1 v2 I) 5000 ((0 : Int32), (0 : Int32))) fun s4 =>
  some s4.1
def f37_hasSort_24 (v1 : Int32) (I : (Nat → Nat → Int32)) : Option Int32 :=
  if v1 < 0 then
    some 0
  else
    if (I 24 14) ≤ v1 then
      some 0
    else
      some 1
def f97_led (v1 : Int32) (v2 : Int32) (v3 : Int32) (I : (Nat → Nat → Int32)) : Option Int32 :=
  if (I 0 7) = 0 then
    some (-2000000000)
  else
    Option.bind (f126_within v1 0 (I 25 0)) fun t2 =>
    if t2 = 0 then
      some (-2000000000)
    else
      Option.bind (f36_hasSquare_24 v2 I) fun t4 =>
      if t4 = 0 then
        some (-2000000000)
      else
        if v3 = (-1) then
          Option.bind (f39_allAtEnd_24 v1 v2 I) fun t6 =>
          some t6
        else
          Option.bind (f37_hasSort_24 v3 I) fun t8 =>
          if t8 = 0 then
            some (-2000000000)
          else
            Option.bind (f38_atEnd_24 v1 v2 v3 I) fun t10 =>
            some t10
def f175_led_L57 (v1 : Int32) (v2 : Int32) (v3 : Int32) (I : (Nat → Nat → Int32)) (s : (Int32 × Int32)) : Option ((Int32 × Int32) ⊕ (Int32 × Int32)) :=
  if (I 73 61) ≤ s.2 then
    some (.inl (s.1, s.2))
  else
    if v3 < 0 then
      bif zin (((32 * v1) + (8 * v2)) + s.2) 1952 then
      some (.inr ((s.1 + (I 104 (((32 * v1) + (8 * v2)) + s.2).toNatClampNeg)), (s.2 + 1)))
      else none
    else
      if s.2 = v3 then
        bif zin (((32 * v1) + (8 * v2)) + s.2) 1952 then
        some (.inr ((s.1 + (I 104 (((32 * v1) + (8 * v2)) + s.2).toNatClampNeg)), (s.2 + 1)))
        else none
      else
        some (.inr (s.1, (s.2 + 1)))
def f175_led (v1 : Int32) (v2 : Int32) (v3 : Int32) (I : (Nat → Nat → Int32)) : Option Int32 :=
  if (I 73 55) < 0 then
    some (-2000000000)
  else
    Option.bind (f129_in v1 0 (I 73 55)) fun t2 =>
    if t2 = 0 then
      some (-2000000000)
    else
      Option.bind (f129_in v2 0 ((I 73 60) - 1)) fun t4 =>
      if t4 = 0 then
        some (-2000000000)
      else
        Option.bind (f129_in v3 (-1) ((I 73 61) - 1)) fun t6 =>
        if t6 = 0 then
          some (-2000000000)
        else
          Option.bind (zloop (f175_led_L57 v1 v2 v3 I) 5000 ((0 : Int32), (0 : Int32))) fun s12 =>
          some s12.1
def f98_told (v1 : Int32) (I : (Nat → Nat → Int32)) : Option Int32 :=
  if (I 0 7) = 0 then
    some (-2000000000)
  else
    if v1.toInt = 0 then
      some (I 25 0)
    else
    if v1.toInt = 1 then
      some (I 24 16)
    else
    if v1.toInt = 2 then
      some (I 24 17)
    else
    if v1.toInt = 3 then
      some (I 24 18)
    else
    if v1.toInt = 4 then
      some (I 24 19)
    else
    if v1 < 10 then
      some (-2000000000)
    else
      Option.bind (f36_hasSquare_24 (v1 - 10) I) fun t2 =>
      if t2 = 0 then
        some (-2000000000)
      else
        bif zin (v1 - 10) 4 then
        some (I 37 (v1 - 10).toNatClampNeg)
        else none
def f176_told (v1 : Int32) (I : (Nat → Nat → Int32)) : Option Int32 :=
  if (0 : Int32) ≤ (I 73 55) then
    Option.bind (f129_in v1 10 (9 + (I 73 60))) fun t2 =>
    if t2 = 0 then
      if v1.toInt = 0 then
        some (I 73 55)
      else
      if v1.toInt = 1 then
        some (I 73 56)
      else
      if v1.toInt = 2 then
        some (I 73 57)
      else
      if v1.toInt = 3 then
        some (I 73 58)
      else
      if v1.toInt = 4 then
        some (I 73 59)
      else
      some (-2000000000)
    else
      bif zin (v1 - 10) 4 then
      some (I 105 (v1 - 10).toNatClampNeg)
      else none
  else
    some (-2000000000)
def f101_isSortAndWay (v1 : Int32) (I : (Nat → Nat → Int32)) : Option Int32 :=
  if v1 < 0 then
    some 0
  else
    Option.bind (f62_isSort (v1 / 100) I) fun t2 =>
    if t2 = 0 then
      some 0
    else
      Option.bind (f63_areTwoSquares (v1 - v1 / 100 * 100) I) fun t4 =>
      if t4 = 0 then
        some 0
      else
        some 1
def f77_lastMinute (v1 : Int32) (v2 : Int32) (v3 : Int32) (I : (Nat → Nat → Int32)) : Option Int32 :=
  bif zin v1 8 then
  bif zin ((v2 * 4) + v3) 16 then
  if (0 : Int32) ≤ ((I 1 3) - ((I 11 v1.toNatClampNeg) * (I 14 ((v2 * 4) + v3).toNatClampNeg))) then
    some ((I 1 3) - ((I 11 v1.toNatClampNeg) * (I 14 ((v2 * 4) + v3).toNatClampNeg)))
  else
    some (-2)
  else none
  else none
def f99_last (v1 : Int32) (I : (Nat → Nat → Int32)) : Option Int32 :=
  Option.bind (f101_isSortAndWay v1 I) fun t2 =>
  if t2 = 0 then
    some (-1)
  else
    Option.bind (f77_lastMinute (v1 / 100) ((v1 / 10) - (v1 / 10) / 10 * 10) (v1 - v1 / 10 * 10) I) fun t4 =>
    some t4
def f180_isTrip (v1 : Int32) (I : (Nat → Nat → Int32)) : Option Int32 :=
  if v1 < 0 then
    some 0
  else
    Option.bind (f131_isSort (v1 / 100) I) fun t2 =>
    if t2 = 0 then
      some 0
    else
      Option.bind (f130_isSquare ((v1 / 10) - (v1 / 10) / 10 * 10) I) fun t4 =>
      if t4 = 0 then
        some 0
      else
        Option.bind (f130_isSquare (v1 - v1 / 10 * 10) I) fun t6 =>
        if t6 = 0 then
          some 0
        else
          if ((v1 / 10) - (v1 / 10) / 10 * 10) = (v1 - v1 / 10 * 10) then
            some 0
          else
            some 1
def f178_nearer (v1 : Int32) (v2 : Int32) (v3 : Int32) (I : (Nat → Nat → Int32)) : Option (Nat → Nat → Int32) :=
  bif zin v1 4 then
  if (I 106 v1.toNatClampNeg) < 0 then
    some I
  else
    bif zin v2 4 then
    if (I 106 v2.toNatClampNeg) < 0 then
      bif zin v1 4 then
      bif zin v2 4 then
      some (zu I 106 v2.toNatClampNeg ((I 106 v1.toNatClampNeg) + v3))
      else none
      else none
    else
      bif zin v1 4 then
      bif zin v2 4 then
      if (I 106 v2.toNatClampNeg) ≤ ((I 106 v1.toNatClampNeg) + v3) then
        some I
      else
        bif zin v1 4 then
        bif zin v2 4 then
        some (zu I 106 v2.toNatClampNeg ((I 106 v1.toNatClampNeg) + v3))
        else none
        else none
      else none
      else none
    else none
  else none
def f177_fewest_L2 (v1 : Int32) (v2 : Int32) (s : (Int32 × (Nat → Nat → Int32))) : Option ((Int32 × (Nat → Nat → Int32)) ⊕ (Int32 × (Nat → Nat → Int32))) :=
  if (s.2 73 1) ≤ s.1 then
    some (.inl (s.1, s.2))
  else
    if s.1 = v1 then
      bif zin s.1 4 then
      some (.inr ((s.1 + 1), (zu s.2 106 s.1.toNatClampNeg 0)))
      else none
    else
      bif zin s.1 4 then
      some (.inr ((s.1 + 1), (zu s.2 106 s.1.toNatClampNeg (-1))))
      else none
def f177_fewest_L45 (v2 : Int32) (v3 : Int32) (s : (Int32 × (Nat → Nat → Int32))) : Option ((Int32 × (Nat → Nat → Int32)) ⊕ (Int32 × (Nat → Nat → Int32))) :=
  if (s.2 73 4) ≤ s.1 then
    some (.inl (s.1, s.2))
  else
    bif zin s.1 12 then
    bif zin s.1 12 then
    bif zin s.1 12 then
    Option.bind (f178_nearer (s.2 76 s.1.toNatClampNeg) (s.2 77 s.1.toNatClampNeg) (s.2 78 s.1.toNatClampNeg) s.2) fun t11 =>
    bif zin s.1 12 then
    bif zin s.1 12 then
    bif zin s.1 12 then
    Option.bind (f178_nearer (t11 77 s.1.toNatClampNeg) (t11 76 s.1.toNatClampNeg) (t11 78 s.1.toNatClampNeg) t11) fun t16 =>
    some (.inr ((s.1 + 1), t16))
    else none
    else none
    else none
    else none
    else none
    else none
def f177_fewest_L34 (v2 : Int32) (s : (Int32 × (Nat → Nat → Int32))) : Option ((Int32 × (Nat → Nat → Int32)) ⊕ (Int32 × (Nat → Nat → Int32))) :=
  if (s.2 73 1) ≤ s.1 then
    some (.inl (s.1, s.2))
  else
    Option.bind (zloop (f177_fewest_L45 v2 s.1) 5000 ((0 : Int32), s.2)) fun s18 =>
    some (.inr ((s.1 + 1), s18.2))
def f177_fewest (v1 : Int32) (v2 : Int32) (I : (Nat → Nat → Int32)) : Option (Int32 × (Nat → Nat → Int32)) :=
  Option.bind (zloop (f177_fewest_L2 v1 v2) 5000 ((0 : Int32), I)) fun s5 =>
  Option.bind (zloop (f177_fewest_L34 v2) 5000 ((0 : Int32), s5.2)) fun s21 =>
  bif zin v2 4 then
  some ((s21.2 106 v2.toNatClampNeg), s21.2)
  else none
def f179_lastOf (v1 : Int32) (v2 : Int32) (v3 : Int32) (I : (Nat → Nat → Int32)) : Option (Int32 × (Nat → Nat → Int32)) :=
  Option.bind (f177_fewest v2 v3 I) fun t2 =>
  if t2.1 < 0 then
    some ((-2), t2.2)
  else
    bif zin v1 8 then
    if ((t2.2 83 v1.toNatClampNeg) * t2.1) ≤ (t2.2 73 15) then
      bif zin v1 8 then
      some (((t2.2 73 15) - ((t2.2 83 v1.toNatClampNeg) * t2.1)), t2.2)
      else none
    else
      some ((-2), t2.2)
    else none
def f181_last (v1 : Int32) (I : (Nat → Nat → Int32)) : Option (Int32 × (Nat → Nat → Int32)) :=
  Option.bind (f180_isTrip v1 I) fun t2 =>
  if t2 = 0 then
    some ((-1), I)
  else
    Option.bind (f179_lastOf (v1 / 100) ((v1 / 10) - (v1 / 10) / 10 * 10) (v1 - v1 / 10 * 10) I) fun t4 =>
    some (t4.1, t4.2)
def f78_mostOver_L6 (v1 : Int32) (v2 : Int32) (v3 : Int32) (I : (Nat → Nat → Int32)) (s : (Int32 × Int32)) : Option ((Int32 × Int32) ⊕ (Int32 × Int32)) :=
  if (I 1 1) ≤ s.2 then
    some (.inl (s.1, s.2))
  else
    bif zin s.2 12 then
    if (I 4 s.2.toNatClampNeg) = v2 then
      bif zin s.2 12 then
      if (I 5 s.2.toNatClampNeg) = v3 then
        bif zin s.2 12 then
        bif zin v1 8 then
        bif zin s.2 12 then
        some (.inr ((s.1 + ((I 7 s.2.toNatClampNeg) * (zmax 0 (((I 1 3) + 1) - ((I 11 v1.toNatClampNeg) * (I 6 s.2.toNatClampNeg)))))), (s.2 + 1)))
        else none
        else none
        else none
      else
        bif zin s.2 12 then
        if (I 4 s.2.toNatClampNeg) = v3 then
          bif zin s.2 12 then
          if (I 5 s.2.toNatClampNeg) = v2 then
            bif zin s.2 12 then
            bif zin v1 8 then
            bif zin s.2 12 then
            some (.inr ((s.1 + ((I 7 s.2.toNatClampNeg) * (zmax 0 (((I 1 3) + 1) - ((I 11 v1.toNatClampNeg) * (I 6 s.2.toNatClampNeg)))))), (s.2 + 1)))
            else none
            else none
            else none
          else
            some (.inr (s.1, (s.2 + 1)))
          else none
        else
          some (.inr (s.1, (s.2 + 1)))
        else none
      else none
    else
      bif zin s.2 12 then
      if (I 4 s.2.toNatClampNeg) = v3 then
        bif zin s.2 12 then
        if (I 5 s.2.toNatClampNeg) = v2 then
          bif zin s.2 12 then
          bif zin v1 8 then
          bif zin s.2 12 then
          some (.inr ((s.1 + ((I 7 s.2.toNatClampNeg) * (zmax 0 (((I 1 3) + 1) - ((I 11 v1.toNatClampNeg) * (I 6 s.2.toNatClampNeg)))))), (s.2 + 1)))
          else none
          else none
          else none
        else
          some (.inr (s.1, (s.2 + 1)))
        else none
      else
        some (.inr (s.1, (s.2 + 1)))
      else none
    else none
def f78_mostOver (v1 : Int32) (v2 : Int32) (v3 : Int32) (I : (Nat → Nat → Int32)) : Option Int32 :=
  Option.bind (zloop (f78_mostOver_L6 v1 v2 v3 I) 5000 ((0 : Int32), (0 : Int32))) fun s23 =>
  some s23.1
def f100_flow (v1 : Int32) (I : (Nat → Nat → Int32)) : Option Int32 :=
  Option.bind (f101_isSortAndWay v1 I) fun t2 =>
  if t2 = 0 then
    some (-1)
  else
    Option.bind (f78_mostOver (v1 / 100) ((v1 / 10) - (v1 / 10) / 10 * 10) (v1 - v1 / 10 * 10) I) fun t4 =>
    some t4
def f182_flow_L14 (v1 : Int32) (I : (Nat → Nat → Int32)) (s : (Int32 × Int32)) : Option ((Int32 × Int32) ⊕ (Int32 × Int32)) :=
  if (I 73 4) ≤ s.2 then
    some (.inl (s.1, s.2))
  else
    bif zin (v1 / 100) 8 then
    bif zin s.2 12 then
    if (((I 73 15) + 1) - ((I 83 (v1 / 100).toNatClampNeg) * (I 78 s.2.toNatClampNeg))) ≤ 0 then
      some (.inr (s.1, (s.2 + 1)))
    else
      bif zin s.2 12 then
      bif zin s.2 12 then
      Option.bind (f169_doesLead (I 76 s.2.toNatClampNeg) (I 77 s.2.toNatClampNeg) ((v1 / 10) - (v1 / 10) / 10 * 10) (v1 - v1 / 10 * 10)) fun t8 =>
      if t8 = 0 then
        some (.inr (s.1, (s.2 + 1)))
      else
        bif zin s.2 12 then
        some (.inr ((s.1 + ((I 79 s.2.toNatClampNeg) * (((I 73 15) + 1) - ((I 83 (v1 / 100).toNatClampNeg) * (I 78 s.2.toNatClampNeg))))), (s.2 + 1)))
        else none
      else none
      else none
    else none
    else none
def f182_flow (v1 : Int32) (I : (Nat → Nat → Int32)) : Option Int32 :=
  Option.bind (f180_isTrip v1 I) fun t2 =>
  if t2 = 0 then
    some (-1)
  else
    Option.bind (zloop (f182_flow_L14 v1 I) 5000 ((0 : Int32), (0 : Int32))) fun s13 =>
    some s13.1
def f75_fewerWant (I : (Nat → Nat → Int32)) : Option Int32 :=
  Option.bind (f74_wanting 0 I) fun t2 =>
  Option.bind (f74_wanting 1 I) fun t4 =>
  if (t2 - t4) = 0 then
    some (-2)
  else
    if (0 : Int32) ≤ (t2 - t4) then
      some 1
    else
      some 0
def f81_asIn_39 (I : (Nat → Nat → Int32)) : Option (Nat → Nat → Int32) :=
  bif zcpok 0 0 8 8 8 then
  bif zcpok 0 0 8 8 8 then
  some (zcp (zcp (zu (zu (zu (zu I 39 0 (I 1 3)) 39 1 (I 1 4)) 39 3 0) 39 4 (-1)) 10 40 0 0 8) 12 41 0 0 8)
  else none
  else none
def f41_begin_38_L24 (s : (Int32 × (Nat → Nat → Int32))) : Option ((Int32 × (Nat → Nat → Int32)) ⊕ (Int32 × (Nat → Nat → Int32))) :=
  if (32 : Int32) ≤ s.1 then
    some (.inl (s.1, s.2))
  else
    bif zin s.1 32 then
    bif zin s.1 32 then
    bif zin s.1 32 then
    some (.inr ((s.1 + 1), (zu (zu (zu s.2 42 s.1.toNatClampNeg 0) 43 s.1.toNatClampNeg 0) 44 s.1.toNatClampNeg 200)))
    else none
    else none
    else none
def f41_begin_38_L61 (s : (Int32 × (Nat → Nat → Int32))) : Option ((Int32 × (Nat → Nat → Int32)) ⊕ (Int32 × (Nat → Nat → Int32))) :=
  if (((s.2 39 0) + 1) * 32) ≤ s.1 then
    some (.inl (s.1, s.2))
  else
    bif zin s.1 1952 then
    some (.inr ((s.1 + 1), (zu s.2 46 s.1.toNatClampNeg 0)))
    else none
def f41_begin_38_L92 (s : (Int32 × (Nat → Nat → Int32))) : Option ((Int32 × (Nat → Nat → Int32)) ⊕ (Int32 × (Nat → Nat → Int32))) :=
  if (4 : Int32) ≤ s.1 then
    some (.inl (s.1, s.2))
  else
    bif zin s.1 4 then
    some (.inr ((s.1 + 1), (zu s.2 45 s.1.toNatClampNeg 0)))
    else none
def f41_begin_38_L112 (s : (Int32 × (Nat → Nat → Int32))) : Option ((Int32 × (Nat → Nat → Int32)) ⊕ (Int32 × (Nat → Nat → Int32))) :=
  if (s.2 1 2) ≤ s.1 then
    some (.inl (s.1, s.2))
  else
    bif zin s.1 8 then
    bif zin s.1 8 then
    bif zin (((s.2 40 s.1.toNatClampNeg) * 8) + s.1) 32 then
    bif zin s.1 8 then
    bif zin (s.2 40 s.1.toNatClampNeg) 4 then
    bif zin s.1 8 then
    bif zin (s.2 40 s.1.toNatClampNeg) 4 then
    some (.inr ((s.1 + 1), (zu (zu s.2 42 (((s.2 40 s.1.toNatClampNeg) * 8) + s.1).toNatClampNeg (s.2 8 s.1.toNatClampNeg)) 45 (s.2 40 s.1.toNatClampNeg).toNatClampNeg ((s.2 45 (s.2 40 s.1.toNatClampNeg).toNatClampNeg) + (s.2 8 s.1.toNatClampNeg)))))
    else none
    else none
    else none
    else none
    else none
    else none
    else none
def f41_begin_38 (I : (Nat → Nat → Int32)) : Option (Nat → Nat → Int32) :=
  Option.bind (zloop f41_begin_38_L24 5000 ((0 : Int32), (zu (zu I 38 13 (I 1 0)) 38 14 (I 1 2)))) fun s5 =>
  Option.bind (zloop f41_begin_38_L61 5000 ((0 : Int32), s5.2)) fun s9 =>
  Option.bind (zloop f41_begin_38_L92 5000 ((0 : Int32), s9.2)) fun s13 =>
  Option.bind (zloop f41_begin_38_L112 5000 ((0 : Int32), s13.2)) fun s23 =>
  bif zin (s23.2 39 2) 4 then
  bif zin (s23.2 39 2) 4 then
  some (zu s23.2 45 (s23.2 39 2).toNatClampNeg ((s23.2 45 (s23.2 39 2).toNatClampNeg) + (s23.2 39 3)))
  else none
  else none
def f43_seenIn_38 (v1 : Int32) (I : (Nat → Nat → Int32)) : Option Int32 :=
  bif zin (((I 38 12) * 4) + v1) 240 then
  some (I 48 (((I 38 12) * 4) + v1).toNatClampNeg)
  else none
def f42_see_38_L2 (v1 : Int32) (s : (Int32 × (Nat → Nat → Int32))) : Option ((Int32 × (Nat → Nat → Int32)) ⊕ (Int32 × (Nat → Nat → Int32))) :=
  if (4 : Int32) ≤ s.1 then
    some (.inl (s.1, s.2))
  else
    bif zin s.1 4 then
    bif zin ((v1 * 4) + s.1) 240 then
    some (.inr ((s.1 + 1), (zu s.2 48 ((v1 * 4) + s.1).toNatClampNeg (s.2 45 s.1.toNatClampNeg))))
    else none
    else none
def f42_see_38_L50 (v1 : Int32) (I : (Nat → Nat → Int32)) (s : (Int32 × Int32)) : Option ((Int32 × Int32) ⊕ (Int32 × Int32)) :=
  if (I 1 0) ≤ s.2 then
    some (.inl (s.1, s.2))
  else
    Option.bind (f43_seenIn_38 s.2 I) fun t7 =>
    Option.bind (f43_seenIn_38 s.1 I) fun t9 =>
    if t7 ≤ t9 then
      some (.inr (s.1, (s.2 + 1)))
    else
      some (.inr (s.2, (s.2 + 1)))
def f42_see_38 (v1 : Int32) (I : (Nat → Nat → Int32)) : Option (Nat → Nat → Int32) :=
  Option.bind (zloop (f42_see_38_L2 v1) 5000 ((0 : Int32), I)) fun s4 =>
  Option.bind (zloop (f42_see_38_L50 v1 (zu s4.2 38 12 (zmax 0 (v1 - (s4.2 39 1))))) 5000 ((0 : Int32), (1 : Int32))) fun s12 =>
  Option.bind (f43_seenIn_38 s12.1 (zu (zu (zu s4.2 38 12 (zmax 0 (v1 - (s4.2 39 1)))) 50 0 ((s4.2 39 0) - v1)) 50 5 s12.1)) fun t15 =>
  some (zu (zu (zu (zu s4.2 38 12 (zmax 0 (v1 - (s4.2 39 1)))) 50 0 ((s4.2 39 0) - v1)) 50 5 s12.1) 50 6 t15)
def f44_arrive_38_L15 (v1 : Int32) (v2 : Int32) (s : (Int32 × (Nat → Nat → Int32))) : Option ((Int32 × (Nat → Nat → Int32)) ⊕ (Int32 × (Nat → Nat → Int32))) :=
  if (s.2 1 2) ≤ s.1 then
    some (.inl (s.1, s.2))
  else
    bif zin ((v2 * 8) + s.1) 32 then
    bif zin ((v1 * 32) + ((v2 * 8) + s.1)) 1952 then
    bif zin ((v2 * 8) + s.1) 32 then
    bif zin ((v2 * 8) + s.1) 32 then
    bif zin v2 4 then
    bif zin v2 4 then
    bif zin ((v2 * 8) + s.1) 32 then
    bif zin ((v2 * 8) + s.1) 32 then
    bif zin ((v2 * 8) + s.1) 32 then
    bif zin ((v2 * 8) + s.1) 32 then
    bif zin v2 4 then
    bif zin v2 4 then
    some (.inr ((s.1 + 1), (zu (zu (zu (zu s.2 43 ((v2 * 8) + s.1).toNatClampNeg ((s.2 43 ((v2 * 8) + s.1).toNatClampNeg) + (s.2 46 ((v1 * 32) + ((v2 * 8) + s.1)).toNatClampNeg))) 43 ((v2 * 8) + s.1).toNatClampNeg (((zu s.2 43 ((v2 * 8) + s.1).toNatClampNeg ((s.2 43 ((v2 * 8) + s.1).toNatClampNeg) + (s.2 46 ((v1 * 32) + ((v2 * 8) + s.1)).toNatClampNeg))) 43 ((v2 * 8) + s.1).toNatClampNeg) - (zmin ((zu s.2 43 ((v2 * 8) + s.1).toNatClampNeg ((s.2 43 ((v2 * 8) + s.1).toNatClampNeg) + (s.2 46 ((v1 * 32) + ((v2 * 8) + s.1)).toNatClampNeg))) 43 ((v2 * 8) + s.1).toNatClampNeg) (zmax 0 ((s.2 2 v2.toNatClampNeg) - (s.2 45 v2.toNatClampNeg)))))) 42 ((v2 * 8) + s.1).toNatClampNeg ((s.2 42 ((v2 * 8) + s.1).toNatClampNeg) + (zmin ((zu s.2 43 ((v2 * 8) + s.1).toNatClampNeg ((s.2 43 ((v2 * 8) + s.1).toNatClampNeg) + (s.2 46 ((v1 * 32) + ((v2 * 8) + s.1)).toNatClampNeg))) 43 ((v2 * 8) + s.1).toNatClampNeg) (zmax 0 ((s.2 2 v2.toNatClampNeg) - (s.2 45 v2.toNatClampNeg)))))) 45 v2.toNatClampNeg ((s.2 45 v2.toNatClampNeg) + (zmin ((zu s.2 43 ((v2 * 8) + s.1).toNatClampNeg ((s.2 43 ((v2 * 8) + s.1).toNatClampNeg) + (s.2 46 ((v1 * 32) + ((v2 * 8) + s.1)).toNatClampNeg))) 43 ((v2 * 8) + s.1).toNatClampNeg) (zmax 0 ((s.2 2 v2.toNatClampNeg) - (s.2 45 v2.toNatClampNeg))))))))
    else none
    else none
    else none
    else none
    else none
    else none
    else none
    else none
    else none
    else none
    else none
    else none
def f44_arrive_38_L2 (v1 : Int32) (s : (Int32 × (Nat → Nat → Int32))) : Option ((Int32 × (Nat → Nat → Int32)) ⊕ (Int32 × (Nat → Nat → Int32))) :=
  if (s.2 1 0) ≤ s.1 then
    some (.inl (s.1, s.2))
  else
    Option.bind (zloop (f44_arrive_38_L15 v1 s.1) 5000 ((0 : Int32), s.2)) fun s14 =>
    some (.inr ((s.1 + 1), s14.2))
def f44_arrive_38 (v1 : Int32) (I : (Nat → Nat → Int32)) : Option (Nat → Nat → Int32) :=
  Option.bind (zloop (f44_arrive_38_L2 v1) 5000 ((0 : Int32), I)) fun s17 =>
  some s17.2
def f31_passesLine_15_50 (v1 : Int32) (I : (Nat → Nat → Int32)) : Option (Int32 × (Nat → Nat → Int32)) :=
  if v1 = 20063 then
    Option.bind (f34_pop I) fun t2 =>
    if t2.1 = 0 then
      some (1, t2.2)
    else
      some (0, t2.2)
  else
    if (10000 : Int32) ≤ v1 then
      if (20000 : Int32) ≤ v1 then
        if v1 = 20033 then
          Option.bind (f34_pop I) fun t5 =>
          if t5.1 = 0 then
            Option.bind (f33_push 1 t5.2) fun t7 =>
            some (0, t7)
          else
            Option.bind (f33_push 0 t5.2) fun t9 =>
            some (0, t9)
        else
          if v1 = 20126 then
            Option.bind (f34_pop I) fun t12 =>
            Option.bind (f33_push (-t12.1) t12.2) fun t14 =>
            some (0, t14)
          else
            Option.bind (f34_pop I) fun t16 =>
            Option.bind (f34_pop t16.2) fun t18 =>
            Option.bind (f32_joined t18.1 (v1 - 20000) t16.1) fun t20 =>
            Option.bind (f33_push t20 t18.2) fun t22 =>
            some (0, t22)
      else
        bif zin (v1 - 10000) 8 then
        Option.bind (f33_push (I 50 (v1 - 10000).toNatClampNeg) I) fun t27 =>
        some (0, t27)
        else none
    else
      Option.bind (f33_push v1 I) fun t30 =>
      some (0, t30)
def f30_gives_15_50_L10 (v1 : Int32) (s : (Int32 × Int32 × (Nat → Nat → Int32))) : Option ((Int32 × (Nat → Nat → Int32)) ⊕ ((Int32 × Int32 × (Nat → Nat → Int32)) ⊕ (Int32 × Int32 × (Nat → Nat → Int32)))) :=
  bif zin v1 4 then
  if (s.2.2 22 v1.toNatClampNeg) ≤ s.2.1 then
    some (.inr (.inl (s.1, s.2.1, s.2.2)))
  else
    bif zin v1 4 then
    bif zin s.2.1 121 then
    if (s.2.2 (zrow0 v1) s.2.1.toNatClampNeg) = 20059 then
      if s.1 = 0 then
        Option.bind (f34_pop s.2.2) fun t5 =>
        some (.inl (t5.1, t5.2))
      else
        some (.inr (.inr ((0 : Int32), (s.2.1 + 1), s.2.2)))
    else
      if s.1 = 0 then
        Option.bind (f31_passesLine_15_50 (s.2.2 (zrow0 v1) s.2.1.toNatClampNeg) s.2.2) fun t8 =>
        if t8.1 = 0 then
          some (.inr (.inr ((0 : Int32), (s.2.1 + 1), t8.2)))
        else
          some (.inr (.inr ((1 : Int32), (s.2.1 + 1), t8.2)))
      else
        some (.inr (.inr ((1 : Int32), (s.2.1 + 1), s.2.2)))
    else none
    else none
  else none
def f30_gives_15_50 (v1 : Int32) (I : (Nat → Nat → Int32)) : Option (Int32 × (Nat → Nat → Int32)) :=
  zbR (zloopR (f30_gives_15_50_L10 v1) 5000 ((0 : Int32), (0 : Int32), (zu I 15 5 0))) (fun rr => some rr) fun s13 =>
  some (0, s13.2.2)
def f47_aim_38 (v1 : Int32) (v2 : Int32) (v3 : Int32) (I : (Nat → Nat → Int32)) : Option (Int32 × (Nat → Nat → Int32)) :=
  if v2 = (I 39 4) then
    if (I 39 6) ≤ v1 then
      some ((I 39 5), I)
    else
      some ((-1), I)
  else
    bif zin v2 8 then
    if (I 41 v2.toNatClampNeg) < (I 15 7) then
      bif zin v2 8 then
      bif zin ((v3 * 8) + v2) 32 then
      Option.bind (f43_seenIn_38 v3 (zu (zu (zu (zu I 50 1 v2) 50 2 (I 9 v2.toNatClampNeg)) 50 3 v3) 50 4 (I 42 ((v3 * 8) + v2).toNatClampNeg))) fun t6 =>
      bif zin v2 8 then
      Option.bind (f30_gives_15_50 (I 41 v2.toNatClampNeg) (zu (zu (zu (zu (zu I 50 1 v2) 50 2 (I 9 v2.toNatClampNeg)) 50 3 v3) 50 4 (I 42 ((v3 * 8) + v2).toNatClampNeg)) 50 7 t6)) fun t9 =>
      some (t9.1, t9.2)
      else none
      else none
      else none
    else
      bif zin v2 8 then
      Option.bind (f76_firstFor (I 9 v2.toNatClampNeg) I) fun t12 =>
      some (t12, I)
      else none
    else none
def f46_setOut_38 (v1 : Int32) (v2 : Int32) (v3 : Int32) (I : (Nat → Nat → Int32)) : Option (Nat → Nat → Int32) :=
  Option.bind (f47_aim_38 v1 v2 v3 I) fun t2 =>
  Option.bind (f61_isSquare t2.1 t2.2) fun t4 =>
  if t4 = 0 then
    some t2.2
  else
    if t2.1 = v3 then
      some t2.2
    else
      bif zin ((v3 * 4) + t2.1) 16 then
      if (0 : Int32) ≤ (t2.2 13 ((v3 * 4) + t2.1).toNatClampNeg) then
        bif zin (t2.2 13 ((v3 * 4) + t2.1).toNatClampNeg) 12 then
        if (t2.2 4 (t2.2 13 ((v3 * 4) + t2.1).toNatClampNeg).toNatClampNeg) = v3 then
          bif zin ((v3 * 8) + v2) 32 then
          bif zin (2 * (t2.2 13 ((v3 * 4) + t2.1).toNatClampNeg)) 24 then
          bif zin (2 * (t2.2 13 ((v3 * 4) + t2.1).toNatClampNeg)) 24 then
          bif zin (2 * (t2.2 13 ((v3 * 4) + t2.1).toNatClampNeg)) 24 then
          bif zin ((v3 * 8) + v2) 32 then
          bif zin ((v3 * 8) + v2) 32 then
          bif zin v3 4 then
          bif zin v3 4 then
          bif zin (t2.2 13 ((v3 * 4) + t2.1).toNatClampNeg) 12 then
          bif zin v2 8 then
          if (t2.2 39 0) < (v1 + ((t2.2 6 (t2.2 13 ((v3 * 4) + t2.1).toNatClampNeg).toNatClampNeg) * (t2.2 11 v2.toNatClampNeg))) then
            some (zu (zu (zu t2.2 49 (2 * (t2.2 13 ((v3 * 4) + t2.1).toNatClampNeg)).toNatClampNeg ((t2.2 49 (2 * (t2.2 13 ((v3 * 4) + t2.1).toNatClampNeg)).toNatClampNeg) - (zmin (t2.2 42 ((v3 * 8) + v2).toNatClampNeg) (t2.2 49 (2 * (t2.2 13 ((v3 * 4) + t2.1).toNatClampNeg)).toNatClampNeg)))) 42 ((v3 * 8) + v2).toNatClampNeg ((t2.2 42 ((v3 * 8) + v2).toNatClampNeg) - (zmin (t2.2 42 ((v3 * 8) + v2).toNatClampNeg) (t2.2 49 (2 * (t2.2 13 ((v3 * 4) + t2.1).toNatClampNeg)).toNatClampNeg)))) 45 v3.toNatClampNeg ((t2.2 45 v3.toNatClampNeg) - (zmin (t2.2 42 ((v3 * 8) + v2).toNatClampNeg) (t2.2 49 (2 * (t2.2 13 ((v3 * 4) + t2.1).toNatClampNeg)).toNatClampNeg))))
          else
            bif zin ((((v1 + ((t2.2 6 (t2.2 13 ((v3 * 4) + t2.1).toNatClampNeg).toNatClampNeg) * (t2.2 11 v2.toNatClampNeg))) * 32) + (t2.1 * 8)) + v2) 1952 then
            bif zin ((((v1 + ((t2.2 6 (t2.2 13 ((v3 * 4) + t2.1).toNatClampNeg).toNatClampNeg) * (t2.2 11 v2.toNatClampNeg))) * 32) + (t2.1 * 8)) + v2) 1952 then
            some (zu (zu (zu (zu t2.2 49 (2 * (t2.2 13 ((v3 * 4) + t2.1).toNatClampNeg)).toNatClampNeg ((t2.2 49 (2 * (t2.2 13 ((v3 * 4) + t2.1).toNatClampNeg)).toNatClampNeg) - (zmin (t2.2 42 ((v3 * 8) + v2).toNatClampNeg) (t2.2 49 (2 * (t2.2 13 ((v3 * 4) + t2.1).toNatClampNeg)).toNatClampNeg)))) 42 ((v3 * 8) + v2).toNatClampNeg ((t2.2 42 ((v3 * 8) + v2).toNatClampNeg) - (zmin (t2.2 42 ((v3 * 8) + v2).toNatClampNeg) (t2.2 49 (2 * (t2.2 13 ((v3 * 4) + t2.1).toNatClampNeg)).toNatClampNeg)))) 45 v3.toNatClampNeg ((t2.2 45 v3.toNatClampNeg) - (zmin (t2.2 42 ((v3 * 8) + v2).toNatClampNeg) (t2.2 49 (2 * (t2.2 13 ((v3 * 4) + t2.1).toNatClampNeg)).toNatClampNeg)))) 46 ((((v1 + ((t2.2 6 (t2.2 13 ((v3 * 4) + t2.1).toNatClampNeg).toNatClampNeg) * (t2.2 11 v2.toNatClampNeg))) * 32) + (t2.1 * 8)) + v2).toNatClampNeg ((t2.2 46 ((((v1 + ((t2.2 6 (t2.2 13 ((v3 * 4) + t2.1).toNatClampNeg).toNatClampNeg) * (t2.2 11 v2.toNatClampNeg))) * 32) + (t2.1 * 8)) + v2).toNatClampNeg) + (zmin (t2.2 42 ((v3 * 8) + v2).toNatClampNeg) (t2.2 49 (2 * (t2.2 13 ((v3 * 4) + t2.1).toNatClampNeg)).toNatClampNeg))))
            else none
            else none
          else none
          else none
          else none
          else none
          else none
          else none
          else none
          else none
          else none
          else none
        else
          bif zin ((v3 * 8) + v2) 32 then
          bif zin ((2 * (t2.2 13 ((v3 * 4) + t2.1).toNatClampNeg)) + 1) 24 then
          bif zin ((2 * (t2.2 13 ((v3 * 4) + t2.1).toNatClampNeg)) + 1) 24 then
          bif zin ((2 * (t2.2 13 ((v3 * 4) + t2.1).toNatClampNeg)) + 1) 24 then
          bif zin ((v3 * 8) + v2) 32 then
          bif zin ((v3 * 8) + v2) 32 then
          bif zin v3 4 then
          bif zin v3 4 then
          bif zin (t2.2 13 ((v3 * 4) + t2.1).toNatClampNeg) 12 then
          bif zin v2 8 then
          if (t2.2 39 0) < (v1 + ((t2.2 6 (t2.2 13 ((v3 * 4) + t2.1).toNatClampNeg).toNatClampNeg) * (t2.2 11 v2.toNatClampNeg))) then
            some (zu (zu (zu t2.2 49 ((2 * (t2.2 13 ((v3 * 4) + t2.1).toNatClampNeg)) + 1).toNatClampNeg ((t2.2 49 ((2 * (t2.2 13 ((v3 * 4) + t2.1).toNatClampNeg)) + 1).toNatClampNeg) - (zmin (t2.2 42 ((v3 * 8) + v2).toNatClampNeg) (t2.2 49 ((2 * (t2.2 13 ((v3 * 4) + t2.1).toNatClampNeg)) + 1).toNatClampNeg)))) 42 ((v3 * 8) + v2).toNatClampNeg ((t2.2 42 ((v3 * 8) + v2).toNatClampNeg) - (zmin (t2.2 42 ((v3 * 8) + v2).toNatClampNeg) (t2.2 49 ((2 * (t2.2 13 ((v3 * 4) + t2.1).toNatClampNeg)) + 1).toNatClampNeg)))) 45 v3.toNatClampNeg ((t2.2 45 v3.toNatClampNeg) - (zmin (t2.2 42 ((v3 * 8) + v2).toNatClampNeg) (t2.2 49 ((2 * (t2.2 13 ((v3 * 4) + t2.1).toNatClampNeg)) + 1).toNatClampNeg))))
          else
            bif zin ((((v1 + ((t2.2 6 (t2.2 13 ((v3 * 4) + t2.1).toNatClampNeg).toNatClampNeg) * (t2.2 11 v2.toNatClampNeg))) * 32) + (t2.1 * 8)) + v2) 1952 then
            bif zin ((((v1 + ((t2.2 6 (t2.2 13 ((v3 * 4) + t2.1).toNatClampNeg).toNatClampNeg) * (t2.2 11 v2.toNatClampNeg))) * 32) + (t2.1 * 8)) + v2) 1952 then
            some (zu (zu (zu (zu t2.2 49 ((2 * (t2.2 13 ((v3 * 4) + t2.1).toNatClampNeg)) + 1).toNatClampNeg ((t2.2 49 ((2 * (t2.2 13 ((v3 * 4) + t2.1).toNatClampNeg)) + 1).toNatClampNeg) - (zmin (t2.2 42 ((v3 * 8) + v2).toNatClampNeg) (t2.2 49 ((2 * (t2.2 13 ((v3 * 4) + t2.1).toNatClampNeg)) + 1).toNatClampNeg)))) 42 ((v3 * 8) + v2).toNatClampNeg ((t2.2 42 ((v3 * 8) + v2).toNatClampNeg) - (zmin (t2.2 42 ((v3 * 8) + v2).toNatClampNeg) (t2.2 49 ((2 * (t2.2 13 ((v3 * 4) + t2.1).toNatClampNeg)) + 1).toNatClampNeg)))) 45 v3.toNatClampNeg ((t2.2 45 v3.toNatClampNeg) - (zmin (t2.2 42 ((v3 * 8) + v2).toNatClampNeg) (t2.2 49 ((2 * (t2.2 13 ((v3 * 4) + t2.1).toNatClampNeg)) + 1).toNatClampNeg)))) 46 ((((v1 + ((t2.2 6 (t2.2 13 ((v3 * 4) + t2.1).toNatClampNeg).toNatClampNeg) * (t2.2 11 v2.toNatClampNeg))) * 32) + (t2.1 * 8)) + v2).toNatClampNeg ((t2.2 46 ((((v1 + ((t2.2 6 (t2.2 13 ((v3 * 4) + t2.1).toNatClampNeg).toNatClampNeg) * (t2.2 11 v2.toNatClampNeg))) * 32) + (t2.1 * 8)) + v2).toNatClampNeg) + (zmin (t2.2 42 ((v3 * 8) + v2).toNatClampNeg) (t2.2 49 ((2 * (t2.2 13 ((v3 * 4) + t2.1).toNatClampNeg)) + 1).toNatClampNeg))))
            else none
            else none
          else none
          else none
          else none
          else none
          else none
          else none
          else none
          else none
          else none
          else none
        else none
      else
        some t2.2
      else none
def f45_go_38_L2 (v1 : Int32) (s : (Int32 × (Nat → Nat → Int32))) : Option ((Int32 × (Nat → Nat → Int32)) ⊕ (Int32 × (Nat → Nat → Int32))) :=
  if (s.2 1 1) ≤ s.1 then
    some (.inl (s.1, s.2))
  else
    bif zin s.1 12 then
    bif zin (2 * s.1) 24 then
    bif zin s.1 12 then
    bif zin ((2 * s.1) + 1) 24 then
    some (.inr ((s.1 + 1), (zu (zu s.2 49 (2 * s.1).toNatClampNeg (s.2 7 s.1.toNatClampNeg)) 49 ((2 * s.1) + 1).toNatClampNeg (s.2 7 s.1.toNatClampNeg))))
    else none
    else none
    else none
    else none
def f45_go_38_L70 (v1 : Int32) (v2 : Int32) (s : (Int32 × (Nat → Nat → Int32))) : Option ((Int32 × (Nat → Nat → Int32)) ⊕ (Int32 × (Nat → Nat → Int32))) :=
  if (s.2 1 0) ≤ s.1 then
    some (.inl (s.1, s.2))
  else
    bif zin ((s.1 * 8) + v2) 32 then
    if (s.2 42 ((s.1 * 8) + v2).toNatClampNeg) ≤ 0 then
      some (.inr ((s.1 + 1), s.2))
    else
      Option.bind (f46_setOut_38 v1 v2 s.1 s.2) fun t10 =>
      some (.inr ((s.1 + 1), t10))
    else none
def f45_go_38_L57 (v1 : Int32) (s : (Int32 × (Nat → Nat → Int32))) : Option ((Int32 × (Nat → Nat → Int32)) ⊕ (Int32 × (Nat → Nat → Int32))) :=
  if (s.2 1 2) ≤ s.1 then
    some (.inl (s.1, s.2))
  else
    Option.bind (zloop (f45_go_38_L70 v1 s.1) 5000 ((0 : Int32), s.2)) fun s13 =>
    some (.inr ((s.1 + 1), s13.2))
def f45_go_38 (v1 : Int32) (I : (Nat → Nat → Int32)) : Option (Nat → Nat → Int32) :=
  Option.bind (zloop (f45_go_38_L2 v1) 5000 ((0 : Int32), I)) fun s6 =>
  Option.bind (zloop (f45_go_38_L57 v1) 5000 ((0 : Int32), s6.2)) fun s16 =>
  some s16.2
def f48_end_38_L39 (s : (Int32 × (Nat → Nat → Int32))) : Option ((Int32 × (Nat → Nat → Int32)) ⊕ (Int32 × (Nat → Nat → Int32))) :=
  if (32 : Int32) ≤ s.1 then
    some (.inl (s.1, s.2))
  else
    bif zin s.1 32 then
    bif zin s.1 32 then
    bif zin s.1 32 then
    some (.inr ((s.1 + 1), (zu s.2 44 s.1.toNatClampNeg (zmin (s.2 44 s.1.toNatClampNeg) (s.2 42 s.1.toNatClampNeg)))))
    else none
    else none
    else none
def f48_end_38 (v1 : Int32) (I : (Nat → Nat → Int32)) : Option (Nat → Nat → Int32) :=
  bif zcpok 0 (v1 * 32) 32 32 1952 then
  if v1 < ((I 39 0) - (I 1 5)) then
    some (zcp I 42 47 0 (v1 * 32) 32)
  else
    Option.bind (zloop f48_end_38_L39 5000 ((0 : Int32), (zcp I 42 47 0 (v1 * 32) 32))) fun s6 =>
    some s6.2
  else none
def f49_tally_38_L56 (v1 : Int32) (s : (Int32 × (Nat → Nat → Int32))) : Option ((Int32 × (Nat → Nat → Int32)) ⊕ (Int32 × (Nat → Nat → Int32))) :=
  if (8 : Int32) ≤ s.1 then
    some (.inl (s.1, s.2))
  else
    bif zin v1 4 then
    bif zin ((v1 * 8) + s.1) 32 then
    bif zin v1 4 then
    some (.inr ((s.1 + 1), (zu s.2 51 v1.toNatClampNeg ((s.2 51 v1.toNatClampNeg) + (s.2 44 ((v1 * 8) + s.1).toNatClampNeg)))))
    else none
    else none
    else none
def f49_tally_38_L21 (s : (Int32 × (Nat → Nat → Int32))) : Option ((Int32 × (Nat → Nat → Int32)) ⊕ (Int32 × (Nat → Nat → Int32))) :=
  if (4 : Int32) ≤ s.1 then
    some (.inl (s.1, s.2))
  else
    if s.1 = (s.2 39 2) then
      bif zin s.1 4 then
      Option.bind (zloop (f49_tally_38_L56 s.1) 5000 ((0 : Int32), (zu s.2 51 s.1.toNatClampNeg (s.2 39 3)))) fun s8 =>
      bif zin s.1 4 then
      some (.inr ((s.1 + 1), (zu s8.2 38 19 ((s8.2 38 19) - (s8.2 45 s.1.toNatClampNeg)))))
      else none
      else none
    else
      bif zin s.1 4 then
      Option.bind (zloop (f49_tally_38_L56 s.1) 5000 ((0 : Int32), (zu s.2 51 s.1.toNatClampNeg 0))) fun s12 =>
      bif zin s.1 4 then
      some (.inr ((s.1 + 1), (zu s12.2 38 19 ((s12.2 38 19) - (s12.2 45 s.1.toNatClampNeg)))))
      else none
      else none
def f49_tally_38_L116 (s : (Int32 × (Nat → Nat → Int32))) : Option ((Int32 × (Nat → Nat → Int32)) ⊕ (Int32 × (Nat → Nat → Int32))) :=
  if (s.2 1 0) ≤ s.1 then
    some (.inl (s.1, s.2))
  else
    bif zin s.1 4 then
    bif zin (s.2 38 16) 4 then
    if (s.2 51 s.1.toNatClampNeg) ≤ (s.2 51 (s.2 38 16).toNatClampNeg) then
      some (.inr ((s.1 + 1), (zu s.2 38 16 (s.2 38 16))))
    else
      some (.inr ((s.1 + 1), (zu s.2 38 16 s.1)))
    else none
    else none
def f49_tally_38_L167 (I : (Nat → Nat → Int32)) (s : (Int32 × Int32)) : Option ((Int32 × Int32) ⊕ (Int32 × Int32)) :=
  if (I 1 0) ≤ s.2 then
    some (.inl (s.1, s.2))
  else
    if s.2 = (I 38 16) then
      some (.inr (s.1, (s.2 + 1)))
    else
      bif zin s.2 4 then
      some (.inr ((zmax s.1 (I 51 s.2.toNatClampNeg)), (s.2 + 1)))
      else none
def f49_tally_38 (I : (Nat → Nat → Int32)) : Option (Nat → Nat → Int32) :=
  Option.bind (f73_people I) fun t2 =>
  Option.bind (zloop f49_tally_38_L21 5000 ((0 : Int32), (zu I 38 19 (t2 + (I 39 3))))) fun s17 =>
  Option.bind (zloop f49_tally_38_L116 5000 ((1 : Int32), (zu s17.2 38 16 0))) fun s23 =>
  Option.bind (zloop (f49_tally_38_L167 s23.2) 5000 ((0 : Int32), (0 : Int32))) fun s28 =>
  bif zin (s23.2 38 16) 4 then
  bif zin (s23.2 38 16) 4 then
  some (zu (zu s23.2 38 17 (s23.2 3 (s23.2 38 16).toNatClampNeg)) 38 18 ((s23.2 51 (s23.2 38 16).toNatClampNeg) - s28.1))
  else none
  else none
def f40_pass_38_L6 (s : (Int32 × (Nat → Nat → Int32))) : Option ((Int32 × (Nat → Nat → Int32)) ⊕ (Int32 × (Nat → Nat → Int32))) :=
  if (s.2 39 0) ≤ s.1 then
    some (.inl (s.1, s.2))
  else
    Option.bind (f42_see_38 s.1 s.2) fun t4 =>
    Option.bind (f44_arrive_38 s.1 t4) fun t6 =>
    Option.bind (f45_go_38 s.1 t6) fun t8 =>
    Option.bind (f48_end_38 s.1 t8) fun t10 =>
    some (.inr ((s.1 + 1), t10))
def f40_pass_38 (I : (Nat → Nat → Int32)) : Option (Nat → Nat → Int32) :=
  Option.bind (f41_begin_38 I) fun t2 =>
  Option.bind (zloop f40_pass_38_L6 5000 ((0 : Int32), t2)) fun s12 =>
  Option.bind (f44_arrive_38 (s12.2 39 0) s12.2) fun t15 =>
  Option.bind (f48_end_38 (t15 39 0) t15) fun t17 =>
  Option.bind (f49_tally_38 t17) fun t19 =>
  some t19
def f102_fewer (v1 : Int32) (I : (Nat → Nat → Int32)) : Option (Int32 × (Nat → Nat → Int32)) :=
  Option.bind (f126_within v1 0 1) fun t2 =>
  if t2 = 0 then
    some ((-1), I)
  else
    Option.bind (f75_fewerWant I) fun t4 =>
    if v1 = 0 then
      some (t4, I)
    else
      if t4 = (-2) then
        some (t4, I)
      else
        if (I 1 0) = 0 then
          some ((-5), I)
        else
          Option.bind (f81_asIn_39 I) fun t6 =>
          Option.bind (f40_pass_38 t6) fun t8 =>
          if (t8 38 17) = t4 then
            some (1, t8)
          else
            some (0, t8)
def f183_wanting_L4 (v1 : Int32) (I : (Nat → Nat → Int32)) (s : (Int32 × Int32)) : Option ((Int32 × Int32) ⊕ (Int32 × Int32)) :=
  if (I 73 9) ≤ s.2 then
    some (.inl (s.1, s.2))
  else
    bif zin s.2 8 then
    if (I 81 s.2.toNatClampNeg) = v1 then
      bif zin s.2 8 then
      some (.inr ((s.1 + (I 80 s.2.toNatClampNeg)), (s.2 + 1)))
      else none
    else
      some (.inr (s.1, (s.2 + 1)))
    else none
def f183_wanting (v1 : Int32) (I : (Nat → Nat → Int32)) : Option Int32 :=
  Option.bind (zloop (f183_wanting_L4 v1 I) 5000 ((0 : Int32), (0 : Int32))) fun s5 =>
  some s5.1
def f184_fewer (v1 : Int32) (I : (Nat → Nat → Int32)) : Option (Int32 × (Nat → Nat → Int32)) :=
  Option.bind (f129_in v1 0 1) fun t2 =>
  if t2 = 0 then
    some ((-1), I)
  else
    Option.bind (f183_wanting 0 I) fun t4 =>
    Option.bind (f183_wanting 1 I) fun t6 =>
    if t4 = t6 then
      some ((-2), I)
    else
      Option.bind (f183_wanting 0 I) fun t8 =>
      Option.bind (f183_wanting 1 I) fun t10 =>
      if t10 ≤ t8 then
        if v1 = 0 then
          some (1, I)
        else
          Option.bind (f171_goTo (I 73 15) I) fun t12 =>
          if t12.1 = 1 then
            some (1, t12.2)
          else
            some (0, t12.2)
      else
        if v1 = 0 then
          some (0, I)
        else
          Option.bind (f171_goTo (I 73 15) I) fun t16 =>
          if t16.1 = 0 then
            some (1, t16.2)
          else
            some (0, t16.2)
def f84_strew_39_L5 (s : (Int32 × Int32 × (Nat → Nat → Int32))) : Option ((Int32 × Int32 × (Nat → Nat → Int32)) ⊕ (Int32 × Int32 × (Nat → Nat → Int32))) :=
  if (s.2.2 1 2) ≤ s.2.1 then
    some (.inl (s.1, s.2.1, s.2.2))
  else
    if (s.2.2 1 0) ≤ 0 then
      some (.inl (s.1, s.2.1, s.2.2))
    else
      if ((s.2.2 1 0) : Int32) = 0 then none else
      bif zin s.2.1 8 then
      some (.inr (((s.1 * 1103515245) + 12345), (s.2.1 + 1), (zu s.2.2 40 s.2.1.toNatClampNeg (((((s.1 * 1103515245) + 12345).toUInt32 >>> ((8 : Int32).toUInt32 &&& Int32.toUInt32 31)).toInt32) - ((((s.1 * 1103515245) + 12345).toUInt32 >>> ((8 : Int32).toUInt32 &&& Int32.toUInt32 31)).toInt32) / (s.2.2 1 0) * (s.2.2 1 0)))))
      else none
def f84_strew_39 (v1 : Int32) (I : (Nat → Nat → Int32)) : Option (Int32 × (Nat → Nat → Int32)) :=
  Option.bind (zloop f84_strew_39_L5 5000 (v1, (0 : Int32), I)) fun s5 =>
  some (s5.1, s5.2.2)
def f103_often_L59 (v3 : Int32) (v4 : Int32) (s : (Int32 × Int32 × Int32 × (Nat → Nat → Int32))) : Option ((Int32 × Int32 × Int32 × (Nat → Nat → Int32)) ⊕ (Int32 × Int32 × Int32 × (Nat → Nat → Int32))) :=
  if v3 ≤ s.2.2.1 then
    some (.inl (s.1, s.2.1, s.2.2.1, s.2.2.2))
  else
    Option.bind (f81_asIn_39 s.2.2.2) fun t6 =>
    Option.bind (f84_strew_39 s.1 t6) fun t8 =>
    Option.bind (f40_pass_38 t8.2) fun t10 =>
    if (t10 38 17) = v4 then
      some (.inr (t8.1, (s.2.1 + 1), (s.2.2.1 + 1), t10))
    else
      some (.inr (t8.1, s.2.1, (s.2.2.1 + 1), t10))
def f103_often (v1 : Int32) (v2 : Int32) (I : (Nat → Nat → Int32)) : Option (Int32 × (Nat → Nat → Int32)) :=
  if v2 < 0 then
    some ((-1), I)
  else
    Option.bind (f126_within (v2 / 10) 1 20) fun t2 =>
    if t2 = 0 then
      some ((-1), I)
    else
      Option.bind (f126_within (v2 - v2 / 10 * 10) 0 2) fun t4 =>
      if t4 = 0 then
        some ((-1), I)
      else
        if (I 1 0) = 0 then
          some ((-5), I)
        else
          Option.bind (zloop (f103_often_L59 (v2 / 10) (v2 - v2 / 10 * 10)) 5000 (v1, (0 : Int32), (0 : Int32), I)) fun s13 =>
          some (s13.2.1, s13.2.2.2)
def f185_often_L39 (v1 : Int32) (v2 : Int32) (s : (Int32 × (Nat → Nat → Int32))) : Option ((Int32 × (Nat → Nat → Int32)) ⊕ (Int32 × (Nat → Nat → Int32))) :=
  if (s.2 73 9) ≤ s.1 then
    some (.inl (s.1, s.2))
  else
    bif zin s.1 8 then
    bif zin s.1 8 then
    some (.inr ((s.1 + 1), (zu s.2 107 s.1.toNatClampNeg (s.2 82 s.1.toNatClampNeg))))
    else none
    else none
def f185_often_L85 (v2 : Int32) (v4 : Int32) (v5 : Int32) (s : (Int32 × Int32 × (Nat → Nat → Int32))) : Option ((Int32 × Int32 × (Nat → Nat → Int32)) ⊕ (Int32 × Int32 × (Nat → Nat → Int32))) :=
  if (s.2.2 73 9) ≤ s.2.1 then
    some (.inl (s.1, s.2.1, s.2.2))
  else
    if ((s.2.2 73 1) : Int32) = 0 then none else
    bif zin s.2.1 8 then
    some (.inr (((s.1 * 1103515245) + 12345), (s.2.1 + 1), (zu s.2.2 82 s.2.1.toNatClampNeg (((((s.1 * 1103515245) + 12345).toUInt32 >>> ((8 : Int32).toUInt32 &&& Int32.toUInt32 31)).toInt32) - ((((s.1 * 1103515245) + 12345).toUInt32 >>> ((8 : Int32).toUInt32 &&& Int32.toUInt32 31)).toInt32) / (s.2.2 73 1) * (s.2.2 73 1)))))
    else none
def f185_often_L73 (v2 : Int32) (s : (Int32 × Int32 × Int32 × (Nat → Nat → Int32))) : Option ((Int32 × Int32 × Int32 × (Nat → Nat → Int32)) ⊕ (Int32 × Int32 × Int32 × (Nat → Nat → Int32))) :=
  if (v2 / 10) ≤ s.2.2.1 then
    some (.inl (s.1, s.2.1, s.2.2.1, s.2.2.2))
  else
    Option.bind (zloop (f185_often_L85 v2 s.2.1 s.2.2.1) 5000 (s.1, (0 : Int32), s.2.2.2)) fun s11 =>
    Option.bind (f171_goTo (s11.2.2 73 15) s11.2.2) fun t14 =>
    if t14.1 = (v2 - v2 / 10 * 10) then
      some (.inr (s11.1, (s.2.1 + 1), (s.2.2.1 + 1), t14.2))
    else
      some (.inr (s11.1, s.2.1, (s.2.2.1 + 1), t14.2))
def f185_often_L153 (v4 : Int32) (s : (Int32 × (Nat → Nat → Int32))) : Option ((Int32 × (Nat → Nat → Int32)) ⊕ (Int32 × (Nat → Nat → Int32))) :=
  if (s.2 73 9) ≤ s.1 then
    some (.inl (s.1, s.2))
  else
    bif zin s.1 8 then
    bif zin s.1 8 then
    some (.inr ((s.1 + 1), (zu s.2 82 s.1.toNatClampNeg (s.2 107 s.1.toNatClampNeg))))
    else none
    else none
def f185_often (v1 : Int32) (v2 : Int32) (I : (Nat → Nat → Int32)) : Option (Int32 × (Nat → Nat → Int32)) :=
  if v2 < 0 then
    some ((-1), I)
  else
    Option.bind (f129_in (v2 / 10) 1 20) fun t2 =>
    if t2 = 0 then
      some ((-1), I)
    else
      if (v2 - v2 / 10 * 10) ≤ 2 then
        if (I 73 1) = 0 then
          some ((-5), I)
        else
          Option.bind (zloop (f185_often_L39 v1 v2) 5000 ((0 : Int32), I)) fun s6 =>
          Option.bind (zloop (f185_often_L73 v2) 5000 (v1, (0 : Int32), (0 : Int32), s6.2)) fun s17 =>
          Option.bind (zloop (f185_often_L153 s17.2.1) 5000 ((0 : Int32), s17.2.2.2)) fun s22 =>
          some (s17.2.1, s22.2)
      else
        some ((-1), I)
def f104_sooner (v1 : Int32) (I : (Nat → Nat → Int32)) : Option (Int32 × (Nat → Nat → Int32)) :=
  Option.bind (f126_within v1 0 9) fun t2 =>
  if t2 = 0 then
    some ((-1), I)
  else
    if (I 1 0) = 0 then
      some ((-5), I)
    else
      Option.bind (f81_asIn_39 I) fun t4 =>
      Option.bind (f40_pass_38 (zu t4 39 1 v1)) fun t6 =>
      some ((t6 38 17), t6)
def f186_sooner (v1 : Int32) (I : (Nat → Nat → Int32)) : Option (Int32 × (Nat → Nat → Int32)) :=
  Option.bind (f129_in v1 0 9) fun t2 =>
  if t2 = 0 then
    some ((-1), I)
  else
    if (I 73 1) = 0 then
      some ((-5), I)
    else
      Option.bind (f171_goTo (I 73 15) (zu I 73 16 v1)) fun t4 =>
      some (t4.1, (zu t4.2 73 16 (I 73 16)))
def f106_makesHundred_L4 (v0 : Nat) (I : (Nat → Nat → Int32)) (J : (Nat → Nat → Int64)) (s : (Int64 × Int32)) : Option (Int32 ⊕ ((Int64 × Int32) ⊕ (Int64 × Int32))) :=
  if (10 : Int32) ≤ s.2 then
    some (.inr (.inl (s.1, s.2)))
  else
    Option.bind (f57_at v0 s.2 I J) fun t2 =>
    if (lg_cmp t2 0) < 0 then
      some (.inl 0)
    else
      if (lg_cmp t2 100) ≤ 0 then
        some (.inr (.inr ((s.1 + t2), (s.2 + 1))))
      else
        some (.inl 0)
def f106_makesHundred (v0 : Nat) (I : (Nat → Nat → Int32)) (J : (Nat → Nat → Int64)) : Option Int32 :=
  zbR (zloopR (f106_makesHundred_L4 v0 I J) 5000 ((0 : Int64), (0 : Int32))) (fun rr => some rr) fun s6 =>
  if (lg_cmp s6.1 100) = 0 then
    some 1
  else
    some 0
def f105_bell_L81 (v2 : Int32) (v3 : Nat) (J : (Nat → Nat → Int64)) (s : (Int32 × Int32 × (Nat → Nat → Int32))) : Option ((Int32 × Int32 × (Nat → Nat → Int32)) ⊕ (Int32 × Int32 × (Nat → Nat → Int32))) :=
  if (10 : Int32) ≤ s.2.1 then
    some (.inl (s.1, s.2.1, s.2.2))
  else
    Option.bind (f57_at v3 s.2.1 s.2.2 J) fun t11 =>
    if t11.toInt32 ≤ 0 then
      some (.inr (s.1, (s.2.1 + 1), s.2.2))
    else
      Option.bind (f81_asIn_39 s.2.2) fun t13 =>
      Option.bind (f40_pass_38 (zu t13 39 0 (zmax 1 ((t13 1 3) - s.2.1)))) fun t15 =>
      if (t15 38 17) = v2 then
        some (.inr ((s.1 + t11.toInt32), (s.2.1 + 1), t15))
      else
        some (.inr ((s.1 + 0), (s.2.1 + 1), t15))
def f105_bell (v1 : Int32) (v2 : Int32) (I : (Nat → Nat → Int32)) (J : (Nat → Nat → Int64)) : Option (Int32 × (Nat → Nat → Int32)) :=
  Option.bind (f127_isShelf v1) fun t2 =>
  if t2 = 0 then
    some ((-1), I)
  else
    Option.bind (f126_within v2 0 2) fun t4 =>
    if t4 = 0 then
      some ((-1), I)
    else
      bif zin v1 6 then
      Option.bind (f55_refusal (zshelf v1) 0 I) fun t7 =>
      if t7 = 0 then
        if (10 : Int32) ≤ (I (zshelf v1) 2) then
          Option.bind (f106_makesHundred (zshelf v1) I J) fun t9 =>
          if t9 = 0 then
            some ((-2), I)
          else
            if (I 1 0) = 0 then
              some ((-5), I)
            else
              Option.bind (zloop (f105_bell_L81 v2 (zshelf v1) J) 5000 ((0 : Int32), (0 : Int32), I)) fun s19 =>
              some (s19.1, s19.2.2)
        else
          some ((-13), I)
      else
        some (t7, I)
      else none
def f187_bell_L64 (v1 : Int32) (v2 : Int32) (I : (Nat → Nat → Int32)) (J : (Nat → Nat → Int64)) (s : (Int32 × Int32)) : Option ((Int32 × (Nat → Nat → Int32)) ⊕ ((Int32 × Int32) ⊕ (Int32 × Int32))) :=
  if (10 : Int32) ≤ s.2 then
    some (.inr (.inl (s.1, s.2)))
  else
    bif zin ((60 * v1) + s.2) 360 then
    Option.bind (f129_in (J 112 ((60 * v1) + s.2).toNatClampNeg).toInt32 0 100) fun t10 =>
    if t10 = 0 then
      some (.inl ((-2), I))
    else
      some (.inr (.inr ((s.1 + (J 112 ((60 * v1) + s.2).toNatClampNeg).toInt32), (s.2 + 1))))
    else none
def f187_bell_L136 (v1 : Int32) (v2 : Int32) (J : (Nat → Nat → Int64)) (s : (Int32 × Int32 × (Nat → Nat → Int32))) : Option ((Int32 × Int32 × (Nat → Nat → Int32)) ⊕ (Int32 × Int32 × (Nat → Nat → Int32))) :=
  if (10 : Int32) ≤ s.2.1 then
    some (.inl (s.1, s.2.1, s.2.2))
  else
    if (1 : Int32) ≤ ((s.2.2 73 15) - s.2.1) then
      Option.bind (f171_goTo ((s.2.2 73 15) - s.2.1) s.2.2) fun t16 =>
      if t16.1 = v2 then
        bif zin ((60 * v1) + s.2.1) 360 then
        some (.inr ((s.1 + (J 112 ((60 * v1) + s.2.1).toNatClampNeg).toInt32), (s.2.1 + 1), t16.2))
        else none
      else
        some (.inr (s.1, (s.2.1 + 1), t16.2))
    else
      Option.bind (f171_goTo 1 s.2.2) fun t20 =>
      if t20.1 = v2 then
        bif zin ((60 * v1) + s.2.1) 360 then
        some (.inr ((s.1 + (J 112 ((60 * v1) + s.2.1).toNatClampNeg).toInt32), (s.2.1 + 1), t20.2))
        else none
      else
        some (.inr (s.1, (s.2.1 + 1), t20.2))
def f187_bell (v1 : Int32) (v2 : Int32) (I : (Nat → Nat → Int32)) (J : (Nat → Nat → Int64)) : Option (Int32 × (Nat → Nat → Int32)) :=
  Option.bind (f210_isShelf v1) fun t2 =>
  if t2 = 0 then
    some ((-1), I)
  else
    Option.bind (f129_in v2 0 2) fun t4 =>
    if t4 = 0 then
      some ((-1), I)
    else
      bif zin v1 6 then
      if (I 110 v1.toNatClampNeg) = (-1) then
        some ((-11), I)
      else
        bif zin v1 6 then
        if (I 110 v1.toNatClampNeg) = (-2) then
          bif zin v1 6 then
          if (10 : Int32) ≤ (I 111 v1.toNatClampNeg) then
            zbR (zloopR (f187_bell_L64 v1 v2 I J) 5000 ((0 : Int32), (0 : Int32))) (fun rr => some rr) fun s13 =>
            if s13.1 = 100 then
              if (I 73 1) = 0 then
                some ((-5), I)
              else
                Option.bind (zloop (f187_bell_L136 v1 v2 J) 5000 ((0 : Int32), (0 : Int32), I)) fun s25 =>
                some (s25.1, s25.2.2)
            else
              some ((-2), I)
          else
            some ((-13), I)
          else none
        else
          some ((-12), I)
        else none
      else none
def f82_stand_39 (v1 : Int32) (v2 : Int32) (I : (Nat → Nat → Int32)) : Option (Nat → Nat → Int32) :=
  some (zu (zu I 39 2 v1) 39 3 v2)
def f108_paid_L15 (v1 : Int32) (s : (Int32 × (Nat → Nat → Int32))) : Option ((Int32 × (Nat → Nat → Int32)) ⊕ ((Int32 × (Nat → Nat → Int32)) ⊕ (Int32 × (Nat → Nat → Int32)))) :=
  if (200 : Int32) < s.1 then
    some (.inr (.inl (s.1, s.2)))
  else
    Option.bind (f81_asIn_39 s.2) fun t4 =>
    Option.bind (f82_stand_39 v1 s.1 t4) fun t6 =>
    Option.bind (f40_pass_38 t6) fun t8 =>
    bif zin v1 4 then
    if (t8 38 17) = (t8 3 v1.toNatClampNeg) then
      some (.inl (s.1, t8))
    else
      some (.inr (.inr ((s.1 + 1), t8)))
    else none
def f108_paid (v1 : Int32) (I : (Nat → Nat → Int32)) : Option (Int32 × (Nat → Nat → Int32)) :=
  Option.bind (f61_isSquare v1 I) fun t2 =>
  if t2 = 0 then
    some ((-1), I)
  else
    zbR (zloopR (f108_paid_L15 v1) 5000 ((0 : Int32), I)) (fun rr => some rr) fun s12 =>
    some ((-2), s12.2)
def f188_paid_L20 (v1 : Int32) (s : (Int32 × Int32 × (Nat → Nat → Int32))) : Option ((Int32 × Int32 × (Nat → Nat → Int32)) ⊕ (Int32 × Int32 × (Nat → Nat → Int32))) :=
  if (200 : Int32) < s.2.1 then
    some (.inl (s.1, s.2.1, s.2.2))
  else
    if (0 : Int32) ≤ s.1 then
      some (.inl (s.1, s.2.1, s.2.2))
    else
      Option.bind (f171_goTo (s.2.2 73 15) (zu s.2.2 73 45 s.2.1)) fun t4 =>
      bif zin v1 4 then
      if t4.1 = (t4.2 75 v1.toNatClampNeg) then
        some (.inr (s.2.1, (s.2.1 + 1), t4.2))
      else
        some (.inr (s.1, (s.2.1 + 1), t4.2))
      else none
def f188_paid (v1 : Int32) (I : (Nat → Nat → Int32)) : Option (Int32 × (Nat → Nat → Int32)) :=
  Option.bind (f130_isSquare v1 I) fun t2 =>
  if t2 = 0 then
    some ((-1), I)
  else
    Option.bind (zloop (f188_paid_L20 v1) 5000 (((-2) : Int32), (0 : Int32), (zu I 73 46 v1))) fun s9 =>
    some (s9.1, (zu s9.2.2 73 45 0))
def f83_follow_39 (v1 : Int32) (v2 : Int32) (v3 : Int32) (I : (Nat → Nat → Int32)) : Option (Nat → Nat → Int32) :=
  some (zu (zu (zu I 39 4 v1) 39 5 v2) 39 6 v3)
def f109_lead_L49 (v2 : Int32) (v3 : Int32) (s : (Int32 × (Nat → Nat → Int32))) : Option ((Int32 × (Nat → Nat → Int32)) ⊕ ((Int32 × (Nat → Nat → Int32)) ⊕ (Int32 × (Nat → Nat → Int32)))) :=
  if s.1 < 0 then
    some (.inr (.inl (s.1, s.2)))
  else
    Option.bind (f81_asIn_39 s.2) fun t6 =>
    Option.bind (f83_follow_39 v2 v3 s.1 t6) fun t8 =>
    Option.bind (f40_pass_38 t8) fun t10 =>
    bif zin v2 8 then
    if (t10 38 17) = (t10 9 v2.toNatClampNeg) then
      some (.inl (s.1, t10))
    else
      some (.inr (.inr ((s.1 - 1), t10)))
    else none
def f109_lead (v1 : Int32) (I : (Nat → Nat → Int32)) : Option (Int32 × (Nat → Nat → Int32)) :=
  if v1 < 0 then
    some ((-1), I)
  else
    Option.bind (f62_isSort (v1 / 10) I) fun t2 =>
    if t2 = 0 then
      some ((-1), I)
    else
      Option.bind (f61_isSquare (v1 - v1 / 10 * 10) I) fun t4 =>
      if t4 = 0 then
        some ((-1), I)
      else
        zbR (zloopR (f109_lead_L49 (v1 / 10) (v1 - v1 / 10 * 10)) 5000 (((I 1 3) - 1), I)) (fun rr => some rr) fun s14 =>
        some ((-2), s14.2)
def f189_lead_L54 (v1 : Int32) (s : (Int32 × Int32 × (Nat → Nat → Int32))) : Option ((Int32 × Int32 × (Nat → Nat → Int32)) ⊕ (Int32 × Int32 × (Nat → Nat → Int32))) :=
  if s.2.1 < 0 then
    some (.inl (s.1, s.2.1, s.2.2))
  else
    if (0 : Int32) ≤ s.1 then
      some (.inl (s.1, s.2.1, s.2.2))
    else
      Option.bind (f171_goTo (s.2.2 73 15) (zu s.2.2 73 48 s.2.1)) fun t6 =>
      bif zin (v1 / 10) 8 then
      if t6.1 = (t6.2 81 (v1 / 10).toNatClampNeg) then
        some (.inr (s.2.1, (s.2.1 - 1), t6.2))
      else
        some (.inr (s.1, (s.2.1 - 1), t6.2))
      else none
def f189_lead (v1 : Int32) (I : (Nat → Nat → Int32)) : Option (Int32 × (Nat → Nat → Int32)) :=
  if v1 < 0 then
    some ((-1), I)
  else
    Option.bind (f131_isSort (v1 / 10) I) fun t2 =>
    if t2 = 0 then
      some ((-1), I)
    else
      Option.bind (f130_isSquare (v1 - v1 / 10 * 10) I) fun t4 =>
      if t4 = 0 then
        some ((-1), I)
      else
        Option.bind (zloop (f189_lead_L54 v1) 5000 (((-2) : Int32), ((I 73 15) - 1), (zu (zu I 73 47 (v1 / 10)) 73 49 (v1 - v1 / 10 * 10)))) fun s11 =>
        some (s11.1, (zu s11.2.2 73 47 (-1)))
def f110_serves_L39 (v1 : Int32) (s : (Int32 × Int32 × Int32 × Int32 × Int32 × (Nat → Nat → Int32))) : Option ((Int32 × Int32 × Int32 × Int32 × Int32 × (Nat → Nat → Int32)) ⊕ (Int32 × Int32 × Int32 × Int32 × Int32 × (Nat → Nat → Int32))) :=
  if (s.2.2.2.2.2 15 7) ≤ s.2.2.2.2.1 then
    some (.inl (s.1, s.2.1, s.2.2.1, s.2.2.2.1, s.2.2.2.2.1, s.2.2.2.2.2))
  else
    Option.bind (f81_asIn_39 s.2.2.2.2.2) fun t4 =>
    bif zin v1 8 then
    Option.bind (f40_pass_38 (zu t4 41 v1.toNatClampNeg s.2.2.2.2.1)) fun t7 =>
    bif zin v1 8 then
    if (t7 38 17) = (t7 9 v1.toNatClampNeg) then
      if s.1 < 0 then
        if s.2.2.1 < 0 then
          some (.inr (s.2.2.2.2.1, (t7 38 18), s.2.2.2.2.1, (t7 38 18), (s.2.2.2.2.1 + 1), t7))
        else
          if s.2.2.2.1 ≤ (t7 38 18) then
            some (.inr (s.2.2.2.2.1, (t7 38 18), s.2.2.1, s.2.2.2.1, (s.2.2.2.2.1 + 1), t7))
          else
            some (.inr (s.2.2.2.2.1, (t7 38 18), s.2.2.2.2.1, (t7 38 18), (s.2.2.2.2.1 + 1), t7))
      else
        if (t7 38 18) ≤ s.2.1 then
          if s.2.2.1 < 0 then
            some (.inr (s.1, s.2.1, s.2.2.2.2.1, (t7 38 18), (s.2.2.2.2.1 + 1), t7))
          else
            if s.2.2.2.1 ≤ (t7 38 18) then
              some (.inr (s.1, s.2.1, s.2.2.1, s.2.2.2.1, (s.2.2.2.2.1 + 1), t7))
            else
              some (.inr (s.1, s.2.1, s.2.2.2.2.1, (t7 38 18), (s.2.2.2.2.1 + 1), t7))
        else
          if s.2.2.1 < 0 then
            some (.inr (s.2.2.2.2.1, (t7 38 18), s.2.2.2.2.1, (t7 38 18), (s.2.2.2.2.1 + 1), t7))
          else
            if s.2.2.2.1 ≤ (t7 38 18) then
              some (.inr (s.2.2.2.2.1, (t7 38 18), s.2.2.1, s.2.2.2.1, (s.2.2.2.2.1 + 1), t7))
            else
              some (.inr (s.2.2.2.2.1, (t7 38 18), s.2.2.2.2.1, (t7 38 18), (s.2.2.2.2.1 + 1), t7))
    else
      if s.2.2.1 < 0 then
        some (.inr (s.1, s.2.1, s.2.2.2.2.1, (t7 38 18), (s.2.2.2.2.1 + 1), t7))
      else
        if s.2.2.2.1 ≤ (t7 38 18) then
          some (.inr (s.1, s.2.1, s.2.2.1, s.2.2.2.1, (s.2.2.2.2.1 + 1), t7))
        else
          some (.inr (s.1, s.2.1, s.2.2.2.2.1, (t7 38 18), (s.2.2.2.2.1 + 1), t7))
    else none
    else none
def f110_serves (v1 : Int32) (I : (Nat → Nat → Int32)) : Option (Int32 × (Nat → Nat → Int32)) :=
  Option.bind (f62_isSort v1 I) fun t2 =>
  if t2 = 0 then
    some ((-1), I)
  else
    if (I 15 7) = 0 then
      some ((-5), I)
    else
      Option.bind (zloop (f110_serves_L39 v1) 5000 (((-1) : Int32), (0 : Int32), ((-1) : Int32), (0 : Int32), (0 : Int32), I)) fun s21 =>
      if s21.1 < 0 then
        some (s21.2.2.1, s21.2.2.2.2.2)
      else
        some (s21.1, s21.2.2.2.2.2)
def f190_serves_L35 (v1 : Int32) (s : (Int32 × Int32 × Int32 × Int32 × (Nat → Nat → Int32))) : Option ((Int32 × Int32 × Int32 × Int32 × (Nat → Nat → Int32)) ⊕ (Int32 × Int32 × Int32 × Int32 × (Nat → Nat → Int32))) :=
  if (s.2.2.2.2 73 31) ≤ s.2.2.2.1 then
    some (.inl (s.1, s.2.1, s.2.2.1, s.2.2.2.1, s.2.2.2.2))
  else
    Option.bind (f171_goTo (s.2.2.2.2 73 15) (zu s.2.2.2.2 73 51 s.2.2.2.1)) fun t4 =>
    bif zin v1 8 then
    if t4.1 = (t4.2 81 v1.toNatClampNeg) then
      if s.1 < 0 then
        some (.inr (s.2.2.2.1, (1 : Int32), (t4.2 73 54), (s.2.2.2.1 + 1), t4.2))
      else
        if s.2.1 = 0 then
          some (.inr (s.2.2.2.1, (1 : Int32), (t4.2 73 54), (s.2.2.2.1 + 1), t4.2))
        else
          if (1 : Int32) = s.2.1 then
            if (t4.2 73 54) ≤ s.2.2.1 then
              some (.inr (s.1, s.2.1, s.2.2.1, (s.2.2.2.1 + 1), t4.2))
            else
              some (.inr (s.2.2.2.1, (1 : Int32), (t4.2 73 54), (s.2.2.2.1 + 1), t4.2))
          else
            some (.inr (s.1, s.2.1, s.2.2.1, (s.2.2.2.1 + 1), t4.2))
    else
      if s.1 < 0 then
        some (.inr (s.2.2.2.1, (0 : Int32), (t4.2 73 54), (s.2.2.2.1 + 1), t4.2))
      else
        if (0 : Int32) = s.2.1 then
          if s.2.2.1 ≤ (t4.2 73 54) then
            some (.inr (s.1, s.2.1, s.2.2.1, (s.2.2.2.1 + 1), t4.2))
          else
            some (.inr (s.2.2.2.1, (0 : Int32), (t4.2 73 54), (s.2.2.2.1 + 1), t4.2))
        else
          some (.inr (s.1, s.2.1, s.2.2.1, (s.2.2.2.1 + 1), t4.2))
    else none
def f190_serves (v1 : Int32) (I : (Nat → Nat → Int32)) : Option (Int32 × (Nat → Nat → Int32)) :=
  Option.bind (f131_isSort v1 I) fun t2 =>
  if t2 = 0 then
    some ((-1), I)
  else
    if (I 73 31) = 0 then
      some ((-5), I)
    else
      Option.bind (zloop (f190_serves_L35 v1) 5000 (((-1) : Int32), (0 : Int32), (0 : Int32), (0 : Int32), (zu I 73 50 v1))) fun s15 =>
      some (s15.1, (zu s15.2.2.2.2 73 50 (-1)))
def f79_couldCome_L4 (v1 : Int32) (I : (Nat → Nat → Int32)) (s : (Int32 × Int32)) : Option ((Int32 × Int32) ⊕ (Int32 × Int32)) :=
  if (I 1 2) ≤ s.2 then
    some (.inl (s.1, s.2))
  else
    bif zin s.2 8 then
    if (I 10 s.2.toNatClampNeg) = v1 then
      bif zin s.2 8 then
      some (.inr ((s.1 + (I 8 s.2.toNatClampNeg)), (s.2 + 1)))
      else none
    else
      bif zin s.2 8 then
      Option.bind (f77_lastMinute s.2 (I 10 s.2.toNatClampNeg) v1 I) fun t5 =>
      if t5 = (-2) then
        some (.inr (s.1, (s.2 + 1)))
      else
        bif zin s.2 8 then
        some (.inr ((s.1 + (I 8 s.2.toNatClampNeg)), (s.2 + 1)))
        else none
      else none
    else none
def f79_couldCome (v1 : Int32) (I : (Nat → Nat → Int32)) : Option Int32 :=
  Option.bind (zloop (f79_couldCome_L4 v1 I) 5000 ((0 : Int32), (0 : Int32))) fun s10 =>
  some s10.1
def f112_judged_L5 (v1 : Nat) (I : (Nat → Nat → Int32)) (J : (Nat → Nat → Int64)) (s : (Int64 × Int32)) : Option (Int32 ⊕ ((Int64 × Int32) ⊕ (Int64 × Int32))) :=
  if (I 1 0) ≤ s.2 then
    some (.inr (.inl (s.1, s.2)))
  else
    Option.bind (f57_at v1 s.2 I J) fun t2 =>
    bif zin s.2 4 then
    if (0 : Int32) < (lg_cmp t2 (I 2 s.2.toNatClampNeg).toInt64) then
      some (.inl s.2)
    else
      Option.bind (f79_couldCome s.2 I) fun t5 =>
      if (lg_cmp t2 t5.toInt64) ≤ 0 then
        some (.inr (.inr ((s.1 + t2), (s.2 + 1))))
      else
        some (.inl s.2)
    else none
def f112_judged (v1 : Nat) (I : (Nat → Nat → Int32)) (J : (Nat → Nat → Int64)) : Option Int32 :=
  zbR (zloopR (f112_judged_L5 v1 I J) 5000 ((0 : Int64), (0 : Int32))) (fun rr => some rr) fun s9 =>
  Option.bind (f73_people I) fun t12 =>
  if (lg_cmp s9.1 t12.toInt64) ≤ 0 then
    some (-2)
  else
    some 9
def f111_judge (v1 : Int32) (I : (Nat → Nat → Int32)) (J : (Nat → Nat → Int64)) : Option Int32 :=
  Option.bind (f127_isShelf v1) fun t2 =>
  if t2 = 0 then
    some (-1)
  else
    bif zin v1 6 then
    Option.bind (f55_refusal (zshelf v1) 1 I) fun t5 =>
    if t5 = 0 then
      if (I 1 0) ≤ (I (zshelf v1) 2) then
        Option.bind (f112_judged (zshelf v1) I J) fun t7 =>
        some t7
      else
        some (-13)
    else
      some t5
    else none
def f191_judge_L89 (v1 : Int32) (v2 : Int32) (v3 : Int32) (v4 : Int32) (J : (Nat → Nat → Int64)) (s : (Int32 × Int32 × (Nat → Nat → Int32))) : Option ((Int32 × Int32 × (Nat → Nat → Int32)) ⊕ (Int32 × Int32 × (Nat → Nat → Int32))) :=
  if (s.2.2 73 9) ≤ s.2.1 then
    some (.inl (s.1, s.2.1, s.2.2))
  else
    bif zin s.2.1 8 then
    if (s.2.2 82 s.2.1.toNatClampNeg) = v3 then
      bif zin s.2.1 8 then
      some (.inr ((s.1 + (s.2.2 80 s.2.1.toNatClampNeg)), (s.2.1 + 1), s.2.2))
      else none
    else
      bif zin s.2.1 8 then
      Option.bind (f179_lastOf s.2.1 (s.2.2 82 s.2.1.toNatClampNeg) v3 s.2.2) fun t11 =>
      if t11.1 < 0 then
        some (.inr (s.1, (s.2.1 + 1), t11.2))
      else
        bif zin s.2.1 8 then
        some (.inr ((s.1 + (t11.2 80 s.2.1.toNatClampNeg)), (s.2.1 + 1), t11.2))
        else none
      else none
    else none
def f191_judge_L56 (v1 : Int32) (J : (Nat → Nat → Int64)) (s : (Int32 × Int32 × (Nat → Nat → Int32))) : Option ((Int32 × (Nat → Nat → Int32)) ⊕ ((Int32 × Int32 × (Nat → Nat → Int32)) ⊕ (Int32 × Int32 × (Nat → Nat → Int32)))) :=
  if (s.2.2 73 1) ≤ s.2.1 then
    some (.inr (.inl (s.1, s.2.1, s.2.2)))
  else
    bif zin ((60 * v1) + s.2.1) 360 then
    Option.bind (zloop (f191_judge_L89 v1 (s.1 + (J 112 ((60 * v1) + s.2.1).toNatClampNeg).toInt32) s.2.1 (J 112 ((60 * v1) + s.2.1).toNatClampNeg).toInt32 J) 5000 ((0 : Int32), (0 : Int32), s.2.2)) fun s16 =>
    bif zin s.2.1 4 then
    if (s16.2.2 74 s.2.1.toNatClampNeg) < (J 112 ((60 * v1) + s.2.1).toNatClampNeg).toInt32 then
      some (.inl (s.2.1, s16.2.2))
    else
      if (J 112 ((60 * v1) + s.2.1).toNatClampNeg).toInt32 ≤ s16.1 then
        some (.inr (.inr ((s.1 + (J 112 ((60 * v1) + s.2.1).toNatClampNeg).toInt32), (s.2.1 + 1), s16.2.2)))
      else
        some (.inl (s.2.1, s16.2.2))
    else none
    else none
def f191_judge (v1 : Int32) (I : (Nat → Nat → Int32)) (J : (Nat → Nat → Int64)) : Option (Int32 × (Nat → Nat → Int32)) :=
  Option.bind (f210_isShelf v1) fun t2 =>
  if t2 = 0 then
    some ((-1), I)
  else
    bif zin v1 6 then
    if (I 110 v1.toNatClampNeg) = (-1) then
      some ((-11), I)
    else
      bif zin v1 6 then
      if (I 110 v1.toNatClampNeg) = (-3) then
        bif zin v1 6 then
        if (I 73 1) ≤ (I 111 v1.toNatClampNeg) then
          zbR (zloopR (f191_judge_L56 v1 J) 5000 ((0 : Int32), (0 : Int32), I)) (fun rr => some rr) fun s22 =>
          Option.bind (f183_wanting 0 s22.2.2) fun t25 =>
          Option.bind (f183_wanting 1 s22.2.2) fun t27 =>
          if s22.1 ≤ (t25 + t27) then
            some ((-2), s22.2.2)
          else
            some (9, s22.2.2)
        else
          some ((-13), I)
        else none
      else
        some ((-12), I)
      else none
    else none
def f15_back (I : (Nat → Nat → Int32)) : Option (Int32 × (Nat → Nat → Int32)) :=
  if (I 52 5) = 0 then
    some ((-5), I)
  else
    bif zin ((I 52 5) - 1) 40 then
    bif zin ((I 52 5) - 1) 40 then
    bif zin ((I 52 5) - 1) 40 then
    Option.bind (f69_mended (I 53 ((I 52 5) - 1).toNatClampNeg) (I 54 ((I 52 5) - 1).toNatClampNeg) (I 55 ((I 52 5) - 1).toNatClampNeg) (zu I 52 5 ((I 52 5) - 1))) fun t5 =>
    some ((t5.2 52 5), t5.2)
    else none
    else none
    else none
def f113_undo (I : (Nat → Nat → Int32)) : Option (Int32 × (Nat → Nat → Int32)) :=
  Option.bind (f15_back I) fun t2 =>
  some (t2.1, t2.2)
def f162_undo (I : (Nat → Nat → Int32)) : Option (Int32 × (Nat → Nat → Int32)) :=
  if (I 73 32) = 0 then
    some ((-5), I)
  else
    bif zin ((I 73 32) - 1) 40 then
    bif zin ((I 73 32) - 1) 40 then
    bif zin ((I 73 32) - 1) 40 then
    Option.bind (f160_lays (I 93 ((I 73 32) - 1).toNatClampNeg) (I 94 ((I 73 32) - 1).toNatClampNeg) (I 95 ((I 73 32) - 1).toNatClampNeg) (zu (zu I 73 32 ((I 73 32) - 1)) 73 33 ((I 73 33) + 1))) fun t5 =>
    some ((t5 73 32), t5)
    else none
    else none
    else none
def f16_again (I : (Nat → Nat → Int32)) : Option (Int32 × (Nat → Nat → Int32)) :=
  if (I 52 5) = (I 52 4) then
    some ((-5), I)
  else
    bif zin (I 52 5) 40 then
    bif zin (I 52 5) 40 then
    bif zin (I 52 5) 40 then
    Option.bind (f69_mended (I 53 (I 52 5).toNatClampNeg) (I 54 (I 52 5).toNatClampNeg) (I 56 (I 52 5).toNatClampNeg) I) fun t5 =>
    some (((t5.2 52 4) - ((t5.2 52 5) + 1)), (zu t5.2 52 5 ((t5.2 52 5) + 1)))
    else none
    else none
    else none
def f114_redo (I : (Nat → Nat → Int32)) : Option (Int32 × (Nat → Nat → Int32)) :=
  Option.bind (f16_again I) fun t2 =>
  some (t2.1, t2.2)
def f163_redo (I : (Nat → Nat → Int32)) : Option (Int32 × (Nat → Nat → Int32)) :=
  if (I 73 33) = 0 then
    some ((-5), I)
  else
    bif zin (I 73 32) 40 then
    bif zin (I 73 32) 40 then
    bif zin (I 73 32) 40 then
    Option.bind (f160_lays (I 93 (I 73 32).toNatClampNeg) (I 94 (I 73 32).toNatClampNeg) (I 96 (I 73 32).toNatClampNeg) I) fun t5 =>
    some (((t5 73 33) - 1), (zu (zu t5 73 32 ((t5 73 32) + 1)) 73 33 ((t5 73 33) - 1)))
    else none
    else none
    else none
def f2_isKind (v0 : Int32) : Option Int32 :=
  if v0 < 0 then
    some 0
  else
    if (7 : Int32) < v0 then
      some 0
    else
      some 1
def f5_add (v1 : Int32) (I : (Nat → Nat → Int32)) : Option (Int32 × (Nat → Nat → Int32)) :=
  Option.bind (f2_isKind v1) fun t2 =>
  if t2 = 0 then
    some ((-1), I)
  else
    if (I 57 2) = 50 then
      some ((-3), I)
    else
      bif zin (I 57 2) 50 then
      some ((((I 57 2) + 1) - 1), (zu (zu I 58 (I 57 2).toNatClampNeg v1) 57 2 ((I 57 2) + 1)))
      else none
def f115_body (v1 : Int32) (I : (Nat → Nat → Int32)) : Option (Int32 × (Nat → Nat → Int32)) :=
  Option.bind (f5_add v1 I) fun t2 =>
  some (t2.1, t2.2)
def f195_body (v1 : Int32) (I : (Nat → Nat → Int32)) : Option (Int32 × (Nat → Nat → Int32)) :=
  Option.bind (f129_in v1 0 7) fun t2 =>
  if t2 = 0 then
    some ((-1), I)
  else
    if (I 73 66) = 50 then
      some ((-3), I)
    else
      bif zin (I 73 66) 50 then
      some ((((I 73 66) + 1) - 1), (zu (zu I 108 (I 73 66).toNatClampNeg v1) 73 66 ((I 73 66) + 1)))
      else none
def f4_isBody (v1 : Int32) (I : (Nat → Nat → Int32)) : Option Int32 :=
  if v1 < 0 then
    some 0
  else
    if (I 57 2) ≤ v1 then
      some 0
    else
      some 1
def f7_begin (v1 : Int32) (I : (Nat → Nat → Int32)) : Option (Nat → Nat → Int32) :=
  if (24 : Int32) ≤ (I 57 3) then
    some (zu I 57 3 ((I 57 3) + 1))
  else
    bif zin (I 57 3) 24 then
    some (zu (zu I 59 (I 57 3).toNatClampNeg v1) 57 3 ((I 57 3) + 1))
    else none
def bf8_goes (rc : ((Int32 → Int32 → (Nat → Nat → Int32) → Option (Int32 × (Nat → Nat → Int32))))) (v1 : Int32) (v2 : Int32) (I : (Nat → Nat → Int32)) : Option (Int32 × (Nat → Nat → Int32)) :=
  if v1.toInt = 1 then
    Option.bind (f7_begin 20 I) fun t2 =>
    Option.bind (rc 0 v2 t2) fun t4 =>
    some ((t4.1 + 3), t4.2)
  else
  if v1.toInt = 2 then
    Option.bind (f7_begin 1 I) fun t6 =>
    some ((v2 + (t6 57 5)), t6)
  else
  if v1.toInt = 3 then
    Option.bind (f7_begin 1 I) fun t8 =>
    some ((v2 + (t8 57 5)), t8)
  else
  if v1.toInt = 4 then
    Option.bind (f7_begin 20 I) fun t10 =>
    Option.bind (rc 0 v2 t10) fun t12 =>
    some ((t12.1 + 3), t12.2)
  else
  if v1.toInt = 5 then
    Option.bind (f7_begin 20 I) fun t14 =>
    Option.bind (rc 0 v2 t14) fun t16 =>
    some ((t16.1 + 3), t16.2)
  else
  if v1.toInt = 6 then
    Option.bind (f7_begin 70 I) fun t18 =>
    Option.bind (rc 0 v2 t18) fun t20 =>
    some ((t20.1 * 2), t20.2)
  else
  if v1.toInt = 7 then
    Option.bind (f7_begin 81 I) fun t22 =>
    Option.bind (rc 6 v2 t22) fun t24 =>
    some ((t24.1 - 1), t24.2)
  else
  Option.bind (f7_begin 1 I) fun t26 =>
  some ((v2 + (t26 57 5)), t26)
def F8 : Nat → ((Int32 → Int32 → (Nat → Nat → Int32) → Option (Int32 × (Nat → Nat → Int32))))
  | 0 => fun _ _ _ => none
  | n + 1 => bf8_goes (F8 n)
def f8_goes (n : Nat) (v1 : Int32) (v2 : Int32) (I : (Nat → Nat → Int32)) : Option (Int32 × (Nat → Nat → Int32)) := (F8 n) v1 v2 I
def bf10_waits (rc : ((Int32 → Int32 → (Nat → Nat → Int32) → Option (Int32 × (Nat → Nat → Int32))))) (v1 : Int32) (v2 : Int32) (I : (Nat → Nat → Int32)) : Option (Int32 × (Nat → Nat → Int32)) :=
  if v1.toInt = 3 then
    Option.bind (f7_begin 40 I) fun t2 =>
    Option.bind (rc 2 v2 t2) fun t4 =>
    some ((t4.1 * 3), t4.2)
  else
  if v1.toInt = 5 then
    Option.bind (f7_begin 60 I) fun t6 =>
    Option.bind (rc 4 v2 t6) fun t8 =>
    Option.bind (f8_goes 200 (t8.2 57 4) 2 t8.2) fun t10 =>
    some ((t8.1 - t10.1), t10.2)
  else
  Option.bind (f7_begin 11 I) fun t12 =>
  some ((v2 ^^^ (t12 57 5)), t12)
def F10 : Nat → ((Int32 → Int32 → (Nat → Nat → Int32) → Option (Int32 × (Nat → Nat → Int32))))
  | 0 => fun _ _ _ => none
  | n + 1 => bf10_waits (F10 n)
def f10_waits (n : Nat) (v1 : Int32) (v2 : Int32) (I : (Nat → Nat → Int32)) : Option (Int32 × (Nat → Nat → Int32)) := (F10 n) v1 v2 I
def bf9_sees (rc : ((Int32 → Int32 → (Nat → Nat → Int32) → Option (Int32 × (Nat → Nat → Int32))))) (v1 : Int32) (v2 : Int32) (I : (Nat → Nat → Int32)) : Option (Int32 × (Nat → Nat → Int32)) :=
  if v1.toInt = 2 then
    Option.bind (f7_begin 30 I) fun t2 =>
    Option.bind (rc 0 v2 t2) fun t4 =>
    some ((-t4.1), t4.2)
  else
  if v1.toInt = 3 then
    Option.bind (f7_begin 41 I) fun t6 =>
    Option.bind (rc 2 (v2 + 1) t6) fun t8 =>
    some (t8.1, t8.2)
  else
  if v1.toInt = 7 then
    Option.bind (f7_begin 80 I) fun t10 =>
    Option.bind (rc 6 v2 t10) fun t12 =>
    Option.bind (f10_waits 200 (t12.2 57 4) 2 t12.2) fun t14 =>
    some ((t12.1 + t14.1), t14.2)
  else
  Option.bind (f7_begin 10 I) fun t16 =>
  Option.bind (f8_goes 200 (t16 57 4) v2 t16) fun t18 =>
  some ((t18.1 * 2), t18.2)
def F9 : Nat → ((Int32 → Int32 → (Nat → Nat → Int32) → Option (Int32 × (Nat → Nat → Int32))))
  | 0 => fun _ _ _ => none
  | n + 1 => bf9_sees (F9 n)
def f9_sees (n : Nat) (v1 : Int32) (v2 : Int32) (I : (Nat → Nat → Int32)) : Option (Int32 × (Nat → Nat → Int32)) := (F9 n) v1 v2 I
def bf11_tells (rc : ((Int32 → Int32 → (Nat → Nat → Int32) → Option (Int32 × (Nat → Nat → Int32))))) (v1 : Int32) (v2 : Int32) (I : (Nat → Nat → Int32)) : Option (Int32 × (Nat → Nat → Int32)) :=
  if v1.toInt = 4 then
    Option.bind (f7_begin 50 I) fun t2 =>
    Option.bind (rc 1 v2 t2) fun t4 =>
    some ((t4.1 ^^^ 5), t4.2)
  else
  if v1.toInt = 5 then
    Option.bind (f7_begin 61 I) fun t6 =>
    Option.bind (rc 4 v2 t6) fun t8 =>
    some ((t8.1 + 1), t8.2)
  else
  Option.bind (f7_begin 2 I) fun t10 =>
  Option.bind (f9_sees 200 (t10 57 4) v2 t10) fun t12 =>
  Option.bind (f10_waits 200 (t12.2 57 4) 1 t12.2) fun t14 =>
  some ((t12.1 - t14.1), t14.2)
def F11 : Nat → ((Int32 → Int32 → (Nat → Nat → Int32) → Option (Int32 × (Nat → Nat → Int32))))
  | 0 => fun _ _ _ => none
  | n + 1 => bf11_tells (F11 n)
def f11_tells (n : Nat) (v1 : Int32) (v2 : Int32) (I : (Nat → Nat → Int32)) : Option (Int32 × (Nat → Nat → Int32)) := (F11 n) v1 v2 I
def f6_play (v1 : Int32) (v2 : Int32) (v3 : Int32) (I : (Nat → Nat → Int32)) : Option (Int32 × (Nat → Nat → Int32)) :=
  Option.bind (f4_isBody v1 (zu I 57 3 0)) fun t2 =>
  if t2 = 0 then
    some (0, (zu I 57 3 0))
  else
    bif zin v1 50 then
    if v2.toInt = 0 then
      Option.bind (f8_goes 200 (I 58 v1.toNatClampNeg) v3 (zu (zu (zu I 57 3 0) 57 4 (I 58 v1.toNatClampNeg)) 57 5 v1)) fun t5 =>
      some (t5.1, t5.2)
    else
    if v2.toInt = 1 then
      Option.bind (f9_sees 200 (I 58 v1.toNatClampNeg) v3 (zu (zu (zu I 57 3 0) 57 4 (I 58 v1.toNatClampNeg)) 57 5 v1)) fun t7 =>
      some (t7.1, t7.2)
    else
    if v2.toInt = 2 then
      Option.bind (f10_waits 200 (I 58 v1.toNatClampNeg) v3 (zu (zu (zu I 57 3 0) 57 4 (I 58 v1.toNatClampNeg)) 57 5 v1)) fun t9 =>
      some (t9.1, t9.2)
    else
    if v2.toInt = 3 then
      Option.bind (f11_tells 200 (I 58 v1.toNatClampNeg) v3 (zu (zu (zu I 57 3 0) 57 4 (I 58 v1.toNatClampNeg)) 57 5 v1)) fun t11 =>
      some (t11.1, t11.2)
    else
    some (0, (zu (zu (zu I 57 3 0) 57 4 (I 58 v1.toNatClampNeg)) 57 5 v1))
    else none
def f116_act (v1 : Int32) (v2 : Int32) (v3 : Int32) (I : (Nat → Nat → Int32)) : Option (Int32 × (Nat → Nat → Int32)) :=
  Option.bind (f6_play v1 v2 v3 I) fun t2 =>
  some (t2.1, t2.2)
def f192_isBody (v1 : Int32) (I : (Nat → Nat → Int32)) : Option Int32 :=
  Option.bind (f129_in v1 0 ((I 73 66) - 1)) fun t2 =>
  if (t2 = 0 ∨ t2 = 1) then
    some t2
  else none
def f196_isUnder (v0 : Int32) (v1 : Int32) : Option Int32 :=
  if v1 = 0 then
    some 1
  else
    if v0 = v1 then
      some 1
    else
      if v1 = 1 then
        if v0 = 4 then
          some 1
        else
          if v0 = 5 then
            some 1
          else
            if v1 = 2 then
              if v0 = 3 then
                some 1
              else
                if v1 = 4 then
                  if v0 = 5 then
                    some 1
                  else
                    if v1 = 6 then
                      if v0 = 7 then
                        some 1
                      else
                        some 0
                    else
                      some 0
                else
                  if v1 = 6 then
                    if v0 = 7 then
                      some 1
                    else
                      some 0
                  else
                    some 0
            else
              if v1 = 4 then
                if v0 = 5 then
                  some 1
                else
                  if v1 = 6 then
                    if v0 = 7 then
                      some 1
                    else
                      some 0
                  else
                    some 0
              else
                if v1 = 6 then
                  if v0 = 7 then
                    some 1
                  else
                    some 0
                else
                  some 0
      else
        if v1 = 2 then
          if v0 = 3 then
            some 1
          else
            if v1 = 4 then
              if v0 = 5 then
                some 1
              else
                if v1 = 6 then
                  if v0 = 7 then
                    some 1
                  else
                    some 0
                else
                  some 0
            else
              if v1 = 6 then
                if v0 = 7 then
                  some 1
                else
                  some 0
              else
                some 0
        else
          if v1 = 4 then
            if v0 = 5 then
              some 1
            else
              if v1 = 6 then
                if v0 = 7 then
                  some 1
                else
                  some 0
              else
                some 0
          else
            if v1 = 6 then
              if v0 = 7 then
                some 1
              else
                some 0
            else
              some 0
def f193_ran (v1 : Int32) (I : (Nat → Nat → Int32)) : Option (Nat → Nat → Int32) :=
  if (24 : Int32) ≤ (I 73 68) then
    some (zu I 73 68 ((I 73 68) + 1))
  else
    bif zin (I 73 68) 24 then
    some (zu (zu I 109 (I 73 68).toNatClampNeg v1) 73 68 ((I 73 68) + 1))
    else none
def f197_plainGoes (v1 : Int32) (v2 : Int32) (I : (Nat → Nat → Int32)) : Option (Int32 × (Nat → Nat → Int32)) :=
  Option.bind (f193_ran 1 I) fun t2 =>
  some ((v2 + v1), t2)
def f198_bestGoes (v1 : Int32) (v2 : Int32) (I : (Nat → Nat → Int32)) : Option (Int32 × (Nat → Nat → Int32)) :=
  Option.bind (f193_ran 70 I) fun t2 =>
  Option.bind (f197_plainGoes v1 v2 t2) fun t4 =>
  some ((t4.1 * 2), t4.2)
def f199_goes (v1 : Int32) (v2 : Int32) (I : (Nat → Nat → Int32)) : Option (Int32 × (Nat → Nat → Int32)) :=
  bif zin v1 50 then
  Option.bind (f196_isUnder (I 108 v1.toNatClampNeg) 1) fun t3 =>
  if t3 = 0 then
    bif zin v1 50 then
    if (I 108 v1.toNatClampNeg) = 7 then
      Option.bind (f193_ran 81 I) fun t6 =>
      Option.bind (f198_bestGoes v1 v2 t6) fun t8 =>
      some ((t8.1 - 1), t8.2)
    else
      bif zin v1 50 then
      if (I 108 v1.toNatClampNeg) = 6 then
        Option.bind (f198_bestGoes v1 v2 I) fun t11 =>
        some (t11.1, t11.2)
      else
        Option.bind (f197_plainGoes v1 v2 I) fun t13 =>
        some (t13.1, t13.2)
      else none
    else none
  else
    Option.bind (f193_ran 20 I) fun t17 =>
    Option.bind (f197_plainGoes v1 v2 t17) fun t19 =>
    some ((t19.1 + 3), t19.2)
  else none
def f200_plainSees (v1 : Int32) (v2 : Int32) (I : (Nat → Nat → Int32)) : Option (Int32 × (Nat → Nat → Int32)) :=
  Option.bind (f193_ran 10 I) fun t2 =>
  Option.bind (f199_goes v1 v2 t2) fun t4 =>
  some ((t4.1 * 2), t4.2)
def f201_followSees (v1 : Int32) (v2 : Int32) (I : (Nat → Nat → Int32)) : Option (Int32 × (Nat → Nat → Int32)) :=
  Option.bind (f193_ran 30 I) fun t2 =>
  Option.bind (f200_plainSees v1 v2 t2) fun t4 =>
  some ((-t4.1), t4.2)
def f203_plainWaits (v1 : Int32) (v2 : Int32) (I : (Nat → Nat → Int32)) : Option (Int32 × (Nat → Nat → Int32)) :=
  Option.bind (f193_ran 11 I) fun t2 =>
  some ((v2 ^^^ v1), t2)
def f204_waits (v1 : Int32) (v2 : Int32) (I : (Nat → Nat → Int32)) : Option (Int32 × (Nat → Nat → Int32)) :=
  bif zin v1 50 then
  if (I 108 v1.toNatClampNeg) = 3 then
    Option.bind (f193_ran 40 I) fun t3 =>
    Option.bind (f203_plainWaits v1 v2 t3) fun t5 =>
    some ((t5.1 * 3), t5.2)
  else
    bif zin v1 50 then
    if (I 108 v1.toNatClampNeg) = 5 then
      Option.bind (f193_ran 60 I) fun t8 =>
      Option.bind (f203_plainWaits v1 v2 t8) fun t10 =>
      Option.bind (f199_goes v1 2 t10.2) fun t12 =>
      some ((t10.1 - t12.1), t12.2)
    else
      Option.bind (f203_plainWaits v1 v2 I) fun t14 =>
      some (t14.1, t14.2)
    else none
  else none
def f202_sees (v1 : Int32) (v2 : Int32) (I : (Nat → Nat → Int32)) : Option (Int32 × (Nat → Nat → Int32)) :=
  bif zin v1 50 then
  if (I 108 v1.toNatClampNeg) = 3 then
    Option.bind (f193_ran 41 I) fun t3 =>
    Option.bind (f201_followSees v1 (v2 + 1) t3) fun t5 =>
    some (t5.1, t5.2)
  else
    bif zin v1 50 then
    if (I 108 v1.toNatClampNeg) = 7 then
      Option.bind (f193_ran 80 I) fun t8 =>
      Option.bind (f200_plainSees v1 v2 t8) fun t10 =>
      Option.bind (f204_waits v1 2 t10.2) fun t12 =>
      some ((t10.1 + t12.1), t12.2)
    else
      bif zin v1 50 then
      if (I 108 v1.toNatClampNeg) = 2 then
        Option.bind (f201_followSees v1 v2 I) fun t15 =>
        some (t15.1, t15.2)
      else
        Option.bind (f200_plainSees v1 v2 I) fun t17 =>
        some (t17.1, t17.2)
      else none
    else none
  else none
def f205_plainTells (v1 : Int32) (v2 : Int32) (I : (Nat → Nat → Int32)) : Option (Int32 × (Nat → Nat → Int32)) :=
  Option.bind (f193_ran 2 I) fun t2 =>
  Option.bind (f202_sees v1 v2 t2) fun t4 =>
  Option.bind (f204_waits v1 1 t4.2) fun t6 =>
  some ((t4.1 - t6.1), t6.2)
def f206_leadTells (v1 : Int32) (v2 : Int32) (I : (Nat → Nat → Int32)) : Option (Int32 × (Nat → Nat → Int32)) :=
  Option.bind (f193_ran 50 I) fun t2 =>
  Option.bind (f205_plainTells v1 v2 t2) fun t4 =>
  some ((t4.1 ^^^ 5), t4.2)
def f207_telling (v1 : Int32) (v2 : Int32) (I : (Nat → Nat → Int32)) : Option (Int32 × (Nat → Nat → Int32)) :=
  bif zin v1 50 then
  if (I 108 v1.toNatClampNeg) = 5 then
    Option.bind (f193_ran 61 I) fun t3 =>
    Option.bind (f206_leadTells v1 v2 t3) fun t5 =>
    some ((t5.1 + 1), t5.2)
  else
    bif zin v1 50 then
    if (I 108 v1.toNatClampNeg) = 4 then
      Option.bind (f206_leadTells v1 v2 I) fun t8 =>
      some (t8.1, t8.2)
    else
      Option.bind (f205_plainTells v1 v2 I) fun t10 =>
      some (t10.1, t10.2)
    else none
  else none
def f208_act (v1 : Int32) (v2 : Int32) (v3 : Int32) (I : (Nat → Nat → Int32)) : Option (Int32 × (Nat → Nat → Int32)) :=
  Option.bind (f192_isBody v1 (zu I 73 68 0)) fun t2 =>
  if t2 = 0 then
    some (0, (zu I 73 68 0))
  else
    Option.bind (f129_in v2 0 3) fun t4 =>
    if t4 = 0 then
      some (0, (zu I 73 68 0))
    else
      if v2 = 0 then
        Option.bind (f199_goes v1 v3 (zu I 73 68 0)) fun t6 =>
        some (t6.1, t6.2)
      else
        if v2 = 1 then
          Option.bind (f202_sees v1 v3 (zu I 73 68 0)) fun t8 =>
          some (t8.1, t8.2)
        else
          if v2 = 2 then
            Option.bind (f204_waits v1 v3 (zu I 73 68 0)) fun t10 =>
            some (t10.1, t10.2)
          else
            Option.bind (f207_telling v1 v3 (zu I 73 68 0)) fun t12 =>
            some (t12.1, t12.2)
def f117_trace (v1 : Int32) (I : (Nat → Nat → Int32)) : Option Int32 :=
  Option.bind (f126_within v1 0 ((zmin (I 57 3) 24) - 1)) fun t2 =>
  if t2 = 0 then
    some (-1)
  else
    bif zin v1 24 then
    some (I 59 v1.toNatClampNeg)
    else none
def f194_trace (v1 : Int32) (I : (Nat → Nat → Int32)) : Option Int32 :=
  if v1 < 0 then
    some (-1)
  else
    if (I 73 68) ≤ v1 then
      some (-1)
    else
      if (24 : Int32) ≤ v1 then
        some (-1)
      else
        bif zin v1 24 then
        some (I 109 v1.toNatClampNeg)
        else none
def f53_holdBody (v0 : Nat) (v1 : Int32) (I : (Nat → Nat → Int32)) : Option (Nat → Nat → Int32) :=
  some (zu (zu (zu I v0 0 v1) v0 1 (-1)) v0 2 0)
def f118_keep (v1 : Int32) (v2 : Int32) (I : (Nat → Nat → Int32)) : Option (Int32 × (Nat → Nat → Int32)) :=
  Option.bind (f127_isShelf v1) fun t2 =>
  if t2 = 0 then
    some ((-1), I)
  else
    if v2 = (-1) then
      bif zin v1 6 then
      Option.bind (f53_holdBody (zshelf v1) v2 I) fun t5 =>
      some (1, t5)
      else none
    else
      Option.bind (f4_isBody v2 I) fun t7 =>
      if t7 = 0 then
        some ((-1), I)
      else
        bif zin v1 6 then
        Option.bind (f53_holdBody (zshelf v1) v2 I) fun t10 =>
        some (1, t10)
        else none
def f211_keep (v1 : Int32) (v2 : Int32) (I : (Nat → Nat → Int32)) : Option (Int32 × (Nat → Nat → Int32)) :=
  Option.bind (f210_isShelf v1) fun t2 =>
  if t2 = 0 then
    some ((-1), I)
  else
    if v2 = (-1) then
      bif zin v1 6 then
      some (1, (zu I 110 v1.toNatClampNeg v2))
      else none
    else
      Option.bind (f192_isBody v2 I) fun t5 =>
      if t5 = 0 then
        some ((-1), I)
      else
        bif zin v1 6 then
        some (1, (zu I 110 v1.toNatClampNeg v2))
        else none
def f54_holdRow_L17 (v0 : Nat) (I : (Nat → Nat → Int32)) (s : (Int32 × (Nat → Nat → Int64))) : Option ((Int32 × (Nat → Nat → Int64)) ⊕ (Int32 × (Nat → Nat → Int64))) :=
  if (60 : Int32) ≤ s.1 then
    some (.inl (s.1, s.2))
  else
    bif zin s.1 60 then
    some (.inr ((s.1 + 1), (zuj s.2 (v0 + 1) s.1.toNatClampNeg 0)))
    else none
def f54_holdRow (v0 : Nat) (v1 : Int32) (v2 : Int32) (I : (Nat → Nat → Int32)) (J : (Nat → Nat → Int64)) : Option ((Nat → Nat → Int32) × (Nat → Nat → Int64)) :=
  Option.bind (zloop (f54_holdRow_L17 v0 (zu (zu (zu I v0 0 (-1)) v0 1 v1) v0 2 v2)) 5000 ((0 : Int32), J)) fun s3 =>
  some ((zu (zu (zu I v0 0 (-1)) v0 1 v1) v0 2 v2), s3.2)
def f119_row (v1 : Int32) (v2 : Int32) (v3 : Int32) (I : (Nat → Nat → Int32)) (J : (Nat → Nat → Int64)) : Option (Int32 × (Nat → Nat → Int32) × (Nat → Nat → Int64)) :=
  Option.bind (f127_isShelf v1) fun t2 =>
  if t2 = 0 then
    some ((-1), I, J)
  else
    Option.bind (f126_within v2 0 4) fun t4 =>
    if t4 = 0 then
      some ((-1), I, J)
    else
      if v3 ≤ 60 then
        if (0 : Int32) ≤ v3 then
          bif zin v1 6 then
          Option.bind (f54_holdRow (zshelf v1) v2 v3 I J) fun t7 =>
          some (1, t7.1, t7.2)
          else none
        else
          some ((-14), I, J)
      else
        some ((-1), I, J)
def f212_row_L54 (v1 : Int32) (I : (Nat → Nat → Int32)) (s : (Int32 × (Nat → Nat → Int64))) : Option ((Int32 × (Nat → Nat → Int64)) ⊕ (Int32 × (Nat → Nat → Int64))) :=
  if ((60 * v1) + 60) ≤ s.1 then
    some (.inl (s.1, s.2))
  else
    bif zin s.1 360 then
    some (.inr ((s.1 + 1), (zuj s.2 112 s.1.toNatClampNeg 0)))
    else none
def f212_row (v1 : Int32) (v2 : Int32) (v3 : Int32) (I : (Nat → Nat → Int32)) (J : (Nat → Nat → Int64)) : Option (Int32 × (Nat → Nat → Int32) × (Nat → Nat → Int64)) :=
  Option.bind (f210_isShelf v1) fun t2 =>
  if t2 = 0 then
    some ((-1), I, J)
  else
    Option.bind (f129_in v2 0 4) fun t4 =>
    if t4 = 0 then
      some ((-1), I, J)
    else
      if v3 ≤ 60 then
        if (0 : Int32) ≤ v3 then
          bif zin v1 6 then
          bif zin v1 6 then
          Option.bind (zloop (f212_row_L54 v1 (zu (zu I 110 v1.toNatClampNeg ((-2) - v2)) 111 v1.toNatClampNeg v3)) 5000 ((60 * v1), J)) fun s9 =>
          some (1, (zu (zu I 110 v1.toNatClampNeg ((-2) - v2)) 111 v1.toNatClampNeg v3), s9.2)
          else none
          else none
        else
          some ((-14), I, J)
      else
        some ((-1), I, J)
def f122_placeRefusal (v1 : Int32) (v2 : Int32) (I : (Nat → Nat → Int32)) : Option Int32 :=
  Option.bind (f127_isShelf v1) fun t2 =>
  if t2 = 0 then
    some (-1)
  else
    bif zin v1 6 then
    Option.bind (f55_refusal (zshelf v1) (-1) I) fun t5 =>
    if t5 = 0 then
      bif zin v1 6 then
      Option.bind (f56_hasPlaces (zshelf v1) v2 1 I) fun t8 =>
      if t8 = 0 then
        some (-13)
      else
        some 0
      else none
    else
      some t5
    else none
def f59_lowestBits (v0 : Nat) (v1 : Int64) (I : (Nat → Nat → Int32)) : Option Int64 :=
  if (I v0 1).toInt = 0 then
    some v1.toInt32.toInt8.toInt32.toInt64
  else
  if (I v0 1).toInt = 1 then
    some v1.toInt32.toInt16.toInt32.toInt64
  else
  if (I v0 1).toInt = 2 then
    some v1.toInt32.toInt64
  else
  if (I v0 1).toInt = 3 then
    some v1
  else
  if (I v0 1).toInt = 4 then
    if (lg_cmp v1 0) = 0 then
      some 0
    else
      some 1
  else
  some v1
def f58_become (v0 : Nat) (v1 : Int32) (v2 : Int64) (I : (Nat → Nat → Int32)) (J : (Nat → Nat → Int64)) : Option (Nat → Nat → Int64) :=
  Option.bind (f56_hasPlaces v0 v1 1 I) fun t2 =>
  if t2 = 0 then
    some J
  else
    Option.bind (f59_lowestBits v0 v2 I) fun t4 =>
    bif zin v1 60 then
    some (zuj J (v0 + 1) v1.toNatClampNeg t4)
    else none
def f120_put (v1 : Int32) (v2 : Int32) (v3 : Int64) (I : (Nat → Nat → Int32)) (J : (Nat → Nat → Int64)) : Option (Int32 × (Nat → Nat → Int64)) :=
  Option.bind (f122_placeRefusal v1 v2 I) fun t2 =>
  if t2 = 0 then
    bif zin v1 6 then
    Option.bind (f58_become (zshelf v1) v2 v3 I J) fun t5 =>
    some (1, t5)
    else none
  else
    some (t2, J)
def f213_whyNoPlace (v1 : Int32) (v2 : Int32) (I : (Nat → Nat → Int32)) : Option Int32 :=
  Option.bind (f210_isShelf v1) fun t2 =>
  if t2 = 0 then
    some (-1)
  else
    bif zin v1 6 then
    if (I 110 v1.toNatClampNeg) = (-1) then
      some (-11)
    else
      bif zin v1 6 then
      if (I 110 v1.toNatClampNeg) < 0 then
        bif zin v1 6 then
        Option.bind (f129_in v2 0 ((I 111 v1.toNatClampNeg) - 1)) fun t7 =>
        if t7 = 0 then
          some (-13)
        else
          some 0
        else none
      else
        some (-12)
      else none
    else none
def f214_put (v1 : Int32) (v2 : Int32) (v3 : Int64) (I : (Nat → Nat → Int32)) (J : (Nat → Nat → Int64)) : Option (Int32 × (Nat → Nat → Int64)) :=
  Option.bind (f213_whyNoPlace v1 v2 I) fun t2 =>
  if (0 : Int32) ≤ t2 then
    bif zin v1 6 then
    Option.bind (some ((-2) - (I 110 v1.toNatClampNeg))) fun t4 =>
    if t4 = 0 then
      bif zin ((60 * v1) + v2) 360 then
      some (1, (zuj J 112 ((60 * v1) + v2).toNatClampNeg v3.toInt32.toInt8.toInt32.toInt64))
      else none
    else
      if t4 = 1 then
        bif zin ((60 * v1) + v2) 360 then
        some (1, (zuj J 112 ((60 * v1) + v2).toNatClampNeg v3.toInt32.toInt16.toInt32.toInt64))
        else none
      else
        if t4 = 2 then
          bif zin ((60 * v1) + v2) 360 then
          some (1, (zuj J 112 ((60 * v1) + v2).toNatClampNeg v3.toInt32.toInt64))
          else none
        else
          if t4 = 3 then
            bif zin ((60 * v1) + v2) 360 then
            some (1, (zuj J 112 ((60 * v1) + v2).toNatClampNeg v3))
            else none
          else
            if (lg_cmp v3 0) = 0 then
              bif zin ((60 * v1) + v2) 360 then
              some (1, (zuj J 112 ((60 * v1) + v2).toNatClampNeg 0))
              else none
            else
              bif zin ((60 * v1) + v2) 360 then
              some (1, (zuj J 112 ((60 * v1) + v2).toNatClampNeg 1))
              else none
    else none
  else
    some (t2, J)
def f121_element (v1 : Int32) (v2 : Int32) (I : (Nat → Nat → Int32)) (J : (Nat → Nat → Int64)) : Option Int64 :=
  Option.bind (f122_placeRefusal v1 v2 I) fun t2 =>
  if t2 = 0 then
    bif zin v1 6 then
    Option.bind (f57_at (zshelf v1) v2 I J) fun t5 =>
    some t5
    else none
  else
    some (-9223372036854775808)
def f215_element (v1 : Int32) (v2 : Int32) (I : (Nat → Nat → Int32)) (J : (Nat → Nat → Int64)) : Option Int64 :=
  Option.bind (f213_whyNoPlace v1 v2 I) fun t2 =>
  if (0 : Int32) ≤ t2 then
    bif zin ((60 * v1) + v2) 360 then
    some (J 112 ((60 * v1) + v2).toNatClampNeg)
    else none
  else
    some (-9223372036854775808)
def f123_shift (v1 : Int32) (v2 : Int32) (v3 : Int32) (v4 : Int32) (v5 : Int32) (I : (Nat → Nat → Int32)) (J : (Nat → Nat → Int64)) : Option (Int32 × (Nat → Nat → Int64)) :=
  Option.bind (f127_isShelf v1) fun t2 =>
  if t2 = 0 then
    some ((-1), J)
  else
    Option.bind (f127_isShelf v3) fun t4 =>
    if t4 = 0 then
      some ((-1), J)
    else
      bif zin v1 6 then
      bif zin v3 6 then
      Option.bind (f52_isEmpty (zshelf v1) I) fun t8 =>
      if t8 = 0 then
        Option.bind (f52_isEmpty (zshelf v3) I) fun t10 =>
        if t10 = 0 then
          Option.bind (f51_isRow (zshelf v1) I) fun t12 =>
          if t12 = 0 then
            some ((-12), J)
          else
            Option.bind (f51_isRow (zshelf v3) I) fun t14 =>
            if t14 = 0 then
              some ((-12), J)
            else
              if (I (zshelf v1) 1) = (I (zshelf v3) 1) then
                Option.bind (f56_hasPlaces (zshelf v1) v2 v5 I) fun t16 =>
                if t16 = 0 then
                  some ((-13), J)
                else
                  Option.bind (f56_hasPlaces (zshelf v3) v4 v5 I) fun t18 =>
                  if t18 = 0 then
                    some ((-13), J)
                  else
                    bif zcpok v2 v4 v5 60 60 then
                    some (v5, (zcpj J ((zshelf v1) + 1) ((zshelf v3) + 1) v2 v4 v5))
                    else none
              else
                some ((-12), J)
        else
          some ((-11), J)
      else
        some ((-11), J)
      else none
      else none
def f216_shift_L113 (v1 : Int32) (v2 : Int32) (v3 : Int32) (v4 : Int32) (v5 : Int32) (I : (Nat → Nat → Int32)) (s : (Int32 × (Nat → Nat → Int64))) : Option ((Int32 × (Nat → Nat → Int64)) ⊕ (Int32 × (Nat → Nat → Int64))) :=
  if v5 ≤ s.1 then
    some (.inl (s.1, s.2))
  else
    bif zin (((60 * v1) + v2) + s.1) 360 then
    bif zin s.1 60 then
    some (.inr ((s.1 + 1), (zuj s.2 113 s.1.toNatClampNeg (s.2 112 (((60 * v1) + v2) + s.1).toNatClampNeg))))
    else none
    else none
def f216_shift_L150 (v3 : Int32) (v4 : Int32) (v5 : Int32) (I : (Nat → Nat → Int32)) (s : (Int32 × (Nat → Nat → Int64))) : Option ((Int32 × (Nat → Nat → Int64)) ⊕ (Int32 × (Nat → Nat → Int64))) :=
  if v5 ≤ s.1 then
    some (.inl (s.1, s.2))
  else
    bif zin s.1 60 then
    bif zin (((60 * v3) + v4) + s.1) 360 then
    some (.inr ((s.1 + 1), (zuj s.2 112 (((60 * v3) + v4) + s.1).toNatClampNeg (s.2 113 s.1.toNatClampNeg))))
    else none
    else none
def f216_shift (v1 : Int32) (v2 : Int32) (v3 : Int32) (v4 : Int32) (v5 : Int32) (I : (Nat → Nat → Int32)) (J : (Nat → Nat → Int64)) : Option (Int32 × (Nat → Nat → Int64)) :=
  Option.bind (f210_isShelf v1) fun t2 =>
  if t2 = 0 then
    some ((-1), J)
  else
    Option.bind (f210_isShelf v3) fun t4 =>
    if t4 = 0 then
      some ((-1), J)
    else
      bif zin v1 6 then
      if (I 110 v1.toNatClampNeg) = (-1) then
        some ((-11), J)
      else
        bif zin v3 6 then
        if (I 110 v3.toNatClampNeg) = (-1) then
          some ((-11), J)
        else
          bif zin v1 6 then
          if (0 : Int32) ≤ (I 110 v1.toNatClampNeg) then
            some ((-12), J)
          else
            bif zin v1 6 then
            bif zin v3 6 then
            if (I 110 v1.toNatClampNeg) = (I 110 v3.toNatClampNeg) then
              if v5 < 0 then
                some ((-13), J)
              else
                if v2 < 0 then
                  some ((-13), J)
                else
                  if v4 < 0 then
                    some ((-13), J)
                  else
                    bif zin v1 6 then
                    if ((I 111 v1.toNatClampNeg) - v5) < v2 then
                      some ((-13), J)
                    else
                      bif zin v3 6 then
                      if v4 ≤ ((I 111 v3.toNatClampNeg) - v5) then
                        Option.bind (zloop (f216_shift_L113 v1 v2 v3 v4 v5 I) 5000 ((0 : Int32), J)) fun s15 =>
                        Option.bind (zloop (f216_shift_L150 v3 v4 v5 I) 5000 ((0 : Int32), s15.2)) fun s20 =>
                        some (v5, s20.2)
                      else
                        some ((-13), J)
                      else none
                    else none
            else
              some ((-12), J)
            else none
            else none
          else none
        else none
      else none
def f3_isUnder_L4 (v1 : Int32) (I : (Nat → Nat → Int32)) (s : (Int32 × Int32)) : Option (Int32 ⊕ ((Int32 × Int32) ⊕ (Int32 × Int32))) :=
  if (7 : Int32) < s.2 then
    some (.inr (.inl (s.1, s.2)))
  else
    Option.bind (f2_isKind s.1) fun t2 =>
    if t2 = 0 then
      some (.inr (.inl (s.1, s.2)))
    else
      if s.1 = v1 then
        some (.inl 1)
      else
        bif zin s.1 8 then
        some (.inr (.inr ((zabove.getD s.1.toNatClampNeg 0), (s.2 + 1))))
        else none
def f3_isUnder (v0 : Int32) (v1 : Int32) (I : (Nat → Nat → Int32)) : Option Int32 :=
  zbR (zloopR (f3_isUnder_L4 v1 I) 5000 (v0, (0 : Int32))) (fun rr => some rr) fun s7 =>
  some 0
def f124_taken (v1 : Int32) (v2 : Int32) (I : (Nat → Nat → Int32)) : Option Int32 :=
  Option.bind (f127_isShelf v1) fun t2 =>
  if t2 = 0 then
    some (-1)
  else
    Option.bind (f2_isKind v2) fun t4 =>
    if t4 = 0 then
      some (-1)
    else
      bif zin v1 6 then
      Option.bind (f52_isEmpty (zshelf v1) I) fun t7 =>
      if t7 = 0 then
        bif zin v1 6 then
        Option.bind (f4_isBody (I (zshelf v1) 0) I) fun t10 =>
        if t10 = 0 then
          some (-12)
        else
          bif zin (I (zshelf v1) 0) 50 then
          Option.bind (f3_isUnder (I 58 (I (zshelf v1) 0).toNatClampNeg) v2 I) fun t13 =>
          if t13 = 0 then
            some (-12)
          else
            bif zin (I (zshelf v1) 0) 50 then
            some (I 58 (I (zshelf v1) 0).toNatClampNeg)
            else none
          else none
        else none
      else
        some (-11)
      else none
def f217_taken (v1 : Int32) (v2 : Int32) (I : (Nat → Nat → Int32)) : Option Int32 :=
  Option.bind (f210_isShelf v1) fun t2 =>
  if t2 = 0 then
    some (-1)
  else
    Option.bind (f129_in v2 0 7) fun t4 =>
    if t4 = 0 then
      some (-1)
    else
      bif zin v1 6 then
      if (I 110 v1.toNatClampNeg) = (-1) then
        some (-11)
      else
        bif zin v1 6 then
        if (I 110 v1.toNatClampNeg) < 0 then
          some (-12)
        else
          bif zin v1 6 then
          bif zin (I 110 v1.toNatClampNeg) 50 then
          Option.bind (f196_isUnder (I 108 (I 110 v1.toNatClampNeg).toNatClampNeg) v2) fun t10 =>
          if t10 = 0 then
            some (-12)
          else
            bif zin v1 6 then
            bif zin (I 110 v1.toNatClampNeg) 50 then
            some (I 108 (I 110 v1.toNatClampNeg).toNatClampNeg)
            else none
            else none
          else none
          else none
        else none
      else none
def f125_count (v1 : Int32) (I : (Nat → Nat → Int32)) : Option Int32 :=
  if v1.toInt = 0 then
    some (I 1 0)
  else
  if v1.toInt = 1 then
    some (I 1 1)
  else
  if v1.toInt = 2 then
    some (I 1 2)
  else
  if v1.toInt = 3 then
    some (I 15 7)
  else
  if v1.toInt = 4 then
    some (I 15 6)
  else
  if v1.toInt = 5 then
    some (I 52 5)
  else
  if v1.toInt = 6 then
    some (I 57 2)
  else
  if v1.toInt = 7 then
    some (I 57 3)
  else
  some (-1)
def f209_count (v1 : Int32) (I : (Nat → Nat → Int32)) : Option Int32 :=
  if v1.toInt = 0 then
    some (I 73 1)
  else
  if v1.toInt = 1 then
    some (I 73 4)
  else
  if v1.toInt = 2 then
    some (I 73 9)
  else
  if v1.toInt = 3 then
    some (I 73 31)
  else
  if v1.toInt = 4 then
    some (I 73 19)
  else
  if v1.toInt = 5 then
    some (I 73 32)
  else
  if v1.toInt = 6 then
    some (I 73 66)
  else
  if v1.toInt = 7 then
    some (I 73 68)
  else
  some (-1)
def f0_law_L18 (X : zX) (s : (Int32 × (Nat → Nat → Int32) × (Nat → Nat → Int64))) : Option ((Int32 × (Nat → Nat → Int32) × (Nat → Nat → Int64)) ⊕ ((Int32 × (Nat → Nat → Int32) × (Nat → Nat → Int64)) ⊕ (Int32 × (Nat → Nat → Int32) × (Nat → Nat → Int64)))) :=
  if ((Int32.ofNat X.1) - 6) < s.1 then
    some (.inr (.inl (s.1, s.2.1, s.2.2)))
  else
    bif zin s.1 X.1 then
    if ((X.2 s.1.toNatClampNeg) &&& 63).toInt = 0 then
      bif zin (s.1 + 1) X.1 then
      bif zin (s.1 + 2) X.1 then
      Option.bind (f86_square (X.2 (s.1 + 1).toNatClampNeg) (X.2 (s.1 + 2).toNatClampNeg) s.2.1) fun t5 =>
      bif zin (s.1 + 1) X.1 then
      bif zin (s.1 + 2) X.1 then
      Option.bind (f132_square (X.2 (s.1 + 1).toNatClampNeg) (X.2 (s.1 + 2).toNatClampNeg) t5.2) fun t9 =>
      if t5.1 = t9.1 then
        some (.inr (.inr ((s.1 + 6), t9.2, s.2.2)))
      else
        some (.inl (0, t9.2, s.2.2))
      else none
      else none
      else none
      else none
    else
    if ((X.2 s.1.toNatClampNeg) &&& 63).toInt = 1 then
      bif zin (s.1 + 1) X.1 then
      bif zin (s.1 + 2) X.1 then
      bif zin (s.1 + 3) X.1 then
      Option.bind (f87_way (X.2 (s.1 + 1).toNatClampNeg) (X.2 (s.1 + 2).toNatClampNeg) (X.2 (s.1 + 3).toNatClampNeg) s.2.1) fun t15 =>
      bif zin (s.1 + 1) X.1 then
      bif zin (s.1 + 2) X.1 then
      bif zin (s.1 + 3) X.1 then
      Option.bind (f133_way (X.2 (s.1 + 1).toNatClampNeg) (X.2 (s.1 + 2).toNatClampNeg) (X.2 (s.1 + 3).toNatClampNeg) t15.2) fun t20 =>
      if t15.1 = t20.1 then
        some (.inr (.inr ((s.1 + 6), t20.2, s.2.2)))
      else
        some (.inl (0, t20.2, s.2.2))
      else none
      else none
      else none
      else none
      else none
      else none
    else
    if ((X.2 s.1.toNatClampNeg) &&& 63).toInt = 2 then
      bif zin (s.1 + 1) X.1 then
      bif zin (s.1 + 2) X.1 then
      bif zin (s.1 + 3) X.1 then
      Option.bind (f88_sort (X.2 (s.1 + 1).toNatClampNeg) (X.2 (s.1 + 2).toNatClampNeg) (X.2 (s.1 + 3).toNatClampNeg) s.2.1) fun t26 =>
      bif zin (s.1 + 1) X.1 then
      bif zin (s.1 + 2) X.1 then
      bif zin (s.1 + 3) X.1 then
      Option.bind (f136_sort (X.2 (s.1 + 1).toNatClampNeg) (X.2 (s.1 + 2).toNatClampNeg) (X.2 (s.1 + 3).toNatClampNeg) t26.2) fun t31 =>
      if t26.1 = t31.1 then
        some (.inr (.inr ((s.1 + 6), t31.2, s.2.2)))
      else
        some (.inl (0, t31.2, s.2.2))
      else none
      else none
      else none
      else none
      else none
      else none
    else
    if ((X.2 s.1.toNatClampNeg) &&& 63).toInt = 3 then
      bif zin (s.1 + 1) X.1 then
      bif zin (s.1 + 2) X.1 then
      bif zin (s.1 + 3) X.1 then
      Option.bind (f89_sorts (X.2 (s.1 + 1).toNatClampNeg) (X.2 (s.1 + 2).toNatClampNeg) (X.2 (s.1 + 3).toNatClampNeg) s.2.1 s.2.2) fun t37 =>
      bif zin (s.1 + 1) X.1 then
      bif zin (s.1 + 2) X.1 then
      bif zin (s.1 + 3) X.1 then
      Option.bind (f137_sorts (X.2 (s.1 + 1).toNatClampNeg) (X.2 (s.1 + 2).toNatClampNeg) (X.2 (s.1 + 3).toNatClampNeg) t37.2 s.2.2) fun t42 =>
      if t37.1 = t42.1 then
        some (.inr (.inr ((s.1 + 6), t42.2, s.2.2)))
      else
        some (.inl (0, t42.2, s.2.2))
      else none
      else none
      else none
      else none
      else none
      else none
    else
    if ((X.2 s.1.toNatClampNeg) &&& 63).toInt = 4 then
      bif zin (s.1 + 1) X.1 then
      Option.bind (f91_feed (X.2 (s.1 + 1).toNatClampNeg) s.2.1) fun t46 =>
      bif zin (s.1 + 1) X.1 then
      Option.bind (f138_feed (X.2 (s.1 + 1).toNatClampNeg) t46.2) fun t49 =>
      if t46.1 = t49.1 then
        some (.inr (.inr ((s.1 + 6), t49.2, s.2.2)))
      else
        some (.inl (0, t49.2, s.2.2))
      else none
      else none
    else
    if ((X.2 s.1.toNatClampNeg) &&& 63).toInt = 5 then
      Option.bind (f92_law s.2.1) fun t52 =>
      Option.bind (f157_law t52.2) fun t54 =>
      if t52.1 = t54.1 then
        some (.inr (.inr ((s.1 + 6), t54.2, s.2.2)))
      else
        some (.inl (0, t54.2, s.2.2))
    else
    if ((X.2 s.1.toNatClampNeg) &&& 63).toInt = 6 then
      bif zin (s.1 + 1) X.1 then
      bif zin (s.1 + 2) X.1 then
      Option.bind (f93_set (X.2 (s.1 + 1).toNatClampNeg) (X.2 (s.1 + 2).toNatClampNeg) s.2.1) fun t59 =>
      bif zin (s.1 + 1) X.1 then
      bif zin (s.1 + 2) X.1 then
      Option.bind (f158_set (X.2 (s.1 + 1).toNatClampNeg) (X.2 (s.1 + 2).toNatClampNeg) t59.2) fun t63 =>
      if t59.1 = t63.1 then
        some (.inr (.inr ((s.1 + 6), t63.2, s.2.2)))
      else
        some (.inl (0, t63.2, s.2.2))
      else none
      else none
      else none
      else none
    else
    if ((X.2 s.1.toNatClampNeg) &&& 63).toInt = 7 then
      bif zin (s.1 + 1) X.1 then
      bif zin (s.1 + 2) X.1 then
      bif zin (s.1 + 3) X.1 then
      Option.bind (f94_mend (X.2 (s.1 + 1).toNatClampNeg) (X.2 (s.1 + 2).toNatClampNeg) (X.2 (s.1 + 3).toNatClampNeg) s.2.1) fun t69 =>
      bif zin (s.1 + 1) X.1 then
      bif zin (s.1 + 2) X.1 then
      bif zin (s.1 + 3) X.1 then
      Option.bind (f164_mend (X.2 (s.1 + 1).toNatClampNeg) (X.2 (s.1 + 2).toNatClampNeg) (X.2 (s.1 + 3).toNatClampNeg) t69.2) fun t74 =>
      if t69.1 = t74.1 then
        some (.inr (.inr ((s.1 + 6), t74.2, s.2.2)))
      else
        some (.inl (0, t74.2, s.2.2))
      else none
      else none
      else none
      else none
      else none
      else none
    else
    if ((X.2 s.1.toNatClampNeg) &&& 63).toInt = 8 then
      bif zin (s.1 + 1) X.1 then
      bif zin (s.1 + 2) X.1 then
      Option.bind (f95_of (X.2 (s.1 + 1).toNatClampNeg) (X.2 (s.1 + 2).toNatClampNeg) s.2.1) fun t79 =>
      bif zin (s.1 + 1) X.1 then
      bif zin (s.1 + 2) X.1 then
      Option.bind (f165_of (X.2 (s.1 + 1).toNatClampNeg) (X.2 (s.1 + 2).toNatClampNeg) s.2.1) fun t83 =>
      if t79 = t83 then
        some (.inr (.inr ((s.1 + 6), s.2.1, s.2.2)))
      else
        some (.inl (0, s.2.1, s.2.2))
      else none
      else none
      else none
      else none
    else
    if ((X.2 s.1.toNatClampNeg) &&& 63).toInt = 9 then
      Option.bind (f96_run s.2.1) fun t86 =>
      Option.bind (f174_run t86.2) fun t88 =>
      if t86.1 = t88.1 then
        some (.inr (.inr ((s.1 + 6), t88.2, s.2.2)))
      else
        some (.inl (0, t88.2, s.2.2))
    else
    if ((X.2 s.1.toNatClampNeg) &&& 63).toInt = 10 then
      bif zin (s.1 + 1) X.1 then
      bif zin (s.1 + 2) X.1 then
      bif zin (s.1 + 3) X.1 then
      Option.bind (f97_led (X.2 (s.1 + 1).toNatClampNeg) (X.2 (s.1 + 2).toNatClampNeg) (X.2 (s.1 + 3).toNatClampNeg) s.2.1) fun t94 =>
      bif zin (s.1 + 1) X.1 then
      bif zin (s.1 + 2) X.1 then
      bif zin (s.1 + 3) X.1 then
      Option.bind (f175_led (X.2 (s.1 + 1).toNatClampNeg) (X.2 (s.1 + 2).toNatClampNeg) (X.2 (s.1 + 3).toNatClampNeg) s.2.1) fun t99 =>
      if t94 = t99 then
        some (.inr (.inr ((s.1 + 6), s.2.1, s.2.2)))
      else
        some (.inl (0, s.2.1, s.2.2))
      else none
      else none
      else none
      else none
      else none
      else none
    else
    if ((X.2 s.1.toNatClampNeg) &&& 63).toInt = 11 then
      bif zin (s.1 + 1) X.1 then
      Option.bind (f98_told (X.2 (s.1 + 1).toNatClampNeg) s.2.1) fun t103 =>
      bif zin (s.1 + 1) X.1 then
      Option.bind (f176_told (X.2 (s.1 + 1).toNatClampNeg) s.2.1) fun t106 =>
      if t103 = t106 then
        some (.inr (.inr ((s.1 + 6), s.2.1, s.2.2)))
      else
        some (.inl (0, s.2.1, s.2.2))
      else none
      else none
    else
    if ((X.2 s.1.toNatClampNeg) &&& 63).toInt = 12 then
      bif zin (s.1 + 1) X.1 then
      Option.bind (f99_last (X.2 (s.1 + 1).toNatClampNeg) s.2.1) fun t110 =>
      bif zin (s.1 + 1) X.1 then
      Option.bind (f181_last (X.2 (s.1 + 1).toNatClampNeg) s.2.1) fun t113 =>
      if t110 = t113.1 then
        some (.inr (.inr ((s.1 + 6), t113.2, s.2.2)))
      else
        some (.inl (0, t113.2, s.2.2))
      else none
      else none
    else
    if ((X.2 s.1.toNatClampNeg) &&& 63).toInt = 13 then
      bif zin (s.1 + 1) X.1 then
      Option.bind (f100_flow (X.2 (s.1 + 1).toNatClampNeg) s.2.1) fun t117 =>
      bif zin (s.1 + 1) X.1 then
      Option.bind (f182_flow (X.2 (s.1 + 1).toNatClampNeg) s.2.1) fun t120 =>
      if t117 = t120 then
        some (.inr (.inr ((s.1 + 6), s.2.1, s.2.2)))
      else
        some (.inl (0, s.2.1, s.2.2))
      else none
      else none
    else
    if ((X.2 s.1.toNatClampNeg) &&& 63).toInt = 14 then
      bif zin (s.1 + 1) X.1 then
      Option.bind (f102_fewer (X.2 (s.1 + 1).toNatClampNeg) s.2.1) fun t124 =>
      bif zin (s.1 + 1) X.1 then
      Option.bind (f184_fewer (X.2 (s.1 + 1).toNatClampNeg) t124.2) fun t127 =>
      if t124.1 = t127.1 then
        some (.inr (.inr ((s.1 + 6), t127.2, s.2.2)))
      else
        some (.inl (0, t127.2, s.2.2))
      else none
      else none
    else
    if ((X.2 s.1.toNatClampNeg) &&& 63).toInt = 15 then
      bif zin (s.1 + 1) X.1 then
      bif zin (s.1 + 2) X.1 then
      Option.bind (f103_often (X.2 (s.1 + 1).toNatClampNeg) (X.2 (s.1 + 2).toNatClampNeg) s.2.1) fun t132 =>
      bif zin (s.1 + 1) X.1 then
      bif zin (s.1 + 2) X.1 then
      Option.bind (f185_often (X.2 (s.1 + 1).toNatClampNeg) (X.2 (s.1 + 2).toNatClampNeg) t132.2) fun t136 =>
      if t132.1 = t136.1 then
        some (.inr (.inr ((s.1 + 6), t136.2, s.2.2)))
      else
        some (.inl (0, t136.2, s.2.2))
      else none
      else none
      else none
      else none
    else
    if ((X.2 s.1.toNatClampNeg) &&& 63).toInt = 16 then
      bif zin (s.1 + 1) X.1 then
      Option.bind (f104_sooner (X.2 (s.1 + 1).toNatClampNeg) s.2.1) fun t140 =>
      bif zin (s.1 + 1) X.1 then
      Option.bind (f186_sooner (X.2 (s.1 + 1).toNatClampNeg) t140.2) fun t143 =>
      if t140.1 = t143.1 then
        some (.inr (.inr ((s.1 + 6), t143.2, s.2.2)))
      else
        some (.inl (0, t143.2, s.2.2))
      else none
      else none
    else
    if ((X.2 s.1.toNatClampNeg) &&& 63).toInt = 17 then
      bif zin (s.1 + 1) X.1 then
      bif zin (s.1 + 2) X.1 then
      Option.bind (f105_bell (X.2 (s.1 + 1).toNatClampNeg) (X.2 (s.1 + 2).toNatClampNeg) s.2.1 s.2.2) fun t148 =>
      bif zin (s.1 + 1) X.1 then
      bif zin (s.1 + 2) X.1 then
      Option.bind (f187_bell (X.2 (s.1 + 1).toNatClampNeg) (X.2 (s.1 + 2).toNatClampNeg) t148.2 s.2.2) fun t152 =>
      if t148.1 = t152.1 then
        some (.inr (.inr ((s.1 + 6), t152.2, s.2.2)))
      else
        some (.inl (0, t152.2, s.2.2))
      else none
      else none
      else none
      else none
    else
    if ((X.2 s.1.toNatClampNeg) &&& 63).toInt = 18 then
      bif zin (s.1 + 1) X.1 then
      Option.bind (f108_paid (X.2 (s.1 + 1).toNatClampNeg) s.2.1) fun t156 =>
      bif zin (s.1 + 1) X.1 then
      Option.bind (f188_paid (X.2 (s.1 + 1).toNatClampNeg) t156.2) fun t159 =>
      if t156.1 = t159.1 then
        some (.inr (.inr ((s.1 + 6), t159.2, s.2.2)))
      else
        some (.inl (0, t159.2, s.2.2))
      else none
      else none
    else
    if ((X.2 s.1.toNatClampNeg) &&& 63).toInt = 19 then
      bif zin (s.1 + 1) X.1 then
      Option.bind (f109_lead (X.2 (s.1 + 1).toNatClampNeg) s.2.1) fun t163 =>
      bif zin (s.1 + 1) X.1 then
      Option.bind (f189_lead (X.2 (s.1 + 1).toNatClampNeg) t163.2) fun t166 =>
      if t163.1 = t166.1 then
        some (.inr (.inr ((s.1 + 6), t166.2, s.2.2)))
      else
        some (.inl (0, t166.2, s.2.2))
      else none
      else none
    else
    if ((X.2 s.1.toNatClampNeg) &&& 63).toInt = 20 then
      bif zin (s.1 + 1) X.1 then
      Option.bind (f110_serves (X.2 (s.1 + 1).toNatClampNeg) s.2.1) fun t170 =>
      bif zin (s.1 + 1) X.1 then
      Option.bind (f190_serves (X.2 (s.1 + 1).toNatClampNeg) t170.2) fun t173 =>
      if t170.1 = t173.1 then
        some (.inr (.inr ((s.1 + 6), t173.2, s.2.2)))
      else
        some (.inl (0, t173.2, s.2.2))
      else none
      else none
    else
    if ((X.2 s.1.toNatClampNeg) &&& 63).toInt = 21 then
      bif zin (s.1 + 1) X.1 then
      Option.bind (f111_judge (X.2 (s.1 + 1).toNatClampNeg) s.2.1 s.2.2) fun t177 =>
      bif zin (s.1 + 1) X.1 then
      Option.bind (f191_judge (X.2 (s.1 + 1).toNatClampNeg) s.2.1 s.2.2) fun t180 =>
      if t177 = t180.1 then
        some (.inr (.inr ((s.1 + 6), t180.2, s.2.2)))
      else
        some (.inl (0, t180.2, s.2.2))
      else none
      else none
    else
    if ((X.2 s.1.toNatClampNeg) &&& 63).toInt = 22 then
      Option.bind (f113_undo s.2.1) fun t183 =>
      Option.bind (f162_undo t183.2) fun t185 =>
      if t183.1 = t185.1 then
        some (.inr (.inr ((s.1 + 6), t185.2, s.2.2)))
      else
        some (.inl (0, t185.2, s.2.2))
    else
    if ((X.2 s.1.toNatClampNeg) &&& 63).toInt = 23 then
      Option.bind (f114_redo s.2.1) fun t188 =>
      Option.bind (f163_redo t188.2) fun t190 =>
      if t188.1 = t190.1 then
        some (.inr (.inr ((s.1 + 6), t190.2, s.2.2)))
      else
        some (.inl (0, t190.2, s.2.2))
    else
    if ((X.2 s.1.toNatClampNeg) &&& 63).toInt = 24 then
      bif zin (s.1 + 1) X.1 then
      Option.bind (f115_body (X.2 (s.1 + 1).toNatClampNeg) s.2.1) fun t194 =>
      bif zin (s.1 + 1) X.1 then
      Option.bind (f195_body (X.2 (s.1 + 1).toNatClampNeg) t194.2) fun t197 =>
      if t194.1 = t197.1 then
        some (.inr (.inr ((s.1 + 6), t197.2, s.2.2)))
      else
        some (.inl (0, t197.2, s.2.2))
      else none
      else none
    else
    if ((X.2 s.1.toNatClampNeg) &&& 63).toInt = 25 then
      bif zin (s.1 + 1) X.1 then
      bif zin (s.1 + 2) X.1 then
      bif zin (s.1 + 3) X.1 then
      Option.bind (f116_act (X.2 (s.1 + 1).toNatClampNeg) (X.2 (s.1 + 2).toNatClampNeg) (X.2 (s.1 + 3).toNatClampNeg) s.2.1) fun t203 =>
      bif zin (s.1 + 1) X.1 then
      bif zin (s.1 + 2) X.1 then
      bif zin (s.1 + 3) X.1 then
      Option.bind (f208_act (X.2 (s.1 + 1).toNatClampNeg) (X.2 (s.1 + 2).toNatClampNeg) (X.2 (s.1 + 3).toNatClampNeg) t203.2) fun t208 =>
      if t203.1 = t208.1 then
        some (.inr (.inr ((s.1 + 6), t208.2, s.2.2)))
      else
        some (.inl (0, t208.2, s.2.2))
      else none
      else none
      else none
      else none
      else none
      else none
    else
    if ((X.2 s.1.toNatClampNeg) &&& 63).toInt = 26 then
      bif zin (s.1 + 1) X.1 then
      Option.bind (f117_trace (X.2 (s.1 + 1).toNatClampNeg) s.2.1) fun t212 =>
      bif zin (s.1 + 1) X.1 then
      Option.bind (f194_trace (X.2 (s.1 + 1).toNatClampNeg) s.2.1) fun t215 =>
      if t212 = t215 then
        some (.inr (.inr ((s.1 + 6), s.2.1, s.2.2)))
      else
        some (.inl (0, s.2.1, s.2.2))
      else none
      else none
    else
    if ((X.2 s.1.toNatClampNeg) &&& 63).toInt = 27 then
      bif zin (s.1 + 1) X.1 then
      bif zin (s.1 + 2) X.1 then
      Option.bind (f118_keep (X.2 (s.1 + 1).toNatClampNeg) (X.2 (s.1 + 2).toNatClampNeg) s.2.1) fun t220 =>
      bif zin (s.1 + 1) X.1 then
      bif zin (s.1 + 2) X.1 then
      Option.bind (f211_keep (X.2 (s.1 + 1).toNatClampNeg) (X.2 (s.1 + 2).toNatClampNeg) t220.2) fun t224 =>
      if t220.1 = t224.1 then
        some (.inr (.inr ((s.1 + 6), t224.2, s.2.2)))
      else
        some (.inl (0, t224.2, s.2.2))
      else none
      else none
      else none
      else none
    else
    if ((X.2 s.1.toNatClampNeg) &&& 63).toInt = 28 then
      bif zin (s.1 + 1) X.1 then
      bif zin (s.1 + 2) X.1 then
      bif zin (s.1 + 3) X.1 then
      Option.bind (f119_row (X.2 (s.1 + 1).toNatClampNeg) (X.2 (s.1 + 2).toNatClampNeg) (X.2 (s.1 + 3).toNatClampNeg) s.2.1 s.2.2) fun t230 =>
      bif zin (s.1 + 1) X.1 then
      bif zin (s.1 + 2) X.1 then
      bif zin (s.1 + 3) X.1 then
      Option.bind (f212_row (X.2 (s.1 + 1).toNatClampNeg) (X.2 (s.1 + 2).toNatClampNeg) (X.2 (s.1 + 3).toNatClampNeg) t230.2.1 t230.2.2) fun t235 =>
      if t230.1 = t235.1 then
        some (.inr (.inr ((s.1 + 6), t235.2.1, t235.2.2)))
      else
        some (.inl (0, t235.2.1, t235.2.2))
      else none
      else none
      else none
      else none
      else none
      else none
    else
    if ((X.2 s.1.toNatClampNeg) &&& 63).toInt = 29 then
      bif zin (s.1 + 1) X.1 then
      bif zin (s.1 + 2) X.1 then
      bif zin (s.1 + 3) X.1 then
      bif zin (s.1 + 4) X.1 then
      Option.bind (f120_put (X.2 (s.1 + 1).toNatClampNeg) (X.2 (s.1 + 2).toNatClampNeg) (((X.2 (s.1 + 3).toNatClampNeg).toInt64 <<< ((32 : Int32).toInt64 &&& 63)) ||| ((X.2 (s.1 + 4).toNatClampNeg).toInt64 &&& 4294967295)) s.2.1 s.2.2) fun t242 =>
      bif zin (s.1 + 1) X.1 then
      bif zin (s.1 + 2) X.1 then
      bif zin (s.1 + 3) X.1 then
      bif zin (s.1 + 4) X.1 then
      Option.bind (f214_put (X.2 (s.1 + 1).toNatClampNeg) (X.2 (s.1 + 2).toNatClampNeg) (((X.2 (s.1 + 3).toNatClampNeg).toInt64 <<< ((32 : Int32).toInt64 &&& 63)) ||| ((X.2 (s.1 + 4).toNatClampNeg).toInt64 &&& 4294967295)) s.2.1 t242.2) fun t248 =>
      if t242.1 = t248.1 then
        some (.inr (.inr ((s.1 + 6), s.2.1, t248.2)))
      else
        some (.inl (0, s.2.1, t248.2))
      else none
      else none
      else none
      else none
      else none
      else none
      else none
      else none
    else
    if ((X.2 s.1.toNatClampNeg) &&& 63).toInt = 30 then
      bif zin (s.1 + 1) X.1 then
      bif zin (s.1 + 2) X.1 then
      Option.bind (f121_element (X.2 (s.1 + 1).toNatClampNeg) (X.2 (s.1 + 2).toNatClampNeg) s.2.1 s.2.2) fun t253 =>
      bif zin (s.1 + 1) X.1 then
      bif zin (s.1 + 2) X.1 then
      Option.bind (f215_element (X.2 (s.1 + 1).toNatClampNeg) (X.2 (s.1 + 2).toNatClampNeg) s.2.1 s.2.2) fun t257 =>
      if (lg_cmp t253 t257) = 0 then
        some (.inr (.inr ((s.1 + 6), s.2.1, s.2.2)))
      else
        some (.inl (0, s.2.1, s.2.2))
      else none
      else none
      else none
      else none
    else
    if ((X.2 s.1.toNatClampNeg) &&& 63).toInt = 31 then
      bif zin (s.1 + 1) X.1 then
      bif zin (s.1 + 2) X.1 then
      bif zin (s.1 + 3) X.1 then
      bif zin (s.1 + 4) X.1 then
      bif zin (s.1 + 5) X.1 then
      Option.bind (f123_shift (X.2 (s.1 + 1).toNatClampNeg) (X.2 (s.1 + 2).toNatClampNeg) (X.2 (s.1 + 3).toNatClampNeg) (X.2 (s.1 + 4).toNatClampNeg) (X.2 (s.1 + 5).toNatClampNeg) s.2.1 s.2.2) fun t265 =>
      bif zin (s.1 + 1) X.1 then
      bif zin (s.1 + 2) X.1 then
      bif zin (s.1 + 3) X.1 then
      bif zin (s.1 + 4) X.1 then
      bif zin (s.1 + 5) X.1 then
      Option.bind (f216_shift (X.2 (s.1 + 1).toNatClampNeg) (X.2 (s.1 + 2).toNatClampNeg) (X.2 (s.1 + 3).toNatClampNeg) (X.2 (s.1 + 4).toNatClampNeg) (X.2 (s.1 + 5).toNatClampNeg) s.2.1 t265.2) fun t272 =>
      if t265.1 = t272.1 then
        some (.inr (.inr ((s.1 + 6), s.2.1, t272.2)))
      else
        some (.inl (0, s.2.1, t272.2))
      else none
      else none
      else none
      else none
      else none
      else none
      else none
      else none
      else none
      else none
    else
    if ((X.2 s.1.toNatClampNeg) &&& 63).toInt = 32 then
      bif zin (s.1 + 1) X.1 then
      bif zin (s.1 + 2) X.1 then
      Option.bind (f124_taken (X.2 (s.1 + 1).toNatClampNeg) (X.2 (s.1 + 2).toNatClampNeg) s.2.1) fun t277 =>
      bif zin (s.1 + 1) X.1 then
      bif zin (s.1 + 2) X.1 then
      Option.bind (f217_taken (X.2 (s.1 + 1).toNatClampNeg) (X.2 (s.1 + 2).toNatClampNeg) s.2.1) fun t281 =>
      if t277 = t281 then
        some (.inr (.inr ((s.1 + 6), s.2.1, s.2.2)))
      else
        some (.inl (0, s.2.1, s.2.2))
      else none
      else none
      else none
      else none
    else
    if ((X.2 s.1.toNatClampNeg) &&& 63).toInt = 33 then
      bif zin (s.1 + 1) X.1 then
      Option.bind (f125_count (X.2 (s.1 + 1).toNatClampNeg) s.2.1) fun t285 =>
      bif zin (s.1 + 1) X.1 then
      Option.bind (f209_count (X.2 (s.1 + 1).toNatClampNeg) s.2.1) fun t288 =>
      if t285 = t288 then
        some (.inr (.inr ((s.1 + 6), s.2.1, s.2.2)))
      else
        some (.inl (0, s.2.1, s.2.2))
      else none
      else none
    else
    some (.inr (.inr ((s.1 + 6), s.2.1, s.2.2)))
    else none
def f0_law (X : zX) (I : (Nat → Nat → Int32)) (J : (Nat → Nat → Int64)) : Option (Int32 × (Nat → Nat → Int32) × (Nat → Nat → Int64)) :=
  zbR (zloopR (f0_law_L18 X) 5000 ((0 : Int32), I, J)) (fun rr => some rr) fun s325 =>
  some (1, s325.2.1, s325.2.2)
