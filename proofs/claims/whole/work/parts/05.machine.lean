/-! THE ABSTRACT MACHINE: a memory is shapes (kind, length, references), ints, longs; objects are numbers; kinds: 0 int[], 1 byte[], 2 short[], 3 long[], 4 Shelf[], 5 int[][], 10+c an object of class c -/
abbrev zLs : Type := List (Option Value)
abbrev zSh : Type := Nat × Nat × List (Option Nat)
abbrev zM : Type := List zSh × (Nat → Nat → Int32) × (Nat → Nat → Int64)
abbrev zRes : Type := Option ((Nat × zLs × List Value × zM) ⊕ ((Nat × List Value × List Value × Nat) ⊕ Option Value))
abbrev zN (pc : Nat) (ls : zLs) (st : List Value) (M : zM) : zRes := some (.inl (pc, ls, st, M))
abbrev zC (y : Nat) (vs rest : List Value) (pc : Nat) : zRes := some (.inr (.inl (y, vs, rest, pc)))
abbrev zR (v : Option Value) : zRes := some (.inr (.inr v))
def zsh (M : zM) (a : Nat) : zSh := (M.1[a]?).getD (99, 0, [])
abbrev zkd (M : zM) (a : Nat) : Nat := (zsh M a).1
abbrev zln (M : zM) (a : Nat) : Nat := (zsh M a).2.1
def zri (M : zM) (a k : Nat) : Option Nat := (zsh M a).2.2.getD k none
abbrev zi (M : zM) (a k : Nat) : Int32 := M.2.1 a k
abbrev zj (M : zM) (a k : Nat) : Int64 := M.2.2 a k
def zwi (M : zM) (a k : Nat) (x : Int32) : zM := (M.1, va_up M.2.1 a (upd (M.2.1 a) k x), M.2.2)
def zwj (M : zM) (a k : Nat) (x : Int64) : zM := (M.1, M.2.1, va_up M.2.2 a (vp_updL (M.2.2 a) k x))
def zwr (M : zM) (a k v : Nat) : zM := (M.1.set a ((zsh M a).1, (zsh M a).2.1, (zsh M a).2.2.set k (some v)), M.2.1, M.2.2)
def zrow (M : zM) (a : Nat) (f : Nat → Int32) : zM := (M.1, va_up M.2.1 a f, M.2.2)
def zrowj (M : zM) (a : Nat) (f : Nat → Int64) : zM := (M.1, M.2.1, va_up M.2.2 a f)
def znew (M : zM) (s : zSh) : zM := (M.1 ++ [s], va_up M.2.1 M.1.length (fun _ => 0), va_up M.2.2 M.1.length (fun _ => 0))
def znews (M : zM) : List zSh → zM
  | [] => M
  | s :: r => znews (znew M s) r
def zkl (ls : zLs) : Nat → zLs
  | 0 => ls
  | j + 1 => match ls[j]? with
    | some (some v) => if v.category = 2 then ls.set j none else ls
    | _ => ls
def zst1 (ls : zLs) (i : Nat) (v : Value) : zLs := (zkl ls i).set i (some v)
def zst2 (ls : zLs) (i : Nat) (v : Value) : zLs := ((zkl ls i).set (i + 1) none).set i (some v)
def zget (ls : zLs) (i : Nat) : Option Value := (ls[i]?).join
/-- a jump's target -/
def zto (pc : Nat) (off : Int) : Nat := ((pc : Int) + off).toNat
/-- a field's kind: 0 int, 1 boolean, 2 a reference -/
def zfk (c k : Nat) : Nat := match zty c k with
  | .int => 0
  | .boolean => 1
  | .object _ => 2
  | .array _ => 2
  | _ => 3
def zak : ArrayType → Nat
  | .int => 0
  | .byte => 1
  | .short => 2
  | .long => 3
  | _ => 99
def zcats (st : List Value) : Nat := (st.map fun v => v.category).sum
def zpush1 (pc : Nat) (ls : zLs) (st : List Value) (M : zM) (v : Option Value) : zRes := match v with
  | some (.int x) => zN pc ls (.int x :: st) M
  | _ => none
def zpush2 (pc : Nat) (ls : zLs) (st : List Value) (M : zM) (v : Option Value) : zRes := match v with
  | some (.long x) => zN pc ls (.long x :: st) M
  | _ => none
def zpushr (pc : Nat) (ls : zLs) (st : List Value) (M : zM) (v : Option Value) : zRes := match v with
  | some (.ref x) => zN pc ls (.ref x :: st) M
  | _ => none
def zrefr (pc : Nat) (ls : zLs) (st : List Value) (M : zM) (v : Option Nat) : zRes := match v with
  | some x => zN pc ls (.ref x :: st) M
  | none => none
def zsti (pc : Nat) (ls : zLs) (st : List Value) (M : zM) (nL i : Nat) : zRes := match st with
  | .int x :: r => bif Nat.blt i nL then zN pc (zst1 ls i (.int x)) r M else none
  | _ => none
def zsta (pc : Nat) (ls : zLs) (st : List Value) (M : zM) (nL i : Nat) : zRes := match st with
  | .ref x :: r => bif Nat.blt i nL then zN pc (zst1 ls i (.ref x)) r M else none
  | _ => none
def zstl (pc : Nat) (ls : zLs) (st : List Value) (M : zM) (nL i : Nat) : zRes := match st with
  | .long x :: r => bif Nat.blt (i + 1) nL then zN pc (zst2 ls i (.long x)) r M else none
  | _ => none
def zop1 (f : Int32 → Int32) (pc : Nat) (ls : zLs) (st : List Value) (M : zM) : zRes := match st with
  | .int x :: r => zN (pc + 1) ls (.int (f x) :: r) M
  | _ => none
def zop2 (f : Int32 → Int32 → Int32) (pc : Nat) (ls : zLs) (st : List Value) (M : zM) : zRes := match st with
  | .int y :: .int x :: r => zN (pc + 1) ls (.int (f x y) :: r) M
  | _ => none
def zdiv (f : Int32 → Int32 → Int32) (pc : Nat) (ls : zLs) (st : List Value) (M : zM) : zRes := match st with
  | .int y :: .int x :: r => if y = 0 then none else zN (pc + 1) ls (.int (f x y) :: r) M
  | _ => none
def zlop2 (f : Int64 → Int64 → Int64) (pc : Nat) (ls : zLs) (st : List Value) (M : zM) : zRes := match st with
  | .long y :: .long x :: r => zN (pc + 1) ls (.long (f x y) :: r) M
  | _ => none
def zcond (c : ClassFile.Cond) (x y : Int32) (a b : zRes) : zRes := match c with
  | .eq => if x = y then a else b
  | .ne => if x = y then b else a
  | .lt => if x < y then a else b
  | .ge => if y ≤ x then a else b
  | .gt => if y < x then a else b
  | .le => if x ≤ y then a else b
def zif (c : ClassFile.Cond) (pc : Nat) (off : Int) (ls : zLs) (st : List Value) (M : zM) : zRes := match st with
  | .int x :: r => bif decide (0 ≤ (pc : Int) + off) then zcond c x 0 (zN (zto pc off) ls r M) (zN (pc + 3) ls r M) else none
  | _ => none
def zific (c : ClassFile.Cond) (pc : Nat) (off : Int) (ls : zLs) (st : List Value) (M : zM) : zRes := match st with
  | .int y :: .int x :: r => bif decide (0 ≤ (pc : Int) + off) then zcond c x y (zN (zto pc off) ls r M) (zN (pc + 3) ls r M) else none
  | _ => none
def zjump (pc : Nat) (off : Int) (ls : zLs) (st : List Value) (M : zM) : zRes := bif decide (0 ≤ (pc : Int) + off) then zN (zto pc off) ls st M else none
/-- where a table sends x, k its place from the low end; the arms are tried one by one -/
def ztab (pc : Nat) (x : Int32) (dflt : Int) (ls : zLs) (r : List Value) (M : zM) : Int → List Int → zRes
  | _, [] => zjump pc dflt ls r M
  | lo, o :: os => if x.toInt = lo then zjump pc o ls r M else ztab pc x dflt ls r M (lo + 1) os
def zlook (pc : Nat) (x : Int32) (dflt : Int) (ls : zLs) (r : List Value) (M : zM) : List (Int × Int) → zRes
  | [] => zjump pc dflt ls r M
  | o :: os => if x.toInt = o.1 then zjump pc o.2 ls r M else zlook pc x dflt ls r M os
def zfget (pc : Nat) (c k : Nat) (ls : zLs) (st : List Value) (M : zM) : zRes := match st with
  | .ref a :: r =>
    bif Nat.beq c 90 then (bif Nat.beq a 1001 then (bif Nat.beq k 0 then zN (pc + 3) ls (.ref 1003 :: r) M else zN (pc + 3) ls (.int 0 :: r) M) else none) else
    bif Nat.blt a 1000 && Nat.beq (zkd M a) (10 + c) && Nat.blt k (zNf c) then
      (match zfk c k with
      | 0 => zN (pc + 3) ls (.int (zi M a k) :: r) M
      | 1 => zN (pc + 3) ls (.int (zi M a k) :: r) M
      | 2 => zrefr (pc + 3) ls r M (zri M a k)
      | _ => none)
    else none
  | _ => none
def zfput (m pc : Nat) (c k : Nat) (ls : zLs) (st : List Value) (M : zM) : zRes := match st with
  | .int x :: .ref a :: r =>
    bif Nat.blt a 1000 && Nat.beq (zkd M a) (10 + c) && Nat.blt k (zNf c) && !(zT c k).2.2.2 then
      (match zfk c k with
      | 0 => zN (pc + 3) ls r (zwi M a k x)
      | 1 => if x = 0 ∨ x = 1 then zN (pc + 3) ls r (zwi M a k x) else none
      | _ => none)
    else none
  | .ref v :: .ref a :: r =>
    bif Nat.blt a 1000 && Nat.beq (zkd M a) (10 + c) && Nat.blt k (zNf c) && (zT c k).2.2.2 && Nat.beq (zkn m) 2 && Nat.beq (zoc m) c && Nat.beq (zfk c k) 2 && Nat.blt k (zsh M a).2.2.length && Nat.blt v 1000 then zN (pc + 3) ls r (zwr M a k v)
    else none
  | _ => none
def ziald (X : zX) (kd pc : Nat) (ls : zLs) (st : List Value) (M : zM) : zRes := match st with
  | .int i :: .ref a :: r =>
    bif Nat.blt a 1000 then (bif Nat.beq (zkd M a) kd then (bif zin i (zln M a) then zN (pc + 1) ls (.int (zi M a i.toNatClampNeg) :: r) M else none) else none) else
    bif Nat.beq kd 0 && Nat.beq a 1000 then (bif zin i X.1 then zN (pc + 1) ls (.int (X.2 i.toNatClampNeg) :: r) M else none) else
    bif Nat.beq kd 0 && Nat.beq a 1002 then (bif zin i 8 then zN (pc + 1) ls (.int (zabove.getD i.toNatClampNeg 0) :: r) M else none) else
    bif Nat.beq kd 1 && Nat.beq a 1003 then (bif zin i 8 then zN (pc + 1) ls (.int (znames.getD i.toNatClampNeg 0) :: r) M else none) else none
  | _ => none
def ziast (kd pc : Nat) (g : Int32 → Int32) (ls : zLs) (st : List Value) (M : zM) : zRes := match st with
  | .int x :: .int i :: .ref a :: r => bif Nat.blt a 1000 then (bif Nat.beq (zkd M a) kd then (bif zin i (zln M a) then zN (pc + 1) ls r (zwi M a i.toNatClampNeg (g x)) else none) else none) else none
  | _ => none
def zlald (pc : Nat) (ls : zLs) (st : List Value) (M : zM) : zRes := match st with
  | .int i :: .ref a :: r => bif Nat.blt a 1000 then (bif Nat.beq (zkd M a) 3 then (bif zin i (zln M a) then zN (pc + 1) ls (.long (zj M a i.toNatClampNeg) :: r) M else none) else none) else none
  | _ => none
def zlast (pc : Nat) (ls : zLs) (st : List Value) (M : zM) : zRes := match st with
  | .long x :: .int i :: .ref a :: r => bif Nat.blt a 1000 then (bif Nat.beq (zkd M a) 3 then (bif zin i (zln M a) then zN (pc + 1) ls r (zwj M a i.toNatClampNeg x) else none) else none) else none
  | _ => none
def zaald (pc : Nat) (ls : zLs) (st : List Value) (M : zM) : zRes := match st with
  | .int i :: .ref a :: r => bif Nat.blt a 1000 then (bif (Nat.beq (zkd M a) 4 || Nat.beq (zkd M a) 5) then (bif zin i (zln M a) then zrefr (pc + 1) ls r M (zri M a i.toNatClampNeg) else none) else none) else none
  | _ => none
def zaast (pc : Nat) (ls : zLs) (st : List Value) (M : zM) : zRes := match st with
  | .ref v :: .int i :: .ref a :: r => bif Nat.blt a 1000 && Nat.blt v 1000 && Nat.beq (zkd M a) 4 && Nat.beq (zkd M v) 14 && zin i (zln M a) && Nat.blt i.toNatClampNeg (zsh M a).2.2.length then zN (pc + 1) ls r (zwr M a i.toNatClampNeg v) else none
  | _ => none
def zalen (X : zX) (pc : Nat) (ls : zLs) (st : List Value) (M : zM) : zRes := match st with
  | .ref a :: r => bif Nat.beq a 1000 then zN (pc + 1) ls (.int (Int32.ofNat X.1) :: r) M else bif Nat.beq a 1003 then zN (pc + 1) ls (.int 8 :: r) M else none
  | _ => none
def znewa (pc : Nat) (t : ArrayType) (ls : zLs) (st : List Value) (M : zM) : zRes := match st with
  | .int n :: r => bif !(decide (n < 0)) && Nat.blt n.toNatClampNeg 10000 && Nat.blt M.1.length 900 && Nat.blt (zak t) 4 then zN (pc + 2) ls (.ref M.1.length :: r) (znew M (zak t, n.toNatClampNeg, [])) else none
  | _ => none
def znewo (pc c : Nat) (ls : zLs) (st : List Value) (M : zM) : zRes := bif Nat.blt M.1.length 900 && Nat.blt c 9 then zN (pc + 3) ls (.ref M.1.length :: st) (znew M (10 + c, zNf c, List.replicate (zNf c) none)) else none
def znewq (pc : Nat) (ls : zLs) (st : List Value) (M : zM) : zRes := match st with
  | .int n :: r => bif !(decide (n < 0)) && Nat.blt n.toNatClampNeg 10000 && Nat.blt M.1.length 900 then zN (pc + 3) ls (.ref M.1.length :: r) (znew M (4, n.toNatClampNeg, List.replicate n.toNatClampNeg none)) else none
  | _ => none
def znewm (pc : Nat) (ls : zLs) (st : List Value) (M : zM) : zRes := match st with
  | .int k :: .int n :: r => bif !(decide (n < 0)) && !(decide (k < 0)) && Nat.blt n.toNatClampNeg 50 && Nat.blt k.toNatClampNeg 10000 && Nat.blt M.1.length 900 then zN (pc + 4) ls (.ref M.1.length :: r) (znews M ((5, n.toNatClampNeg, (List.range n.toNatClampNeg).map (fun i => some (M.1.length + 1 + i))) :: List.replicate n.toNatClampNeg (0, k.toNatClampNeg, []))) else none
  | _ => none
def zcopy (pc : Nat) (ls : zLs) (st : List Value) (M : zM) : zRes := match st with
  | .int n :: .int dp :: .ref b :: .int sp :: .ref a :: r =>
    bif Nat.blt a 1000 && Nat.blt b 1000 && Nat.beq (zkd M a) (zkd M b) && !(decide (sp < 0)) && !(decide (dp < 0)) && !(decide (n < 0)) && Nat.ble (sp.toNatClampNeg + n.toNatClampNeg) (zln M a) && Nat.ble (dp.toNatClampNeg + n.toNatClampNeg) (zln M b) && Nat.ble (zcats r) 8 then
      (match zkd M a with
      | 0 => zN (pc + 3) ls r (zrow M b (va_cpy (M.2.1 a) (M.2.1 b) sp.toNatClampNeg dp.toNatClampNeg n.toNatClampNeg))
      | 3 => zN (pc + 3) ls r (zrowj M b (va_cpy (M.2.2 a) (M.2.2 b) sp.toNatClampNeg dp.toNatClampNeg n.toNatClampNeg))
      | _ => none)
    else none
  | _ => none
/-- a call's receiver is what it must be -/
def zrcv (M : zM) (y : Nat) (vs : List Value) : Bool := match zkn y with
  | 1 => true
  | 2 => match vs with
    | .ref _ :: _ => true
    | _ => false
  | _ => match vs with
    | .ref a :: _ => bif Nat.blt a 1000 then Nat.beq (zkd M a) (10 + zoc y) else Nat.beq a 1001 && Nat.beq (zoc y) 10
    | _ => false
/-- the tags of a call: 0 a method, 1 Object's constructor, 2 Math.min, 3 Math.max, 4 System.arraycopy, 6 a nest mate's constructor -/
def zinv (pc t y : Nat) (ls : zLs) (st : List Value) (M : zM) : zRes := match t with
  | 0 => bif Nat.ble (zna y) st.length && Nat.ble (zcats (st.drop (zna y))) 8 && zrcv M y (st.take (zna y)).reverse then zC y (st.take (zna y)).reverse (st.drop (zna y)) (pc + 3) else none
  | 6 => bif Nat.ble (zna y) st.length && Nat.ble (zcats (st.drop (zna y))) 8 && zrcv M y (st.take (zna y)).reverse then zC y (st.take (zna y)).reverse (st.drop (zna y)) (pc + 3) else none
  | 1 => match st with
    | .ref _ :: r => bif Nat.ble (zcats r) 8 then zN (pc + 3) ls r M else none
    | _ => none
  | 2 => match st with
    | .int y :: .int x :: r => bif Nat.ble (zcats r) 8 then zN (pc + 3) ls (.int (if y < x then y else x) :: r) M else none
    | _ => none
  | 3 => match st with
    | .int y :: .int x :: r => bif Nat.ble (zcats r) 8 then zN (pc + 3) ls (.int (if x < y then y else x) :: r) M else none
    | _ => none
  | 4 => zcopy pc ls st M
  | _ => none
def zret (m : Nat) (st : List Value) : zRes := match st with
  | [.int x] => match zrt m with
    | some .int => zR (some (.int x))
    | some .boolean => if x = 0 ∨ x = 1 then zR (some (.int x)) else none
    | some .byte => if x = 0 then zR (some (.int x)) else none
    | _ => none
  | _ => none
def zretl (m : Nat) (st : List Value) : zRes := match st with
  | [.long x] => match zrt m with
    | some .long => zR (some (.long x))
    | _ => none
  | _ => none
def zretv (m : Nat) (st : List Value) : zRes := match st with
  | [] => match zrt m with
    | none => zR none
    | _ => none
  | _ => none
def zdup (pc : Nat) (ls : zLs) (st : List Value) (M : zM) : zRes := match st with
  | .int x :: r => zN (pc + 1) ls (.int x :: .int x :: r) M
  | .ref x :: r => zN (pc + 1) ls (.ref x :: .ref x :: r) M
  | _ => none
def zdup2 (pc : Nat) (ls : zLs) (st : List Value) (M : zM) : zRes := match st with
  | .int y :: .ref x :: r => zN (pc + 1) ls (.int y :: .ref x :: .int y :: .ref x :: r) M
  | .int y :: .int x :: r => zN (pc + 1) ls (.int y :: .int x :: .int y :: .int x :: r) M
  | _ => none
def zpop (pc : Nat) (ls : zLs) (st : List Value) (M : zM) : zRes := match st with
  | .int _ :: r => zN (pc + 1) ls r M
  | .ref _ :: r => zN (pc + 1) ls r M
  | _ => none
def zinc (x : Int32) (n : Int) : Int32 := bif decide (n < 0) then x - Int32.ofInt (-n) else x + Int32.ofInt n
theorem zinc_eq (x : Int32) (n : Int) : x + Int32.ofInt n = zinc x n := by
  unfold zinc
  cases h : decide (n < 0) with
  | false => rfl
  | true =>
    show x + Int32.ofInt n = x - Int32.ofInt (-n)
    rw [Int32.sub_eq_add_neg, ← Int32.ofInt_neg, Int.neg_neg]
def ziinc (pc i : Nat) (n : Int) (nL : Nat) (ls : zLs) (st : List Value) (M : zM) : zRes := match zget ls i with
  | some (.int x) => bif Nat.blt i nL then zN (pc + 3) (zst1 ls i (.int (zinc x n))) st M else none
  | _ => none
def zil (pc : Nat) (ls : zLs) (st : List Value) (M : zM) : zRes := match st with
  | .int x :: r => zN (pc + 1) ls (.long x.toInt64 :: r) M
  | _ => none
def zli (pc : Nat) (ls : zLs) (st : List Value) (M : zM) : zRes := match st with
  | .long x :: r => zN (pc + 1) ls (.int x.toInt32 :: r) M
  | _ => none
def zlshl (pc : Nat) (ls : zLs) (st : List Value) (M : zM) : zRes := match st with
  | .int y :: .long x :: r => zN (pc + 1) ls (.long (x <<< (y.toInt64 &&& 63)) :: r) M
  | _ => none
def zlcmp (pc : Nat) (ls : zLs) (st : List Value) (M : zM) : zRes := match st with
  | .long y :: .long x :: r => zN (pc + 1) ls (.int (lg_cmp x y) :: r) M
  | _ => none
/-- one instruction -/
def zins (X : zX) (m pc : Nat) (e : zI) (ls : zLs) (st : List Value) (M : zM) : zRes := match e.1 with
  | .aload_n k => zpushr (pc + 1) ls st M (zget ls k)
  | .aload k => zpushr (pc + 2) ls st M (zget ls k)
  | .iload_n k => zpush1 (pc + 1) ls st M (zget ls k)
  | .iload k => zpush1 (pc + 2) ls st M (zget ls k)
  | .lload_n k => zpush2 (pc + 1) ls st M (zget ls k)
  | .lload k => zpush2 (pc + 2) ls st M (zget ls k)
  | .istore_n k => zsti (pc + 1) ls st M (zml m) k
  | .istore k => zsti (pc + 2) ls st M (zml m) k
  | .astore_n k => zsta (pc + 1) ls st M (zml m) k
  | .astore k => zsta (pc + 2) ls st M (zml m) k
  | .lstore_n k => zstl (pc + 1) ls st M (zml m) k
  | .lstore k => zstl (pc + 2) ls st M (zml m) k
  | .iconst n => zN (pc + 1) ls (.int (Int32.ofInt n) :: st) M
  | .bipush n => zN (pc + 2) ls (.int (Int8.ofInt n).toInt32 :: st) M
  | .sipush n => zN (pc + 3) ls (.int (Int16.ofInt n).toInt32 :: st) M
  | .lconst n => zN (pc + 1) ls (.long (Int64.ofNat (n : Nat)) :: st) M
  | .ldc _ => bif Nat.beq e.2.2.1 5 then zN (pc + 2) ls (.ref 1001 :: st) M else zN (pc + 2) ls (.int (Int32.ofInt e.2.2.2.2) :: st) M
  | .ldc_w _ => zN (pc + 3) ls (.int (Int32.ofInt e.2.2.2.2) :: st) M
  | .ldc2_w _ => zN (pc + 3) ls (.long (Int64.ofInt e.2.2.2.2) :: st) M
  | .iinc i n => ziinc pc i n (zml m) ls st M
  | .getfield _ => zfget pc e.2.2.1 e.2.2.2.1 ls st M
  | .putfield _ => zfput m pc e.2.2.1 e.2.2.2.1 ls st M
  | .getstatic _ => bif Nat.beq e.2.2.2.1 0 then zN (pc + 3) ls (.ref 1002 :: st) M else zN (pc + 3) ls (.int 1 :: st) M
  | .iaload => ziald X 0 pc ls st M
  | .baload => ziald X 1 pc ls st M
  | .saload => ziald X 2 pc ls st M
  | .laload => zlald pc ls st M
  | .aaload => zaald pc ls st M
  | .iastore => ziast 0 pc (fun x => x) ls st M
  | .bastore => ziast 1 pc (fun x => x.toInt8.toInt32) ls st M
  | .sastore => ziast 2 pc (fun x => x.toInt16.toInt32) ls st M
  | .lastore => zlast pc ls st M
  | .aastore => zaast pc ls st M
  | .arraylength => zalen X pc ls st M
  | .newarray t => znewa pc t ls st M
  | .new _ => znewo pc e.2.2.1 ls st M
  | .anewarray _ => znewq pc ls st M
  | .multianewarray _ _ => znewm pc ls st M
  | .invokevirtual _ => zinv pc e.2.2.1 e.2.2.2.1 ls st M
  | .invokestatic _ => zinv pc e.2.2.1 e.2.2.2.1 ls st M
  | .invokespecial _ => zinv pc e.2.2.1 e.2.2.2.1 ls st M
  | .ireturn => zret m st
  | .lreturn => zretl m st
  | .return_ => zretv m st
  | .goto o => zjump pc o ls st M
  | .ifCond c o => zif c pc o ls st M
  | .if_icmp c o => zific c pc o ls st M
  | .tableswitch d lo _ os => match st with
    | .int x :: r => ztab pc x d ls r M lo os.toList
    | _ => none
  | .lookupswitch d ps => match st with
    | .int x :: r => zlook pc x d ls r M ps.toList
    | _ => none
  | .iadd => zop2 (fun x y => x + y) pc ls st M
  | .isub => zop2 (fun x y => x - y) pc ls st M
  | .imul => zop2 (fun x y => x * y) pc ls st M
  | .idiv => zdiv (fun x y => x / y) pc ls st M
  | .irem => zdiv (fun x y => x - x / y * y) pc ls st M
  | .iand => zop2 (fun x y => x &&& y) pc ls st M
  | .ixor => zop2 (fun x y => x ^^^ y) pc ls st M
  | .iushr => zop2 (fun x y => (x.toUInt32 >>> (y.toUInt32 &&& Int32.toUInt32 31)).toInt32) pc ls st M
  | .ishr => zop2 (fun x y => x >>> (y &&& 31)) pc ls st M
  | .ineg => zop1 (fun x => -x) pc ls st M
  | .i2b => zop1 (fun x => x.toInt8.toInt32) pc ls st M
  | .i2s => zop1 (fun x => x.toInt16.toInt32) pc ls st M
  | .i2c => zop1 (fun x => (x.toUInt32 % 65536).toInt32) pc ls st M
  | .ladd => zlop2 (fun x y => x + y) pc ls st M
  | .lmul => zlop2 (fun x y => x * y) pc ls st M
  | .land => zlop2 (fun x y => x &&& y) pc ls st M
  | .lor => zlop2 (fun x y => x ||| y) pc ls st M
  | .i2l => zil pc ls st M
  | .l2i => zli pc ls st M
  | .lshl => zlshl pc ls st M
  | .lcmp => zlcmp pc ls st M
  | .dup => zdup pc ls st M
  | .dup2 => zdup2 pc ls st M
  | .pop => zpop pc ls st M
  | _ => none
def zmskl : List Bool → zLs → zLs
  | b :: k, o :: ls => (bif b then o else none) :: zmskl k ls
  | _, ls => ls
def zmsk : Option (List Bool) → zLs → zLs
  | some k, ls => zmskl k ls
  | none, ls => ls
def zstep (X : zX) (m pc : Nat) (ls : zLs) (st : List Value) (M : zM) : zRes := match zcode m pc with
  | some e => zins X m pc e (zmsk (zmk m pc) ls) st M
  | none => none
/-- a method's first locals -/
def zla : List Value → zLs
  | [] => []
  | v :: r => if v.category = 2 then some v :: none :: zla r else some v :: zla r
def zent (m : Nat) (vs : List Value) : zLs := zla vs ++ List.replicate (zml m - (zla vs).length) none
/-- a method's run from a place of it: calls at most d deep, n steps -/
def zev (X : zX) : Nat → Nat → Nat → Nat → zLs → List Value → zM → Option (Option Value × zM)
  | 0, _, _, _, _, _, _ => none
  | n + 1, d, m, pc, ls, st, M => match zstep X m pc ls st M with
    | none => none
    | some (.inl q) => zev X n d m q.1 q.2.1 q.2.2.1 q.2.2.2
    | some (.inr (.inl q)) => match d with
      | 0 => none
      | d' + 1 => bif Nat.ble (zla q.2.1).length (zml q.1) then (match zev X n d' q.1 0 (zent q.1 q.2.1) [] M with
        | none => none
        | some t => zev X n (d' + 1) m q.2.2.2 ls (t.1.toList ++ q.2.2.1) t.2) else none
    | some (.inr (.inr v)) => some (v, M)
