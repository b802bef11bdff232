theorem z_at {w : Cond} (k j : Nat) (h : (zWs[k]?).bind (fun l => l[j]?) = some w) : w ∈ zTs := by
  obtain ⟨l, h3, h4⟩ := Option.bind_eq_some_iff.mp h
  exact List.mem_flatten.mpr ⟨l, List.mem_of_getElem? h3, List.mem_of_getElem? h4⟩
theorem zw_aI : Cond.arrayClass .int ∈ zTs := z_at 2 1 rfl
theorem zw_aB : Cond.arrayClass .byte ∈ zTs := z_at 6 13 rfl
theorem zw_aS : Cond.arrayClass .short ∈ zTs := z_at 6 18 rfl
theorem zw_aJ : Cond.arrayClass .long ∈ zTs := z_at 5 19 rfl
theorem zw_qS : Cond.classLink RX7 49 RX4 ∈ zTs := z_at 1 10 rfl
theorem zw_mul : Cond.classLink RX2 15 "[[I" ∈ zTs := z_at 2 20 rfl
theorem zw_abv : Cond.fieldLink RX0 35 "FullerSquare$Acts" "ABOVE" "[I" ∈ zTs := z_at 49 22 rfl
theorem zw_cmp : Cond.fieldLink RJ0 38 "java/lang/String" "COMPACT_STRINGS" "Z" ∈ zTs := z_at 15 19 rfl
theorem zw_val : Cond.fieldLink RJ0 9 "java/lang/String" "value" "[B" ∈ zTs := z_at 15 14 rfl
theorem zw_cod : Cond.fieldLink RJ0 15 "java/lang/String" "coder" "B" ∈ zTs := z_at 15 20 rfl
theorem zw_cn : Cond.native arraycopyName ∈ zTs := z_at 23 1 rfl
theorem zw_cs : Cond.static arraycopyName ∈ zTs := z_at 23 2 rfl
theorem zw_ci : Cond.initialized "java/lang/System" ∈ zTs := z_at 23 3 rfl
theorem zw_ms : Cond.static Lib.Math.min.name ∈ zTs := z_at 9 15 rfl
theorem zw_mi : Cond.initialized "java/lang/Math" ∈ zTs := z_at 9 16 rfl
theorem zw_xs : Cond.static Lib.Math.max.name ∈ zTs := z_at 16 10 rfl
theorem zw_mc : Cond.code Lib.Math.min.name Lib.Math.min.code 2 (some .int) ∈ zTs := z_at 9 17 rfl
theorem zw_xc : Cond.code Lib.Math.max.name Lib.Math.max.code 2 (some .int) ∈ zTs := z_at 16 11 rfl
theorem zw_oi : Cond.instanceMethod objectInit ∈ zTs := z_at 0 11 rfl
theorem zw_oc : Cond.code objectInit ⟨#[0xb1]⟩ 1 none ∈ zTs := z_at 0 12 rfl
def zIT : List (Nat × Nat × Nat) := [(0, 3, 1), (1, 3, 1), (1, 34, 4), (2, 5, 1), (3, 3, 1), (3, 124, 3), (3, 137, 2), (3, 195, 4), (4, 3, 1), (5, 3, 1), (5, 82, 2), (5, 95, 3), (6, 3, 1), (6, 45, 4), (7, 3, 1), (7, 206, 3), (7, 261, 2), (7, 306, 4), (8, 1, 1), (11, 38, 2), (11, 92, 3)]
def zIP : List (Nat × Nat) := [(5, 6), (4, 21), (23, 0), (2, 18), (3, 7), (26, 11), (26, 21), (29, 2), (5, 15), (1, 18), (9, 14), (35, 17), (4, 9), (25, 13), (0, 10), (37, 19), (46, 5), (49, 5), (6, 0), (16, 12), (16, 9)]
def zIw (e : Nat × Nat × Nat) : Cond := .methodLink (zcn e.1) e.2.1 (match e.2.2 with
  | 1 => objectInit
  | 2 => Lib.Math.min.name
  | 3 => Lib.Math.max.name
  | _ => arraycopyName)
set_option maxRecDepth 100000 in
theorem zIT_in : ∀ e ∈ zIT, zIw e ∈ zTs := z_mem (P := zIP) (by decide +kernel) (by decide +kernel)
theorem zwn_0 : Cond.instantiable (zcn 0) (zNf 0) ∈ zTs := z_at 1 7 rfl
theorem zwi_0 : Cond.initialized (zcn 0) ∈ zTs := z_at 1 8 rfl
theorem zwn_1 : Cond.instantiable (zcn 1) (zNf 1) ∈ zTs := z_at 1 3 rfl
theorem zwi_1 : Cond.initialized (zcn 1) ∈ zTs := z_at 1 4 rfl
theorem zwn_2 : Cond.instantiable (zcn 2) (zNf 2) ∈ zTs := z_at 0 18 rfl
theorem zwi_2 : Cond.initialized (zcn 2) ∈ zTs := z_at 0 19 rfl
theorem zwn_3 : Cond.instantiable (zcn 3) (zNf 3) ∈ zTs := z_at 0 22 rfl
theorem zwi_3 : Cond.initialized (zcn 3) ∈ zTs := z_at 0 23 rfl
theorem zwn_4 : Cond.instantiable (zcn 4) (zNf 4) ∈ zTs := z_at 1 13 rfl
theorem zwi_4 : Cond.initialized (zcn 4) ∈ zTs := z_at 1 14 rfl
theorem zwn_5 : Cond.instantiable (zcn 5) (zNf 5) ∈ zTs := z_at 0 14 rfl
theorem zwi_5 : Cond.initialized (zcn 5) ∈ zTs := z_at 0 15 rfl
theorem zwn_6 : Cond.instantiable (zcn 6) (zNf 6) ∈ zTs := z_at 3 9 rfl
theorem zwi_6 : Cond.initialized (zcn 6) ∈ zTs := z_at 3 10 rfl
theorem zwn_7 : Cond.instantiable (zcn 7) (zNf 7) ∈ zTs := z_at 0 1 rfl
theorem zwi_7 : Cond.initialized (zcn 7) ∈ zTs := z_at 0 2 rfl
theorem zwn_8 : Cond.instantiable (zcn 8) (zNf 8) ∈ zTs := z_at 0 4 rfl
theorem zwi_8 : Cond.initialized (zcn 8) ∈ zTs := z_at 0 5 rfl
theorem zwn : ∀ c, c < 9 → Cond.instantiable (zcn c) (zNf c) ∈ zTs ∧ Cond.initialized (zcn c) ∈ zTs := fun c hc => match c, hc with
  | 0, _ => ⟨zwn_0, zwi_0⟩
  | 1, _ => ⟨zwn_1, zwi_1⟩
  | 2, _ => ⟨zwn_2, zwi_2⟩
  | 3, _ => ⟨zwn_3, zwi_3⟩
  | 4, _ => ⟨zwn_4, zwi_4⟩
  | 5, _ => ⟨zwn_5, zwi_5⟩
  | 6, _ => ⟨zwn_6, zwi_6⟩
  | 7, _ => ⟨zwn_7, zwi_7⟩
  | 8, _ => ⟨zwn_8, zwi_8⟩
  | n + 9, h => absurd h (by omega)
def zMeth (m : Nat) : Prop := Cond.code (zmn m) (zby m) (zml m) (zrt m) ∈ zTs ∧ Cond.initialized (zmn m).cls ∈ zTs ∧ (match zkn m with
  | 1 => Cond.static (zmn m) ∈ zTs
  | 2 => Cond.instanceMethod (zmn m) ∈ zTs
  | _ => Cond.instanceMethod (zmn m) ∈ zTs ∧ Cond.selects (zmn m).cls (zmn m) (zmn m) ∈ zTs)
theorem zme_1 : zMeth 1 := ⟨z_at 5 5 rfl, z_at 1 8 rfl, z_at 5 4 rfl⟩
theorem zme_2 : zMeth 2 := ⟨z_at 41 22 rfl, z_at 1 8 rfl, z_at 41 21 rfl⟩
theorem zme_3 : zMeth 3 := ⟨z_at 49 21 rfl, z_at 1 8 rfl, z_at 49 20 rfl⟩
theorem zme_4 : zMeth 4 := ⟨z_at 42 15 rfl, z_at 1 8 rfl, ⟨z_at 42 13 rfl, z_at 42 14 rfl⟩⟩
theorem zme_5 : zMeth 5 := ⟨z_at 41 19 rfl, z_at 1 8 rfl, ⟨z_at 41 17 rfl, z_at 41 18 rfl⟩⟩
theorem zme_6 : zMeth 6 := ⟨z_at 42 11 rfl, z_at 1 8 rfl, ⟨z_at 42 9 rfl, z_at 42 10 rfl⟩⟩
theorem zme_7 : zMeth 7 := ⟨z_at 42 23 rfl, z_at 1 8 rfl, ⟨z_at 42 21 rfl, z_at 42 22 rfl⟩⟩
theorem zme_8 : zMeth 8 := ⟨z_at 42 19 rfl, z_at 1 8 rfl, ⟨z_at 42 17 rfl, z_at 42 18 rfl⟩⟩
theorem zme_9 : zMeth 9 := ⟨z_at 43 3 rfl, z_at 1 8 rfl, ⟨z_at 43 1 rfl, z_at 43 2 rfl⟩⟩
theorem zme_10 : zMeth 10 := ⟨z_at 43 7 rfl, z_at 1 8 rfl, ⟨z_at 43 5 rfl, z_at 43 6 rfl⟩⟩
theorem zme_11 : zMeth 11 := ⟨z_at 43 11 rfl, z_at 1 8 rfl, ⟨z_at 43 9 rfl, z_at 43 10 rfl⟩⟩
theorem zme_12 : zMeth 12 := ⟨z_at 4 20 rfl, z_at 1 4 rfl, z_at 4 19 rfl⟩
theorem zme_13 : zMeth 13 := ⟨z_at 22 19 rfl, z_at 1 4 rfl, ⟨z_at 22 17 rfl, z_at 22 18 rfl⟩⟩
theorem zme_14 : zMeth 14 := ⟨z_at 22 23 rfl, z_at 1 4 rfl, ⟨z_at 22 21 rfl, z_at 22 22 rfl⟩⟩
theorem zme_15 : zMeth 15 := ⟨z_at 40 18 rfl, z_at 1 4 rfl, ⟨z_at 40 16 rfl, z_at 40 17 rfl⟩⟩
theorem zme_16 : zMeth 16 := ⟨z_at 41 7 rfl, z_at 1 4 rfl, ⟨z_at 41 5 rfl, z_at 41 6 rfl⟩⟩
theorem zme_17 : zMeth 17 := ⟨z_at 2 17 rfl, z_at 0 19 rfl, z_at 2 16 rfl⟩
theorem zme_18 : zMeth 18 := ⟨z_at 13 4 rfl, z_at 0 19 rfl, ⟨z_at 13 2 rfl, z_at 13 3 rfl⟩⟩
theorem zme_19 : zMeth 19 := ⟨z_at 13 17 rfl, z_at 0 19 rfl, ⟨z_at 13 15 rfl, z_at 13 16 rfl⟩⟩
theorem zme_20 : zMeth 20 := ⟨z_at 13 21 rfl, z_at 0 19 rfl, ⟨z_at 13 19 rfl, z_at 13 20 rfl⟩⟩
theorem zme_21 : zMeth 21 := ⟨z_at 14 1 rfl, z_at 0 19 rfl, ⟨z_at 13 23 rfl, z_at 14 0 rfl⟩⟩
theorem zme_22 : zMeth 22 := ⟨z_at 14 5 rfl, z_at 0 19 rfl, ⟨z_at 14 3 rfl, z_at 14 4 rfl⟩⟩
theorem zme_23 : zMeth 23 := ⟨z_at 14 15 rfl, z_at 0 19 rfl, z_at 14 14 rfl⟩
theorem zme_24 : zMeth 24 := ⟨z_at 14 21 rfl, z_at 0 19 rfl, ⟨z_at 14 7 rfl, z_at 14 8 rfl⟩⟩
theorem zme_25 : zMeth 25 := ⟨z_at 14 20 rfl, z_at 0 19 rfl, ⟨z_at 18 20 rfl, z_at 18 21 rfl⟩⟩
theorem zme_26 : zMeth 26 := ⟨z_at 15 4 rfl, z_at 0 19 rfl, ⟨z_at 15 2 rfl, z_at 15 3 rfl⟩⟩
theorem zme_27 : zMeth 27 := ⟨z_at 15 0 rfl, z_at 0 19 rfl, z_at 14 23 rfl⟩
theorem zme_28 : zMeth 28 := ⟨z_at 14 12 rfl, z_at 0 19 rfl, ⟨z_at 14 10 rfl, z_at 14 11 rfl⟩⟩
theorem zme_29 : zMeth 29 := ⟨z_at 14 19 rfl, z_at 0 19 rfl, ⟨z_at 14 17 rfl, z_at 14 18 rfl⟩⟩
theorem zme_30 : zMeth 30 := ⟨z_at 28 5 rfl, z_at 0 19 rfl, ⟨z_at 28 3 rfl, z_at 28 4 rfl⟩⟩
theorem zme_31 : zMeth 31 := ⟨z_at 28 9 rfl, z_at 0 19 rfl, ⟨z_at 28 7 rfl, z_at 28 8 rfl⟩⟩
theorem zme_32 : zMeth 32 := ⟨z_at 28 20 rfl, z_at 0 19 rfl, z_at 28 19 rfl⟩
theorem zme_33 : zMeth 33 := ⟨z_at 28 17 rfl, z_at 0 19 rfl, ⟨z_at 28 15 rfl, z_at 28 16 rfl⟩⟩
theorem zme_34 : zMeth 34 := ⟨z_at 28 13 rfl, z_at 0 19 rfl, ⟨z_at 28 11 rfl, z_at 28 12 rfl⟩⟩
theorem zme_35 : zMeth 35 := ⟨z_at 3 6 rfl, z_at 0 23 rfl, z_at 3 5 rfl⟩
theorem zme_36 : zMeth 36 := ⟨z_at 32 18 rfl, z_at 0 23 rfl, ⟨z_at 32 16 rfl, z_at 32 17 rfl⟩⟩
theorem zme_37 : zMeth 37 := ⟨z_at 33 6 rfl, z_at 0 23 rfl, ⟨z_at 33 4 rfl, z_at 33 5 rfl⟩⟩
theorem zme_38 : zMeth 38 := ⟨z_at 33 2 rfl, z_at 0 23 rfl, ⟨z_at 33 0 rfl, z_at 33 1 rfl⟩⟩
theorem zme_39 : zMeth 39 := ⟨z_at 32 22 rfl, z_at 0 23 rfl, ⟨z_at 32 20 rfl, z_at 32 21 rfl⟩⟩
theorem zme_40 : zMeth 40 := ⟨z_at 25 18 rfl, z_at 0 23 rfl, ⟨z_at 25 16 rfl, z_at 25 17 rfl⟩⟩
theorem zme_41 : zMeth 41 := ⟨z_at 25 23 rfl, z_at 0 23 rfl, ⟨z_at 25 21 rfl, z_at 25 22 rfl⟩⟩
theorem zme_42 : zMeth 42 := ⟨z_at 26 9 rfl, z_at 0 23 rfl, ⟨z_at 26 7 rfl, z_at 26 8 rfl⟩⟩
theorem zme_43 : zMeth 43 := ⟨z_at 26 15 rfl, z_at 0 23 rfl, ⟨z_at 26 13 rfl, z_at 26 14 rfl⟩⟩
theorem zme_44 : zMeth 44 := ⟨z_at 26 19 rfl, z_at 0 23 rfl, ⟨z_at 26 17 rfl, z_at 26 18 rfl⟩⟩
theorem zme_45 : zMeth 45 := ⟨z_at 27 1 rfl, z_at 0 23 rfl, ⟨z_at 26 23 rfl, z_at 27 0 rfl⟩⟩
theorem zme_46 : zMeth 46 := ⟨z_at 27 7 rfl, z_at 0 23 rfl, ⟨z_at 27 5 rfl, z_at 27 6 rfl⟩⟩
theorem zme_47 : zMeth 47 := ⟨z_at 27 15 rfl, z_at 0 23 rfl, ⟨z_at 27 13 rfl, z_at 27 14 rfl⟩⟩
theorem zme_48 : zMeth 48 := ⟨z_at 29 1 rfl, z_at 0 23 rfl, ⟨z_at 28 23 rfl, z_at 29 0 rfl⟩⟩
theorem zme_49 : zMeth 49 := ⟨z_at 29 7 rfl, z_at 0 23 rfl, ⟨z_at 29 5 rfl, z_at 29 6 rfl⟩⟩
theorem zme_50 : zMeth 50 := ⟨z_at 5 14 rfl, z_at 1 14 rfl, z_at 5 13 rfl⟩
theorem zme_51 : zMeth 51 := ⟨z_at 11 22 rfl, z_at 1 14 rfl, ⟨z_at 11 20 rfl, z_at 11 21 rfl⟩⟩
theorem zme_52 : zMeth 52 := ⟨z_at 11 18 rfl, z_at 1 14 rfl, ⟨z_at 11 16 rfl, z_at 11 17 rfl⟩⟩
theorem zme_53 : zMeth 53 := ⟨z_at 46 19 rfl, z_at 1 14 rfl, ⟨z_at 46 17 rfl, z_at 46 18 rfl⟩⟩
theorem zme_54 : zMeth 54 := ⟨z_at 47 7 rfl, z_at 1 14 rfl, ⟨z_at 47 5 rfl, z_at 47 6 rfl⟩⟩
theorem zme_55 : zMeth 55 := ⟨z_at 11 14 rfl, z_at 1 14 rfl, ⟨z_at 11 12 rfl, z_at 11 13 rfl⟩⟩
theorem zme_56 : zMeth 56 := ⟨z_at 12 12 rfl, z_at 1 14 rfl, ⟨z_at 12 10 rfl, z_at 12 11 rfl⟩⟩
theorem zme_57 : zMeth 57 := ⟨z_at 12 8 rfl, z_at 1 14 rfl, ⟨z_at 12 6 rfl, z_at 12 7 rfl⟩⟩
theorem zme_58 : zMeth 58 := ⟨z_at 48 0 rfl, z_at 1 14 rfl, ⟨z_at 47 22 rfl, z_at 47 23 rfl⟩⟩
theorem zme_59 : zMeth 59 := ⟨z_at 48 4 rfl, z_at 1 14 rfl, ⟨z_at 48 2 rfl, z_at 48 3 rfl⟩⟩
theorem zme_60 : zMeth 60 := ⟨z_at 1 17 rfl, z_at 0 15 rfl, z_at 1 16 rfl⟩
theorem zme_61 : zMeth 61 := ⟨z_at 9 5 rfl, z_at 0 15 rfl, ⟨z_at 9 3 rfl, z_at 9 4 rfl⟩⟩
theorem zme_62 : zMeth 62 := ⟨z_at 22 10 rfl, z_at 0 15 rfl, ⟨z_at 22 8 rfl, z_at 22 9 rfl⟩⟩
theorem zme_63 : zMeth 63 := ⟨z_at 9 1 rfl, z_at 0 15 rfl, ⟨z_at 8 23 rfl, z_at 9 0 rfl⟩⟩
theorem zme_64 : zMeth 64 := ⟨z_at 8 9 rfl, z_at 0 15 rfl, ⟨z_at 8 7 rfl, z_at 8 8 rfl⟩⟩
theorem zme_65 : zMeth 65 := ⟨z_at 9 9 rfl, z_at 0 15 rfl, ⟨z_at 9 7 rfl, z_at 9 8 rfl⟩⟩
theorem zme_66 : zMeth 66 := ⟨z_at 9 13 rfl, z_at 0 15 rfl, ⟨z_at 9 11 rfl, z_at 9 12 rfl⟩⟩
theorem zme_67 : zMeth 67 := ⟨z_at 9 21 rfl, z_at 0 15 rfl, ⟨z_at 9 19 rfl, z_at 9 20 rfl⟩⟩
theorem zme_68 : zMeth 68 := ⟨z_at 10 14 rfl, z_at 0 15 rfl, ⟨z_at 10 12 rfl, z_at 10 13 rfl⟩⟩
theorem zme_69 : zMeth 69 := ⟨z_at 22 15 rfl, z_at 0 15 rfl, ⟨z_at 22 13 rfl, z_at 22 14 rfl⟩⟩
theorem zme_70 : zMeth 70 := ⟨z_at 24 9 rfl, z_at 0 15 rfl, ⟨z_at 24 7 rfl, z_at 24 8 rfl⟩⟩
theorem zme_71 : zMeth 71 := ⟨z_at 24 14 rfl, z_at 0 15 rfl, ⟨z_at 24 12 rfl, z_at 24 13 rfl⟩⟩
theorem zme_72 : zMeth 72 := ⟨z_at 24 18 rfl, z_at 0 15 rfl, ⟨z_at 24 16 rfl, z_at 24 17 rfl⟩⟩
theorem zme_73 : zMeth 73 := ⟨z_at 29 12 rfl, z_at 0 15 rfl, ⟨z_at 29 10 rfl, z_at 29 11 rfl⟩⟩
theorem zme_74 : zMeth 74 := ⟨z_at 29 16 rfl, z_at 0 15 rfl, ⟨z_at 29 14 rfl, z_at 29 15 rfl⟩⟩
theorem zme_75 : zMeth 75 := ⟨z_at 36 5 rfl, z_at 0 15 rfl, ⟨z_at 36 3 rfl, z_at 36 4 rfl⟩⟩
theorem zme_76 : zMeth 76 := ⟨z_at 28 1 rfl, z_at 0 15 rfl, ⟨z_at 27 23 rfl, z_at 28 0 rfl⟩⟩
theorem zme_77 : zMeth 77 := ⟨z_at 34 12 rfl, z_at 0 15 rfl, ⟨z_at 34 10 rfl, z_at 34 11 rfl⟩⟩
theorem zme_78 : zMeth 78 := ⟨z_at 35 16 rfl, z_at 0 15 rfl, ⟨z_at 35 14 rfl, z_at 35 15 rfl⟩⟩
theorem zme_79 : zMeth 79 := ⟨z_at 40 4 rfl, z_at 0 15 rfl, ⟨z_at 40 2 rfl, z_at 40 3 rfl⟩⟩
theorem zme_80 : zMeth 80 := ⟨z_at 4 8 rfl, z_at 3 10 rfl, z_at 4 7 rfl⟩
theorem zme_81 : zMeth 81 := ⟨z_at 25 9 rfl, z_at 3 10 rfl, ⟨z_at 25 7 rfl, z_at 25 8 rfl⟩⟩
theorem zme_82 : zMeth 82 := ⟨z_at 38 12 rfl, z_at 3 10 rfl, ⟨z_at 38 10 rfl, z_at 38 11 rfl⟩⟩
theorem zme_83 : zMeth 83 := ⟨z_at 39 1 rfl, z_at 3 10 rfl, ⟨z_at 38 23 rfl, z_at 39 0 rfl⟩⟩
theorem zme_84 : zMeth 84 := ⟨z_at 36 21 rfl, z_at 3 10 rfl, ⟨z_at 36 19 rfl, z_at 36 20 rfl⟩⟩
theorem zme_85 : zMeth 85 := ⟨z_at 0 9 rfl, z_at 0 2 rfl, z_at 0 8 rfl⟩
theorem zme_86 : zMeth 86 := ⟨z_at 8 2 rfl, z_at 0 2 rfl, ⟨z_at 8 0 rfl, z_at 8 1 rfl⟩⟩
theorem zme_87 : zMeth 87 := ⟨z_at 8 21 rfl, z_at 0 2 rfl, ⟨z_at 8 19 rfl, z_at 8 20 rfl⟩⟩
theorem zme_88 : zMeth 88 := ⟨z_at 10 10 rfl, z_at 0 2 rfl, ⟨z_at 10 8 rfl, z_at 10 9 rfl⟩⟩
theorem zme_89 : zMeth 89 := ⟨z_at 11 7 rfl, z_at 0 2 rfl, ⟨z_at 11 5 rfl, z_at 11 6 rfl⟩⟩
theorem zme_90 : zMeth 90 := ⟨z_at 12 2 rfl, z_at 0 2 rfl, ⟨z_at 12 0 rfl, z_at 12 1 rfl⟩⟩
theorem zme_91 : zMeth 91 := ⟨z_at 13 0 rfl, z_at 0 2 rfl, ⟨z_at 12 22 rfl, z_at 12 23 rfl⟩⟩
theorem zme_92 : zMeth 92 := ⟨z_at 13 13 rfl, z_at 0 2 rfl, ⟨z_at 13 11 rfl, z_at 13 12 rfl⟩⟩
theorem zme_93 : zMeth 93 := ⟨z_at 21 17 rfl, z_at 0 2 rfl, ⟨z_at 21 15 rfl, z_at 21 16 rfl⟩⟩
theorem zme_94 : zMeth 94 := ⟨z_at 22 6 rfl, z_at 0 2 rfl, ⟨z_at 22 4 rfl, z_at 22 5 rfl⟩⟩
theorem zme_95 : zMeth 95 := ⟨z_at 24 5 rfl, z_at 0 2 rfl, ⟨z_at 24 3 rfl, z_at 24 4 rfl⟩⟩
theorem zme_96 : zMeth 96 := ⟨z_at 25 2 rfl, z_at 0 2 rfl, ⟨z_at 25 0 rfl, z_at 25 1 rfl⟩⟩
theorem zme_97 : zMeth 97 := ⟨z_at 32 12 rfl, z_at 0 2 rfl, ⟨z_at 32 10 rfl, z_at 32 11 rfl⟩⟩
theorem zme_98 : zMeth 98 := ⟨z_at 33 16 rfl, z_at 0 2 rfl, ⟨z_at 33 14 rfl, z_at 33 15 rfl⟩⟩
theorem zme_99 : zMeth 99 := ⟨z_at 34 4 rfl, z_at 0 2 rfl, ⟨z_at 34 2 rfl, z_at 34 3 rfl⟩⟩
theorem zme_100 : zMeth 100 := ⟨z_at 35 12 rfl, z_at 0 2 rfl, ⟨z_at 35 10 rfl, z_at 35 11 rfl⟩⟩
theorem zme_101 : zMeth 101 := ⟨z_at 34 8 rfl, z_at 0 2 rfl, ⟨z_at 34 6 rfl, z_at 34 7 rfl⟩⟩
theorem zme_102 : zMeth 102 := ⟨z_at 36 1 rfl, z_at 0 2 rfl, ⟨z_at 35 23 rfl, z_at 36 0 rfl⟩⟩
theorem zme_103 : zMeth 103 := ⟨z_at 36 17 rfl, z_at 0 2 rfl, ⟨z_at 36 15 rfl, z_at 36 16 rfl⟩⟩
theorem zme_104 : zMeth 104 := ⟨z_at 37 9 rfl, z_at 0 2 rfl, ⟨z_at 37 7 rfl, z_at 37 8 rfl⟩⟩
theorem zme_105 : zMeth 105 := ⟨z_at 37 18 rfl, z_at 0 2 rfl, ⟨z_at 37 16 rfl, z_at 37 17 rfl⟩⟩
theorem zme_106 : zMeth 106 := ⟨z_at 37 22 rfl, z_at 0 2 rfl, z_at 37 21 rfl⟩
theorem zme_107 : zMeth 107 := ⟨z_at 37 22 rfl, z_at 0 2 rfl, z_at 37 21 rfl⟩
theorem zme_108 : zMeth 108 := ⟨z_at 38 7 rfl, z_at 0 2 rfl, ⟨z_at 38 5 rfl, z_at 38 6 rfl⟩⟩
theorem zme_109 : zMeth 109 := ⟨z_at 38 20 rfl, z_at 0 2 rfl, ⟨z_at 38 18 rfl, z_at 38 19 rfl⟩⟩
theorem zme_110 : zMeth 110 := ⟨z_at 39 9 rfl, z_at 0 2 rfl, ⟨z_at 39 7 rfl, z_at 39 8 rfl⟩⟩
theorem zme_111 : zMeth 111 := ⟨z_at 39 19 rfl, z_at 0 2 rfl, ⟨z_at 39 17 rfl, z_at 39 18 rfl⟩⟩
theorem zme_112 : zMeth 112 := ⟨z_at 39 23 rfl, z_at 0 2 rfl, ⟨z_at 39 21 rfl, z_at 39 22 rfl⟩⟩
theorem zme_113 : zMeth 113 := ⟨z_at 40 14 rfl, z_at 0 2 rfl, ⟨z_at 40 12 rfl, z_at 40 13 rfl⟩⟩
theorem zme_114 : zMeth 114 := ⟨z_at 41 3 rfl, z_at 0 2 rfl, ⟨z_at 41 1 rfl, z_at 41 2 rfl⟩⟩
theorem zme_115 : zMeth 115 := ⟨z_at 41 15 rfl, z_at 0 2 rfl, ⟨z_at 41 13 rfl, z_at 41 14 rfl⟩⟩
theorem zme_116 : zMeth 116 := ⟨z_at 42 7 rfl, z_at 0 2 rfl, ⟨z_at 42 5 rfl, z_at 42 6 rfl⟩⟩
theorem zme_117 : zMeth 117 := ⟨z_at 46 3 rfl, z_at 0 2 rfl, ⟨z_at 46 1 rfl, z_at 46 2 rfl⟩⟩
theorem zme_118 : zMeth 118 := ⟨z_at 46 14 rfl, z_at 0 2 rfl, ⟨z_at 46 12 rfl, z_at 46 13 rfl⟩⟩
theorem zme_119 : zMeth 119 := ⟨z_at 47 3 rfl, z_at 0 2 rfl, ⟨z_at 47 1 rfl, z_at 47 2 rfl⟩⟩
theorem zme_120 : zMeth 120 := ⟨z_at 47 15 rfl, z_at 0 2 rfl, ⟨z_at 47 13 rfl, z_at 47 14 rfl⟩⟩
theorem zme_121 : zMeth 121 := ⟨z_at 48 16 rfl, z_at 0 2 rfl, ⟨z_at 48 14 rfl, z_at 48 15 rfl⟩⟩
theorem zme_122 : zMeth 122 := ⟨z_at 47 19 rfl, z_at 0 2 rfl, ⟨z_at 47 17 rfl, z_at 47 18 rfl⟩⟩
theorem zme_123 : zMeth 123 := ⟨z_at 49 2 rfl, z_at 0 2 rfl, ⟨z_at 49 0 rfl, z_at 49 1 rfl⟩⟩
theorem zme_124 : zMeth 124 := ⟨z_at 49 15 rfl, z_at 0 2 rfl, ⟨z_at 49 13 rfl, z_at 49 14 rfl⟩⟩
theorem zme_125 : zMeth 125 := ⟨z_at 50 6 rfl, z_at 0 2 rfl, ⟨z_at 50 4 rfl, z_at 50 5 rfl⟩⟩
theorem zme_126 : zMeth 126 := ⟨z_at 8 5 rfl, z_at 0 2 rfl, z_at 8 4 rfl⟩
theorem zme_127 : zMeth 127 := ⟨z_at 11 10 rfl, z_at 0 2 rfl, z_at 11 9 rfl⟩
theorem zme_128 : zMeth 128 := ⟨z_at 5 23 rfl, z_at 0 5 rfl, z_at 5 22 rfl⟩
theorem zme_129 : zMeth 129 := ⟨z_at 8 17 rfl, z_at 0 5 rfl, z_at 8 16 rfl⟩
theorem zme_130 : zMeth 130 := ⟨z_at 10 6 rfl, z_at 0 5 rfl, ⟨z_at 10 4 rfl, z_at 10 5 rfl⟩⟩
theorem zme_131 : zMeth 131 := ⟨z_at 23 11 rfl, z_at 0 5 rfl, ⟨z_at 23 9 rfl, z_at 23 10 rfl⟩⟩
theorem zme_132 : zMeth 132 := ⟨z_at 8 13 rfl, z_at 0 5 rfl, ⟨z_at 8 11 rfl, z_at 8 12 rfl⟩⟩
theorem zme_133 : zMeth 133 := ⟨z_at 10 1 rfl, z_at 0 5 rfl, ⟨z_at 9 23 rfl, z_at 10 0 rfl⟩⟩
theorem zme_134 : zMeth 134 := ⟨z_at 10 23 rfl, z_at 0 5 rfl, ⟨z_at 10 21 rfl, z_at 10 22 rfl⟩⟩
theorem zme_135 : zMeth 135 := ⟨z_at 11 3 rfl, z_at 0 5 rfl, ⟨z_at 11 1 rfl, z_at 11 2 rfl⟩⟩
theorem zme_136 : zMeth 136 := ⟨z_at 10 18 rfl, z_at 0 5 rfl, ⟨z_at 10 16 rfl, z_at 10 17 rfl⟩⟩
theorem zme_137 : zMeth 137 := ⟨z_at 12 16 rfl, z_at 0 5 rfl, ⟨z_at 12 14 rfl, z_at 12 15 rfl⟩⟩
theorem zme_138 : zMeth 138 := ⟨z_at 13 8 rfl, z_at 0 5 rfl, ⟨z_at 13 6 rfl, z_at 13 7 rfl⟩⟩
theorem zme_139 : zMeth 139 := ⟨z_at 20 1 rfl, z_at 0 5 rfl, ⟨z_at 19 23 rfl, z_at 20 0 rfl⟩⟩
theorem zme_140 : zMeth 140 := ⟨z_at 21 1 rfl, z_at 0 5 rfl, ⟨z_at 20 23 rfl, z_at 21 0 rfl⟩⟩
theorem zme_141 : zMeth 141 := ⟨z_at 20 5 rfl, z_at 0 5 rfl, ⟨z_at 20 3 rfl, z_at 20 4 rfl⟩⟩
theorem zme_142 : zMeth 142 := ⟨z_at 20 17 rfl, z_at 0 5 rfl, z_at 20 16 rfl⟩
theorem zme_143 : zMeth 143 := ⟨z_at 20 21 rfl, z_at 0 5 rfl, ⟨z_at 20 19 rfl, z_at 20 20 rfl⟩⟩
theorem zme_144 : zMeth 144 := ⟨z_at 21 8 rfl, z_at 0 5 rfl, ⟨z_at 21 6 rfl, z_at 21 7 rfl⟩⟩
theorem zme_145 : zMeth 145 := ⟨z_at 20 14 rfl, z_at 0 5 rfl, ⟨z_at 21 3 rfl, z_at 21 4 rfl⟩⟩
theorem zme_146 : zMeth 146 := ⟨z_at 21 9 rfl, z_at 0 5 rfl, ⟨z_at 21 12 rfl, z_at 21 13 rfl⟩⟩
theorem zme_147 : zMeth 147 := ⟨z_at 21 10 rfl, z_at 0 5 rfl, ⟨z_at 20 12 rfl, z_at 20 13 rfl⟩⟩
theorem zme_148 : zMeth 148 := ⟨z_at 20 10 rfl, z_at 0 5 rfl, ⟨z_at 20 8 rfl, z_at 20 9 rfl⟩⟩
theorem zme_149 : zMeth 149 := ⟨z_at 20 6 rfl, z_at 0 5 rfl, ⟨z_at 19 20 rfl, z_at 19 21 rfl⟩⟩
theorem zme_150 : zMeth 150 := ⟨z_at 19 18 rfl, z_at 0 5 rfl, ⟨z_at 19 16 rfl, z_at 19 17 rfl⟩⟩
theorem zme_151 : zMeth 151 := ⟨z_at 19 14 rfl, z_at 0 5 rfl, ⟨z_at 19 12 rfl, z_at 19 13 rfl⟩⟩
theorem zme_152 : zMeth 152 := ⟨z_at 19 6 rfl, z_at 0 5 rfl, ⟨z_at 19 4 rfl, z_at 19 5 rfl⟩⟩
theorem zme_153 : zMeth 153 := ⟨z_at 31 21 rfl, z_at 0 5 rfl, z_at 31 20 rfl⟩
theorem zme_154 : zMeth 154 := ⟨z_at 31 18 rfl, z_at 0 5 rfl, ⟨z_at 31 16 rfl, z_at 31 17 rfl⟩⟩
theorem zme_155 : zMeth 155 := ⟨z_at 31 14 rfl, z_at 0 5 rfl, ⟨z_at 31 12 rfl, z_at 31 13 rfl⟩⟩
theorem zme_156 : zMeth 156 := ⟨z_at 31 10 rfl, z_at 0 5 rfl, ⟨z_at 31 8 rfl, z_at 31 9 rfl⟩⟩
theorem zme_157 : zMeth 157 := ⟨z_at 19 1 rfl, z_at 0 5 rfl, ⟨z_at 18 23 rfl, z_at 19 0 rfl⟩⟩
theorem zme_158 : zMeth 158 := ⟨z_at 22 0 rfl, z_at 0 5 rfl, ⟨z_at 21 22 rfl, z_at 21 23 rfl⟩⟩
theorem zme_159 : zMeth 159 := ⟨z_at 23 21 rfl, z_at 0 5 rfl, ⟨z_at 23 19 rfl, z_at 23 20 rfl⟩⟩
theorem zme_160 : zMeth 160 := ⟨z_at 24 1 rfl, z_at 0 5 rfl, ⟨z_at 23 23 rfl, z_at 24 0 rfl⟩⟩
theorem zme_161 : zMeth 161 := ⟨z_at 23 15 rfl, z_at 0 5 rfl, ⟨z_at 23 13 rfl, z_at 23 14 rfl⟩⟩
theorem zme_162 : zMeth 162 := ⟨z_at 40 23 rfl, z_at 0 5 rfl, ⟨z_at 40 21 rfl, z_at 40 22 rfl⟩⟩
theorem zme_163 : zMeth 163 := ⟨z_at 41 11 rfl, z_at 0 5 rfl, ⟨z_at 41 9 rfl, z_at 41 10 rfl⟩⟩
theorem zme_164 : zMeth 164 := ⟨z_at 23 7 rfl, z_at 0 5 rfl, ⟨z_at 23 5 rfl, z_at 23 6 rfl⟩⟩
theorem zme_165 : zMeth 165 := ⟨z_at 24 22 rfl, z_at 0 5 rfl, ⟨z_at 24 20 rfl, z_at 24 21 rfl⟩⟩
theorem zme_166 : zMeth 166 := ⟨z_at 30 13 rfl, z_at 0 5 rfl, ⟨z_at 30 11 rfl, z_at 30 12 rfl⟩⟩
theorem zme_167 : zMeth 167 := ⟨z_at 30 19 rfl, z_at 0 5 rfl, ⟨z_at 30 17 rfl, z_at 30 18 rfl⟩⟩
theorem zme_168 : zMeth 168 := ⟨z_at 31 3 rfl, z_at 0 5 rfl, ⟨z_at 31 1 rfl, z_at 31 2 rfl⟩⟩
theorem zme_169 : zMeth 169 := ⟨z_at 32 0 rfl, z_at 0 5 rfl, z_at 31 23 rfl⟩
theorem zme_170 : zMeth 170 := ⟨z_at 30 23 rfl, z_at 0 5 rfl, ⟨z_at 30 21 rfl, z_at 30 22 rfl⟩⟩
theorem zme_171 : zMeth 171 := ⟨z_at 30 9 rfl, z_at 0 5 rfl, ⟨z_at 30 7 rfl, z_at 30 8 rfl⟩⟩
theorem zme_172 : zMeth 172 := ⟨z_at 32 8 rfl, z_at 0 5 rfl, ⟨z_at 32 6 rfl, z_at 32 7 rfl⟩⟩
theorem zme_173 : zMeth 173 := ⟨z_at 32 4 rfl, z_at 0 5 rfl, ⟨z_at 32 2 rfl, z_at 32 3 rfl⟩⟩
theorem zme_174 : zMeth 174 := ⟨z_at 29 20 rfl, z_at 0 5 rfl, ⟨z_at 29 18 rfl, z_at 29 19 rfl⟩⟩
theorem zme_175 : zMeth 175 := ⟨z_at 33 11 rfl, z_at 0 5 rfl, ⟨z_at 33 9 rfl, z_at 33 10 rfl⟩⟩
theorem zme_176 : zMeth 176 := ⟨z_at 34 0 rfl, z_at 0 5 rfl, ⟨z_at 33 22 rfl, z_at 33 23 rfl⟩⟩
theorem zme_177 : zMeth 177 := ⟨z_at 35 4 rfl, z_at 0 5 rfl, ⟨z_at 35 2 rfl, z_at 35 3 rfl⟩⟩
theorem zme_178 : zMeth 178 := ⟨z_at 35 8 rfl, z_at 0 5 rfl, ⟨z_at 35 6 rfl, z_at 35 7 rfl⟩⟩
theorem zme_179 : zMeth 179 := ⟨z_at 35 0 rfl, z_at 0 5 rfl, ⟨z_at 34 22 rfl, z_at 34 23 rfl⟩⟩
theorem zme_180 : zMeth 180 := ⟨z_at 34 20 rfl, z_at 0 5 rfl, ⟨z_at 34 18 rfl, z_at 34 19 rfl⟩⟩
theorem zme_181 : zMeth 181 := ⟨z_at 34 16 rfl, z_at 0 5 rfl, ⟨z_at 34 14 rfl, z_at 34 15 rfl⟩⟩
theorem zme_182 : zMeth 182 := ⟨z_at 35 21 rfl, z_at 0 5 rfl, ⟨z_at 35 19 rfl, z_at 35 20 rfl⟩⟩
theorem zme_183 : zMeth 183 := ⟨z_at 36 13 rfl, z_at 0 5 rfl, ⟨z_at 36 11 rfl, z_at 36 12 rfl⟩⟩
theorem zme_184 : zMeth 184 := ⟨z_at 36 9 rfl, z_at 0 5 rfl, ⟨z_at 36 7 rfl, z_at 36 8 rfl⟩⟩
theorem zme_185 : zMeth 185 := ⟨z_at 37 4 rfl, z_at 0 5 rfl, ⟨z_at 37 2 rfl, z_at 37 3 rfl⟩⟩
theorem zme_186 : zMeth 186 := ⟨z_at 37 14 rfl, z_at 0 5 rfl, ⟨z_at 37 12 rfl, z_at 37 13 rfl⟩⟩
theorem zme_187 : zMeth 187 := ⟨z_at 38 3 rfl, z_at 0 5 rfl, ⟨z_at 38 1 rfl, z_at 38 2 rfl⟩⟩
theorem zme_188 : zMeth 188 := ⟨z_at 38 16 rfl, z_at 0 5 rfl, ⟨z_at 38 14 rfl, z_at 38 15 rfl⟩⟩
theorem zme_189 : zMeth 189 := ⟨z_at 39 5 rfl, z_at 0 5 rfl, ⟨z_at 39 3 rfl, z_at 39 4 rfl⟩⟩
theorem zme_190 : zMeth 190 := ⟨z_at 39 15 rfl, z_at 0 5 rfl, ⟨z_at 39 13 rfl, z_at 39 14 rfl⟩⟩
theorem zme_191 : zMeth 191 := ⟨z_at 40 10 rfl, z_at 0 5 rfl, ⟨z_at 40 8 rfl, z_at 40 9 rfl⟩⟩
theorem zme_192 : zMeth 192 := ⟨z_at 43 20 rfl, z_at 0 5 rfl, ⟨z_at 43 18 rfl, z_at 43 19 rfl⟩⟩
theorem zme_193 : zMeth 193 := ⟨z_at 44 7 rfl, z_at 0 5 rfl, ⟨z_at 44 5 rfl, z_at 44 6 rfl⟩⟩
theorem zme_194 : zMeth 194 := ⟨z_at 46 10 rfl, z_at 0 5 rfl, ⟨z_at 46 8 rfl, z_at 46 9 rfl⟩⟩
theorem zme_195 : zMeth 195 := ⟨z_at 42 2 rfl, z_at 0 5 rfl, ⟨z_at 42 0 rfl, z_at 42 1 rfl⟩⟩
theorem zme_196 : zMeth 196 := ⟨z_at 44 3 rfl, z_at 0 5 rfl, z_at 44 2 rfl⟩
theorem zme_197 : zMeth 197 := ⟨z_at 44 11 rfl, z_at 0 5 rfl, ⟨z_at 44 9 rfl, z_at 44 10 rfl⟩⟩
theorem zme_198 : zMeth 198 := ⟨z_at 44 15 rfl, z_at 0 5 rfl, ⟨z_at 44 13 rfl, z_at 44 14 rfl⟩⟩
theorem zme_199 : zMeth 199 := ⟨z_at 44 0 rfl, z_at 0 5 rfl, ⟨z_at 43 22 rfl, z_at 43 23 rfl⟩⟩
theorem zme_200 : zMeth 200 := ⟨z_at 45 3 rfl, z_at 0 5 rfl, ⟨z_at 45 1 rfl, z_at 45 2 rfl⟩⟩
theorem zme_201 : zMeth 201 := ⟨z_at 44 23 rfl, z_at 0 5 rfl, ⟨z_at 44 21 rfl, z_at 44 22 rfl⟩⟩
theorem zme_202 : zMeth 202 := ⟨z_at 44 19 rfl, z_at 0 5 rfl, ⟨z_at 44 17 rfl, z_at 44 18 rfl⟩⟩
theorem zme_203 : zMeth 203 := ⟨z_at 45 11 rfl, z_at 0 5 rfl, ⟨z_at 45 9 rfl, z_at 45 10 rfl⟩⟩
theorem zme_204 : zMeth 204 := ⟨z_at 45 7 rfl, z_at 0 5 rfl, ⟨z_at 45 5 rfl, z_at 45 6 rfl⟩⟩
theorem zme_205 : zMeth 205 := ⟨z_at 45 23 rfl, z_at 0 5 rfl, ⟨z_at 45 21 rfl, z_at 45 22 rfl⟩⟩
theorem zme_206 : zMeth 206 := ⟨z_at 45 19 rfl, z_at 0 5 rfl, ⟨z_at 45 17 rfl, z_at 45 18 rfl⟩⟩
theorem zme_207 : zMeth 207 := ⟨z_at 45 15 rfl, z_at 0 5 rfl, ⟨z_at 45 13 rfl, z_at 45 14 rfl⟩⟩
theorem zme_208 : zMeth 208 := ⟨z_at 43 15 rfl, z_at 0 5 rfl, ⟨z_at 43 13 rfl, z_at 43 14 rfl⟩⟩
theorem zme_209 : zMeth 209 := ⟨z_at 50 15 rfl, z_at 0 5 rfl, ⟨z_at 50 13 rfl, z_at 50 14 rfl⟩⟩
theorem zme_210 : zMeth 210 := ⟨z_at 12 20 rfl, z_at 0 5 rfl, z_at 12 19 rfl⟩
theorem zme_211 : zMeth 211 := ⟨z_at 46 23 rfl, z_at 0 5 rfl, ⟨z_at 46 21 rfl, z_at 46 22 rfl⟩⟩
theorem zme_212 : zMeth 212 := ⟨z_at 47 11 rfl, z_at 0 5 rfl, ⟨z_at 47 9 rfl, z_at 47 10 rfl⟩⟩
theorem zme_213 : zMeth 213 := ⟨z_at 48 12 rfl, z_at 0 5 rfl, ⟨z_at 48 10 rfl, z_at 48 11 rfl⟩⟩
theorem zme_214 : zMeth 214 := ⟨z_at 48 8 rfl, z_at 0 5 rfl, ⟨z_at 48 6 rfl, z_at 48 7 rfl⟩⟩
theorem zme_215 : zMeth 215 := ⟨z_at 48 21 rfl, z_at 0 5 rfl, ⟨z_at 48 19 rfl, z_at 48 20 rfl⟩⟩
theorem zme_216 : zMeth 216 := ⟨z_at 49 11 rfl, z_at 0 5 rfl, ⟨z_at 49 9 rfl, z_at 49 10 rfl⟩⟩
theorem zme_217 : zMeth 217 := ⟨z_at 50 2 rfl, z_at 0 5 rfl, ⟨z_at 50 0 rfl, z_at 50 1 rfl⟩⟩
theorem zme_218 : zMeth 218 := ⟨z_at 16 0 rfl, z_at 15 8 rfl, ⟨z_at 15 22 rfl, z_at 15 23 rfl⟩⟩
theorem zme_219 : zMeth 219 := ⟨z_at 15 9 rfl, z_at 15 8 rfl, ⟨z_at 15 6 rfl, z_at 15 7 rfl⟩⟩
theorem zme_220 : zMeth 220 := ⟨z_at 15 13 rfl, z_at 15 8 rfl, ⟨z_at 15 11 rfl, z_at 15 12 rfl⟩⟩
theorem zme_221 : zMeth 221 := ⟨z_at 16 4 rfl, z_at 15 8 rfl, ⟨z_at 16 2 rfl, z_at 16 3 rfl⟩⟩
theorem zme_222 : zMeth 222 := ⟨z_at 15 18 rfl, z_at 15 8 rfl, ⟨z_at 15 16 rfl, z_at 15 17 rfl⟩⟩
theorem zme_223 : zMeth 223 := ⟨z_at 16 15 rfl, z_at 16 7 rfl, z_at 16 14 rfl⟩
theorem zme_224 : zMeth 224 := ⟨z_at 16 8 rfl, z_at 16 7 rfl, z_at 16 6 rfl⟩
theorem zme_225 : zMeth 225 := ⟨z_at 16 18 rfl, z_at 16 7 rfl, z_at 16 17 rfl⟩
theorem zme : ∀ m, m < 226 → 0 < m → zMeth m := by
  have h0 : ∀ m, m < 1 → 0 < m → zMeth m := fun m h1 h2 => absurd h1 (by omega)
  have h1 := lt_s h0 (fun _ => zme_1)
  have h2 := lt_s h1 (fun _ => zme_2)
  have h3 := lt_s h2 (fun _ => zme_3)
  have h4 := lt_s h3 (fun _ => zme_4)
  have h5 := lt_s h4 (fun _ => zme_5)
  have h6 := lt_s h5 (fun _ => zme_6)
  have h7 := lt_s h6 (fun _ => zme_7)
  have h8 := lt_s h7 (fun _ => zme_8)
  have h9 := lt_s h8 (fun _ => zme_9)
  have h10 := lt_s h9 (fun _ => zme_10)
  have h11 := lt_s h10 (fun _ => zme_11)
  have h12 := lt_s h11 (fun _ => zme_12)
  have h13 := lt_s h12 (fun _ => zme_13)
  have h14 := lt_s h13 (fun _ => zme_14)
  have h15 := lt_s h14 (fun _ => zme_15)
  have h16 := lt_s h15 (fun _ => zme_16)
  have h17 := lt_s h16 (fun _ => zme_17)
  have h18 := lt_s h17 (fun _ => zme_18)
  have h19 := lt_s h18 (fun _ => zme_19)
  have h20 := lt_s h19 (fun _ => zme_20)
  have h21 := lt_s h20 (fun _ => zme_21)
  have h22 := lt_s h21 (fun _ => zme_22)
  have h23 := lt_s h22 (fun _ => zme_23)
  have h24 := lt_s h23 (fun _ => zme_24)
  have h25 := lt_s h24 (fun _ => zme_25)
  have h26 := lt_s h25 (fun _ => zme_26)
  have h27 := lt_s h26 (fun _ => zme_27)
  have h28 := lt_s h27 (fun _ => zme_28)
  have h29 := lt_s h28 (fun _ => zme_29)
  have h30 := lt_s h29 (fun _ => zme_30)
  have h31 := lt_s h30 (fun _ => zme_31)
  have h32 := lt_s h31 (fun _ => zme_32)
  have h33 := lt_s h32 (fun _ => zme_33)
  have h34 := lt_s h33 (fun _ => zme_34)
  have h35 := lt_s h34 (fun _ => zme_35)
  have h36 := lt_s h35 (fun _ => zme_36)
  have h37 := lt_s h36 (fun _ => zme_37)
  have h38 := lt_s h37 (fun _ => zme_38)
  have h39 := lt_s h38 (fun _ => zme_39)
  have h40 := lt_s h39 (fun _ => zme_40)
  have h41 := lt_s h40 (fun _ => zme_41)
  have h42 := lt_s h41 (fun _ => zme_42)
  have h43 := lt_s h42 (fun _ => zme_43)
  have h44 := lt_s h43 (fun _ => zme_44)
  have h45 := lt_s h44 (fun _ => zme_45)
  have h46 := lt_s h45 (fun _ => zme_46)
  have h47 := lt_s h46 (fun _ => zme_47)
  have h48 := lt_s h47 (fun _ => zme_48)
  have h49 := lt_s h48 (fun _ => zme_49)
  have h50 := lt_s h49 (fun _ => zme_50)
  have h51 := lt_s h50 (fun _ => zme_51)
  have h52 := lt_s h51 (fun _ => zme_52)
  have h53 := lt_s h52 (fun _ => zme_53)
  have h54 := lt_s h53 (fun _ => zme_54)
  have h55 := lt_s h54 (fun _ => zme_55)
  have h56 := lt_s h55 (fun _ => zme_56)
  have h57 := lt_s h56 (fun _ => zme_57)
  have h58 := lt_s h57 (fun _ => zme_58)
  have h59 := lt_s h58 (fun _ => zme_59)
  have h60 := lt_s h59 (fun _ => zme_60)
  have h61 := lt_s h60 (fun _ => zme_61)
  have h62 := lt_s h61 (fun _ => zme_62)
  have h63 := lt_s h62 (fun _ => zme_63)
  have h64 := lt_s h63 (fun _ => zme_64)
  have h65 := lt_s h64 (fun _ => zme_65)
  have h66 := lt_s h65 (fun _ => zme_66)
  have h67 := lt_s h66 (fun _ => zme_67)
  have h68 := lt_s h67 (fun _ => zme_68)
  have h69 := lt_s h68 (fun _ => zme_69)
  have h70 := lt_s h69 (fun _ => zme_70)
  have h71 := lt_s h70 (fun _ => zme_71)
  have h72 := lt_s h71 (fun _ => zme_72)
  have h73 := lt_s h72 (fun _ => zme_73)
  have h74 := lt_s h73 (fun _ => zme_74)
  have h75 := lt_s h74 (fun _ => zme_75)
  have h76 := lt_s h75 (fun _ => zme_76)
  have h77 := lt_s h76 (fun _ => zme_77)
  have h78 := lt_s h77 (fun _ => zme_78)
  have h79 := lt_s h78 (fun _ => zme_79)
  have h80 := lt_s h79 (fun _ => zme_80)
  have h81 := lt_s h80 (fun _ => zme_81)
  have h82 := lt_s h81 (fun _ => zme_82)
  have h83 := lt_s h82 (fun _ => zme_83)
  have h84 := lt_s h83 (fun _ => zme_84)
  have h85 := lt_s h84 (fun _ => zme_85)
  have h86 := lt_s h85 (fun _ => zme_86)
  have h87 := lt_s h86 (fun _ => zme_87)
  have h88 := lt_s h87 (fun _ => zme_88)
  have h89 := lt_s h88 (fun _ => zme_89)
  have h90 := lt_s h89 (fun _ => zme_90)
  have h91 := lt_s h90 (fun _ => zme_91)
  have h92 := lt_s h91 (fun _ => zme_92)
  have h93 := lt_s h92 (fun _ => zme_93)
  have h94 := lt_s h93 (fun _ => zme_94)
  have h95 := lt_s h94 (fun _ => zme_95)
  have h96 := lt_s h95 (fun _ => zme_96)
  have h97 := lt_s h96 (fun _ => zme_97)
  have h98 := lt_s h97 (fun _ => zme_98)
  have h99 := lt_s h98 (fun _ => zme_99)
  have h100 := lt_s h99 (fun _ => zme_100)
  have h101 := lt_s h100 (fun _ => zme_101)
  have h102 := lt_s h101 (fun _ => zme_102)
  have h103 := lt_s h102 (fun _ => zme_103)
  have h104 := lt_s h103 (fun _ => zme_104)
  have h105 := lt_s h104 (fun _ => zme_105)
  have h106 := lt_s h105 (fun _ => zme_106)
  have h107 := lt_s h106 (fun _ => zme_107)
  have h108 := lt_s h107 (fun _ => zme_108)
  have h109 := lt_s h108 (fun _ => zme_109)
  have h110 := lt_s h109 (fun _ => zme_110)
  have h111 := lt_s h110 (fun _ => zme_111)
  have h112 := lt_s h111 (fun _ => zme_112)
  have h113 := lt_s h112 (fun _ => zme_113)
  have h114 := lt_s h113 (fun _ => zme_114)
  have h115 := lt_s h114 (fun _ => zme_115)
  have h116 := lt_s h115 (fun _ => zme_116)
  have h117 := lt_s h116 (fun _ => zme_117)
  have h118 := lt_s h117 (fun _ => zme_118)
  have h119 := lt_s h118 (fun _ => zme_119)
  have h120 := lt_s h119 (fun _ => zme_120)
  have h121 := lt_s h120 (fun _ => zme_121)
  have h122 := lt_s h121 (fun _ => zme_122)
  have h123 := lt_s h122 (fun _ => zme_123)
  have h124 := lt_s h123 (fun _ => zme_124)
  have h125 := lt_s h124 (fun _ => zme_125)
  have h126 := lt_s h125 (fun _ => zme_126)
  have h127 := lt_s h126 (fun _ => zme_127)
  have h128 := lt_s h127 (fun _ => zme_128)
  have h129 := lt_s h128 (fun _ => zme_129)
  have h130 := lt_s h129 (fun _ => zme_130)
  have h131 := lt_s h130 (fun _ => zme_131)
  have h132 := lt_s h131 (fun _ => zme_132)
  have h133 := lt_s h132 (fun _ => zme_133)
  have h134 := lt_s h133 (fun _ => zme_134)
  have h135 := lt_s h134 (fun _ => zme_135)
  have h136 := lt_s h135 (fun _ => zme_136)
  have h137 := lt_s h136 (fun _ => zme_137)
  have h138 := lt_s h137 (fun _ => zme_138)
  have h139 := lt_s h138 (fun _ => zme_139)
  have h140 := lt_s h139 (fun _ => zme_140)
  have h141 := lt_s h140 (fun _ => zme_141)
  have h142 := lt_s h141 (fun _ => zme_142)
  have h143 := lt_s h142 (fun _ => zme_143)
  have h144 := lt_s h143 (fun _ => zme_144)
  have h145 := lt_s h144 (fun _ => zme_145)
  have h146 := lt_s h145 (fun _ => zme_146)
  have h147 := lt_s h146 (fun _ => zme_147)
  have h148 := lt_s h147 (fun _ => zme_148)
  have h149 := lt_s h148 (fun _ => zme_149)
  have h150 := lt_s h149 (fun _ => zme_150)
  have h151 := lt_s h150 (fun _ => zme_151)
  have h152 := lt_s h151 (fun _ => zme_152)
  have h153 := lt_s h152 (fun _ => zme_153)
  have h154 := lt_s h153 (fun _ => zme_154)
  have h155 := lt_s h154 (fun _ => zme_155)
  have h156 := lt_s h155 (fun _ => zme_156)
  have h157 := lt_s h156 (fun _ => zme_157)
  have h158 := lt_s h157 (fun _ => zme_158)
  have h159 := lt_s h158 (fun _ => zme_159)
  have h160 := lt_s h159 (fun _ => zme_160)
  have h161 := lt_s h160 (fun _ => zme_161)
  have h162 := lt_s h161 (fun _ => zme_162)
  have h163 := lt_s h162 (fun _ => zme_163)
  have h164 := lt_s h163 (fun _ => zme_164)
  have h165 := lt_s h164 (fun _ => zme_165)
  have h166 := lt_s h165 (fun _ => zme_166)
  have h167 := lt_s h166 (fun _ => zme_167)
  have h168 := lt_s h167 (fun _ => zme_168)
  have h169 := lt_s h168 (fun _ => zme_169)
  have h170 := lt_s h169 (fun _ => zme_170)
  have h171 := lt_s h170 (fun _ => zme_171)
  have h172 := lt_s h171 (fun _ => zme_172)
  have h173 := lt_s h172 (fun _ => zme_173)
  have h174 := lt_s h173 (fun _ => zme_174)
  have h175 := lt_s h174 (fun _ => zme_175)
  have h176 := lt_s h175 (fun _ => zme_176)
  have h177 := lt_s h176 (fun _ => zme_177)
  have h178 := lt_s h177 (fun _ => zme_178)
  have h179 := lt_s h178 (fun _ => zme_179)
  have h180 := lt_s h179 (fun _ => zme_180)
  have h181 := lt_s h180 (fun _ => zme_181)
  have h182 := lt_s h181 (fun _ => zme_182)
  have h183 := lt_s h182 (fun _ => zme_183)
  have h184 := lt_s h183 (fun _ => zme_184)
  have h185 := lt_s h184 (fun _ => zme_185)
  have h186 := lt_s h185 (fun _ => zme_186)
  have h187 := lt_s h186 (fun _ => zme_187)
  have h188 := lt_s h187 (fun _ => zme_188)
  have h189 := lt_s h188 (fun _ => zme_189)
  have h190 := lt_s h189 (fun _ => zme_190)
  have h191 := lt_s h190 (fun _ => zme_191)
  have h192 := lt_s h191 (fun _ => zme_192)
  have h193 := lt_s h192 (fun _ => zme_193)
  have h194 := lt_s h193 (fun _ => zme_194)
  have h195 := lt_s h194 (fun _ => zme_195)
  have h196 := lt_s h195 (fun _ => zme_196)
  have h197 := lt_s h196 (fun _ => zme_197)
  have h198 := lt_s h197 (fun _ => zme_198)
  have h199 := lt_s h198 (fun _ => zme_199)
  have h200 := lt_s h199 (fun _ => zme_200)
  have h201 := lt_s h200 (fun _ => zme_201)
  have h202 := lt_s h201 (fun _ => zme_202)
  have h203 := lt_s h202 (fun _ => zme_203)
  have h204 := lt_s h203 (fun _ => zme_204)
  have h205 := lt_s h204 (fun _ => zme_205)
  have h206 := lt_s h205 (fun _ => zme_206)
  have h207 := lt_s h206 (fun _ => zme_207)
  have h208 := lt_s h207 (fun _ => zme_208)
  have h209 := lt_s h208 (fun _ => zme_209)
  have h210 := lt_s h209 (fun _ => zme_210)
  have h211 := lt_s h210 (fun _ => zme_211)
  have h212 := lt_s h211 (fun _ => zme_212)
  have h213 := lt_s h212 (fun _ => zme_213)
  have h214 := lt_s h213 (fun _ => zme_214)
  have h215 := lt_s h214 (fun _ => zme_215)
  have h216 := lt_s h215 (fun _ => zme_216)
  have h217 := lt_s h216 (fun _ => zme_217)
  have h218 := lt_s h217 (fun _ => zme_218)
  have h219 := lt_s h218 (fun _ => zme_219)
  have h220 := lt_s h219 (fun _ => zme_220)
  have h221 := lt_s h220 (fun _ => zme_221)
  have h222 := lt_s h221 (fun _ => zme_222)
  have h223 := lt_s h222 (fun _ => zme_223)
  have h224 := lt_s h223 (fun _ => zme_224)
  have h225 := lt_s h224 (fun _ => zme_225)
  exact h225
/-- what a method's row says of itself, decided -/
def zMd (m : Nat) : Bool := plainName (zmn m).cls && decide ((zmn m).cls = zcn (zoc m)) && decide ((zmn m).cls ≠ "java/lang/invoke/MethodHandle" ∧ (zmn m).cls ≠ "java/lang/invoke/VarHandle") && decide ((parseMethodDescriptor (zmn m).desc).map (fun d => d.parameters.length) = some (zna m - (if zkn m = 1 then 0 else 1))) && decide ((zmn m).name = "<init>" ↔ zkn m = 2) && (decide (zkn m = 2 → zrt m = none)) && decide (zkn m ≠ 1 → 1 ≤ zna m) && decide (zml m ≤ 20) && decide (zna m ≤ 6) && decide (zkn m < 3)
set_option maxRecDepth 100000 in
theorem zmd : ∀ m, m < 226 → 0 < m → zMd m = true := by decide +kernel
def zlen1 (i : Instr) (n : Nat) : Bool := match i with
  | .tableswitch _ _ _ _ => true
  | .lookupswitch _ _ => true
  | .aload _ => n == 2
  | .iload _ => n == 2
  | .lload _ => n == 2
  | .astore _ => n == 2
  | .istore _ => n == 2
  | .lstore _ => n == 2
  | .bipush _ => n == 2
  | .ldc _ => n == 2
  | .newarray _ => n == 2
  | .multianewarray _ _ => n == 4
  | .sipush _ => n == 3
  | .ldc_w _ => n == 3
  | .ldc2_w _ => n == 3
  | .iinc _ _ => n == 3
  | .getfield _ => n == 3
  | .putfield _ => n == 3
  | .getstatic _ => n == 3
  | .new _ => n == 3
  | .anewarray _ => n == 3
  | .invokevirtual _ => n == 3
  | .invokestatic _ => n == 3
  | .invokespecial _ => n == 3
  | .goto _ => n == 3
  | .ifCond _ _ => n == 3
  | .if_icmp _ _ => n == 3
  | _ => n == 1
def zaux (oc : Nat) (i : Instr) (a1 a2 : Nat) (ai : Int) : Bool := match i with
  | .getfield x => bif a1 == 90 then oc == 10 && ((a2 == 0 && x == 9) || (!(a2 == 0) && x == 15)) else Nat.blt a1 9 && zFT.contains (oc, x, a1, a2)
  | .putfield x => Nat.blt a1 9 && zFT.contains (oc, x, a1, a2)
  | .getstatic x => (a2 == 0 && oc == 0 && x == 35) || (!(a2 == 0) && oc == 10 && x == 38)
  | .ldc x => bif a1 == 5 then oc == 2 && x == 72 else zKT.contains (oc, x, ai)
  | .ldc_w x => zKT.contains (oc, x, ai)
  | .ldc2_w x => zLT.contains (oc, x, ai)
  | .new x => Nat.blt a1 9 && zNT.contains (oc, x, a1)
  | .anewarray x => oc == 7 && x == 49
  | .multianewarray x n => oc == 2 && x == 15 && n == 2
  | .invokevirtual x => (a1 == 0 && zMT.contains (oc, x, a2) && zkn a2 == 0 && Nat.blt 0 a2 && Nat.blt a2 226) || Nat.blt 6 a1
  | .invokestatic x => (a1 == 0 && zMT.contains (oc, x, a2) && zkn a2 == 1 && Nat.blt 0 a2 && Nat.blt a2 226) || (Nat.blt 1 a1 && Nat.blt a1 5 && zIT.contains (oc, x, a1)) || Nat.blt 6 a1
  | .invokespecial x => (a1 == 0 && zMT.contains (oc, x, a2) && zkn a2 == 2 && Nat.blt 0 a2 && Nat.blt a2 226) || (a1 == 1 && zIT.contains (oc, x, a1)) || (a1 == 6 && zXT.contains (oc, x, a2) && zkn a2 == 2 && Nat.blt 0 a2 && Nat.blt a2 226)
  | .tableswitch _ lo hi os => decide (hi = lo + os.size - 1)
  | .lookupswitch _ ps => (ps.toList.zip (ps.toList.drop 1)).all (fun (a, next) => a.1 < next.1)
  | _ => true
def zokE (m pc : Nat) (e : Option zI) : Bool := match e with
  | none => true
  | some e => decide (decode (zby m) pc = .ok (e.1, e.2.1)) && zlen1 e.1 e.2.1 && zaux (zoc m) e.1 e.2.2.1 e.2.2.2.1 e.2.2.2.2
theorem zchunk {P : Nat → Prop} (a n : Nat) (h : ∀ q, q < n → P (q + a)) (pc : Nat) (h1 : a ≤ pc) (h2 : pc < a + n) : P pc := by
  have := h (pc - a) (by omega)
  rwa [Nat.sub_add_cancel h1] at this
theorem zband {a b : Bool} (h : (a && b) = true) : a = true ∧ b = true := by
  cases a <;> cases b <;> first | exact ⟨rfl, rfl⟩ | cases h
theorem zblt {a b : Nat} (h : b ≤ a) : Nat.blt a b = false := by
  cases g : Nat.blt a b with
  | false => rfl
  | true => exact absurd (Nat.blt_eq.mp g) (by omega)
