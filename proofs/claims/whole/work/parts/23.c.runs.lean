/-! THE START: both constructors (written by wip/whole/start.py) -/
set_option maxRecDepth 100000 in
set_option maxHeartbeats 40000000 in
theorem st_1 {X : zX} {d : Nat} (hd : 0 ≤ d) : zRun X d 60 0 (zent 60 [.ref 1]) [] yq2 none yq34 := by
  refine zr_steps 14 (25, [some (.ref 1), none], [], zwi (zwi (zwi (zwi (yq2) 1 0 (0)) 1 1 (0)) 1 2 (0)) 1 3 (30)) rfl ?_
  show zRun X d 60 25 [some (.ref 1), none] [] (zwi (zwi (zwi (zwi (yq2) 1 0 (0)) 1 1 (0)) 1 2 (0)) 1 3 (30)) _ _
  rw [yq3_e]
  refine zr_steps 13 (46, [some (.ref 1), none], [.ref 3, .ref 1], znew (zwr (znew (zwi (zwi (yq3) 1 4 (0)) 1 5 (0)) (0, 4, [])) 1 6 2) (0, 4, [])) rfl ?_
  show zRun X d 60 46 [some (.ref 1), none] [.ref 3, .ref 1] (znew (zwr (znew (zwi (zwi (yq3) 1 4 (0)) 1 5 (0)) (0, 4, [])) 1 6 2) (0, 4, [])) _ _
  rw [yq4_e]
  refine zr_steps 9 (65, [some (.ref 1), none], [], zwr (znew (zwr (znew (zwr (yq4) 1 7 3) (0, 12, [])) 1 8 4) (0, 12, [])) 1 9 5) rfl ?_
  show zRun X d 60 65 [some (.ref 1), none] [] (zwr (znew (zwr (znew (zwr (yq4) 1 7 3) (0, 12, [])) 1 8 4) (0, 12, [])) 1 9 5) _ _
  rw [yq5_e]
  refine zr_steps 11 (86, [some (.ref 1), none], [.ref 8, .ref 1], znew (zwr (znew (zwr (znew (yq5) (0, 12, [])) 1 10 6) (0, 12, [])) 1 11 7) (0, 8, [])) rfl ?_
  show zRun X d 60 86 [some (.ref 1), none] [.ref 8, .ref 1] (znew (zwr (znew (zwr (znew (yq5) (0, 12, [])) 1 10 6) (0, 12, [])) 1 11 7) (0, 8, [])) _ _
  rw [yq6_e]
  refine zr_steps 9 (105, [some (.ref 1), none], [], zwr (znew (zwr (znew (zwr (yq6) 1 12 8) (0, 8, [])) 1 13 9) (0, 8, [])) 1 14 10) rfl ?_
  show zRun X d 60 105 [some (.ref 1), none] [] (zwr (znew (zwr (znew (zwr (yq6) 1 12 8) (0, 8, [])) 1 13 9) (0, 8, [])) 1 14 10) _ _
  rw [yq7_e]
  refine zr_steps 11 (126, [some (.ref 1), none], [.ref 13, .ref 1], znew (zwr (znew (zwr (znew (yq7) (0, 8, [])) 1 15 11) (0, 8, [])) 1 16 12) (0, 16, [])) rfl ?_
  show zRun X d 60 126 [some (.ref 1), none] [.ref 13, .ref 1] (znew (zwr (znew (zwr (znew (yq7) (0, 8, [])) 1 15 11) (0, 8, [])) 1 16 12) (0, 16, [])) _ _
  rw [yq8_e]
  refine zr_steps 14 (151, [some (.ref 1), some (.int (0))], [.int (-1), .int (0), .ref 13], zwr (znew (zwr (yq8) 1 17 13) (0, 16, [])) 1 18 14) rfl ?_
  show zRun X d 60 151 [some (.ref 1), some (.int (0))] [.int (-1), .int (0), .ref 13] (zwr (znew (zwr (yq8) 1 17 13) (0, 16, [])) 1 18 14) _ _
  rw [yq9_e]
  refine zr_steps 14 (173, [some (.ref 1), some (.int (0))], [], zwi (zwi (yq9) 13 0 (-1)) 14 0 (0)) rfl ?_
  show zRun X d 60 173 [some (.ref 1), some (.int (0))] [] (zwi (zwi (yq9) 13 0 (-1)) 14 0 (0)) _ _
  rw [yq10_e]
  refine zr_steps 14 (158, [some (.ref 1), some (.int (1))], [.int (1), .int (1), .ref 14], zwi (yq10) 13 1 (-1)) rfl ?_
  show zRun X d 60 158 [some (.ref 1), some (.int (1))] [.int (1), .int (1), .ref 14] (zwi (yq10) 13 1 (-1)) _ _
  rw [yq11_e]
  refine zr_steps 14 (146, [some (.ref 1), some (.int (2))], [.ref 1], zwi (yq11) 14 1 (1000000)) rfl ?_
  show zRun X d 60 146 [some (.ref 1), some (.int (2))] [.ref 1] (zwi (yq11) 14 1 (1000000)) _ _
  rw [yq12_e]
  refine zr_steps 14 (170, [some (.ref 1), some (.int (2))], [.int (2), .ref 14], zwi (yq12) 13 2 (-1)) rfl ?_
  show zRun X d 60 170 [some (.ref 1), some (.int (2))] [.int (2), .ref 14] (zwi (yq12) 13 2 (-1)) _ _
  rw [yq13_e]
  refine zr_steps 14 (156, [some (.ref 1), some (.int (3))], [.ref 14], zwi (zwi (yq13) 14 2 (1000000)) 13 3 (-1)) rfl ?_
  show zRun X d 60 156 [some (.ref 1), some (.int (3))] [.ref 14] (zwi (zwi (yq13) 14 2 (1000000)) 13 3 (-1)) _ _
  rw [yq14_e]
  refine zr_steps 14 (142, [some (.ref 1), some (.int (4))], [.int (16), .int (4)], zwi (yq14) 14 3 (1000000)) rfl ?_
  show zRun X d 60 142 [some (.ref 1), some (.int (4))] [.int (16), .int (4)] (zwi (yq14) 14 3 (1000000)) _ _
  rw [yq15_e]
  refine zr_steps 14 (162, [some (.ref 1), some (.int (4))], [.int (4), .int (4), .int (1), .int (4), .ref 14], zwi (yq15) 13 4 (-1)) rfl ?_
  show zRun X d 60 162 [some (.ref 1), some (.int (4))] [.int (4), .int (4), .int (1), .int (4), .ref 14] (zwi (yq15) 13 4 (-1)) _ _
  rw [yq16_e]
  refine zr_steps 14 (152, [some (.ref 1), some (.int (5))], [], zwi (zwi (yq16) 14 4 (1000000)) 13 5 (-1)) rfl ?_
  show zRun X d 60 152 [some (.ref 1), some (.int (5))] [] (zwi (zwi (yq16) 14 4 (1000000)) 13 5 (-1)) _ _
  rw [yq17_e]
  refine zr_steps 14 (176, [some (.ref 1), some (.int (6))], [], zwi (yq17) 14 5 (0)) rfl ?_
  show zRun X d 60 176 [some (.ref 1), some (.int (6))] [] (zwi (yq17) 14 5 (0)) _ _
  rw [yq18_e]
  refine zr_steps 14 (159, [some (.ref 1), some (.int (6))], [.int (4), .int (6), .int (6), .ref 14], zwi (yq18) 13 6 (-1)) rfl ?_
  show zRun X d 60 159 [some (.ref 1), some (.int (6))] [.int (4), .int (6), .int (6), .ref 14] (zwi (yq18) 13 6 (-1)) _ _
  rw [yq19_e]
  refine zr_steps 14 (149, [some (.ref 1), some (.int (7))], [.ref 13], zwi (yq19) 14 6 (1000000)) rfl ?_
  show zRun X d 60 149 [some (.ref 1), some (.int (7))] [.ref 13] (zwi (yq19) 14 6 (1000000)) _ _
  rw [yq20_e]
  refine zr_steps 14 (172, [some (.ref 1), some (.int (7))], [.int (1000000), .int (7), .ref 14], zwi (yq20) 13 7 (-1)) rfl ?_
  show zRun X d 60 172 [some (.ref 1), some (.int (7))] [.int (1000000), .int (7), .ref 14] (zwi (yq20) 13 7 (-1)) _ _
  rw [yq21_e]
  refine zr_steps 14 (157, [some (.ref 1), some (.int (8))], [.int (8), .ref 14], zwi (zwi (yq21) 14 7 (1000000)) 13 8 (-1)) rfl ?_
  show zRun X d 60 157 [some (.ref 1), some (.int (8))] [.int (8), .ref 14] (zwi (zwi (yq21) 14 7 (1000000)) 13 8 (-1)) _ _
  rw [yq22_e]
  refine zr_steps 14 (145, [some (.ref 1), some (.int (9))], [], zwi (yq22) 14 8 (1000000)) rfl ?_
  show zRun X d 60 145 [some (.ref 1), some (.int (9))] [] (zwi (yq22) 14 8 (1000000)) _ _
  rw [yq23_e]
  refine zr_steps 14 (163, [some (.ref 1), some (.int (9))], [.int (1), .int (2), .int (9), .ref 14], zwi (yq23) 13 9 (-1)) rfl ?_
  show zRun X d 60 163 [some (.ref 1), some (.int (9))] [.int (1), .int (2), .int (9), .ref 14] (zwi (yq23) 13 9 (-1)) _ _
  rw [yq24_e]
  refine zr_steps 14 (153, [some (.ref 1), some (.int (10))], [.ref 1], zwi (zwi (yq24) 14 9 (1000000)) 13 10 (-1)) rfl ?_
  show zRun X d 60 153 [some (.ref 1), some (.int (10))] [.ref 1] (zwi (zwi (yq24) 14 9 (1000000)) 13 10 (-1)) _ _
  rw [yq25_e]
  refine zr_steps 14 (139, [some (.ref 1), some (.int (11))], [], zwi (yq25) 14 10 (0)) rfl ?_
  show zRun X d 60 139 [some (.ref 1), some (.int (11))] [] (zwi (yq25) 14 10 (0)) _ _
  rw [yq26_e]
  refine zr_steps 14 (160, [some (.ref 1), some (.int (11))], [.int (2), .int (11), .ref 14], zwi (yq26) 13 11 (-1)) rfl ?_
  show zRun X d 60 160 [some (.ref 1), some (.int (11))] [.int (2), .int (11), .ref 14] (zwi (yq26) 13 11 (-1)) _ _
  rw [yq27_e]
  refine zr_steps 14 (150, [some (.ref 1), some (.int (12))], [.int (12), .ref 13], zwi (yq27) 14 11 (1000000)) rfl ?_
  show zRun X d 60 150 [some (.ref 1), some (.int (12))] [.int (12), .ref 13] (zwi (yq27) 14 11 (1000000)) _ _
  rw [yq28_e]
  refine zr_steps 14 (173, [some (.ref 1), some (.int (12))], [], zwi (zwi (yq28) 13 12 (-1)) 14 12 (1000000)) rfl ?_
  show zRun X d 60 173 [some (.ref 1), some (.int (12))] [] (zwi (zwi (yq28) 13 12 (-1)) 14 12 (1000000)) _ _
  rw [yq29_e]
  refine zr_steps 14 (158, [some (.ref 1), some (.int (13))], [.int (13), .int (13), .ref 14], zwi (yq29) 13 13 (-1)) rfl ?_
  show zRun X d 60 158 [some (.ref 1), some (.int (13))] [.int (13), .int (13), .ref 14] (zwi (yq29) 13 13 (-1)) _ _
  rw [yq30_e]
  refine zr_steps 14 (146, [some (.ref 1), some (.int (14))], [.ref 1], zwi (yq30) 14 13 (1000000)) rfl ?_
  show zRun X d 60 146 [some (.ref 1), some (.int (14))] [.ref 1] (zwi (yq30) 14 13 (1000000)) _ _
  rw [yq31_e]
  refine zr_steps 14 (170, [some (.ref 1), some (.int (14))], [.int (14), .ref 14], zwi (yq31) 13 14 (-1)) rfl ?_
  show zRun X d 60 170 [some (.ref 1), some (.int (14))] [.int (14), .ref 14] (zwi (yq31) 13 14 (-1)) _ _
  rw [yq32_e]
  refine zr_steps 14 (156, [some (.ref 1), some (.int (15))], [.ref 14], zwi (zwi (yq32) 14 14 (1000000)) 13 15 (-1)) rfl ?_
  show zRun X d 60 156 [some (.ref 1), some (.int (15))] [.ref 14] (zwi (zwi (yq32) 14 14 (1000000)) 13 15 (-1)) _ _
  rw [yq33_e]
  refine zr_steps 14 (140, [some (.ref 1), some (.int (16))], [.int (16)], zwi (yq33) 14 15 (0)) rfl ?_
  show zRun X d 60 140 [some (.ref 1), some (.int (16))] [.int (16)] (zwi (yq33) 14 15 (0)) _ _
  rw [yq34_e]
  refine zr_steps 2 (179, [some (.ref 1), some (.int (16))], [], yq34) rfl ?_
  exact zr_one (some (.inr (.inr none))) rfl (zR_ret rfl rfl)
/-! THE START: both constructors (written by wip/whole/start.py) -/
set_option maxRecDepth 100000 in
set_option maxHeartbeats 40000000 in
theorem st_4 {X : zX} {d : Nat} (hd : 1 ≤ d) : zRun X d 35 0 (zent 35 [.ref 24, .ref 1, .ref 15]) [] yq39 none yq50 := by
  refine zr_steps 5 (9, [some (.ref 24), some (.ref 1), some (.ref 15)], [.ref 25, .ref 25, .ref 24], znew (yq39) (16, 9, [none, none, none, none, none, none, none, none, none])) rfl ?_
  show zRun X d 35 9 [some (.ref 24), some (.ref 1), some (.ref 15)] [.ref 25, .ref 25, .ref 24] (znew (yq39) (16, 9, [none, none, none, none, none, none, none, none, none])) _ _
  rw [yq40_e]
  refine zr_one (some (.inr (.inl (80, [.ref 25], [.ref 25, .ref 24], 12)))) rfl (zR_call (by omega) rfl (st_3 (by omega)) ?_)
  show zRun X d 35 12 [some (.ref 24), some (.ref 1), some (.ref 15)] [.ref 25, .ref 24] yq43 _ _
  refine zr_steps 9 (31, [some (.ref 24), some (.ref 1), some (.ref 15)], [], zwr (znew (zwr (znew (zwr (yq43) 24 2 25) (0, 32, [])) 24 3 28) (0, 32, [])) 24 4 29) rfl ?_
  show zRun X d 35 31 [some (.ref 24), some (.ref 1), some (.ref 15)] [] (zwr (znew (zwr (znew (zwr (yq43) 24 2 25) (0, 32, [])) 24 3 28) (0, 32, [])) 24 4 29) _ _
  rw [yq44_e]
  refine zr_steps 11 (52, [some (.ref 24), some (.ref 1), some (.ref 15)], [.ref 32, .ref 24], znew (zwr (znew (zwr (znew (yq44) (0, 32, [])) 24 5 30) (0, 4, [])) 24 6 31) (0, 1952, [])) rfl ?_
  show zRun X d 35 52 [some (.ref 24), some (.ref 1), some (.ref 15)] [.ref 32, .ref 24] (znew (zwr (znew (zwr (znew (yq44) (0, 32, [])) 24 5 30) (0, 4, [])) 24 6 31) (0, 1952, [])) _ _
  rw [yq45_e]
  refine zr_steps 9 (73, [some (.ref 24), some (.ref 1), some (.ref 15)], [], zwr (znew (zwr (znew (zwr (yq45) 24 7 32) (0, 1952, [])) 24 8 33) (0, 240, [])) 24 9 34) rfl ?_
  show zRun X d 35 73 [some (.ref 24), some (.ref 1), some (.ref 15)] [] (zwr (znew (zwr (znew (zwr (yq45) 24 7 32) (0, 1952, [])) 24 8 33) (0, 240, [])) 24 9 34) _ _
  rw [yq46_e]
  refine zr_steps 11 (94, [some (.ref 24), some (.ref 1), some (.ref 15)], [], zwi (zwr (znew (zwr (znew (yq46) (0, 24, [])) 24 10 35) (0, 8, [])) 24 11 36) 24 12 (0)) rfl ?_
  show zRun X d 35 94 [some (.ref 24), some (.ref 1), some (.ref 15)] [] (zwi (zwr (znew (zwr (znew (yq46) (0, 24, [])) 24 10 35) (0, 8, [])) 24 11 36) 24 12 (0)) _ _
  rw [yq47_e]
  refine zr_steps 13 (116, [some (.ref 24), some (.ref 1), some (.ref 15)], [], zwi (zwr (znew (zwi (zwi (yq47) 24 13 (0)) 24 14 (0)) (0, 4, [])) 24 15 37) 24 16 (0)) rfl ?_
  show zRun X d 35 116 [some (.ref 24), some (.ref 1), some (.ref 15)] [] (zwi (zwr (znew (zwi (zwi (yq47) 24 13 (0)) 24 14 (0)) (0, 4, [])) 24 15 37) 24 16 (0)) _ _
  rw [yq48_e]
  refine zr_steps 14 (138, [some (.ref 24), some (.ref 1), some (.ref 15)], [.ref 15, .ref 24], zwr (zwi (zwi (zwi (yq48) 24 17 (0)) 24 18 (0)) 24 19 (0)) 24 0 1) rfl ?_
  show zRun X d 35 138 [some (.ref 24), some (.ref 1), some (.ref 15)] [.ref 15, .ref 24] (zwr (zwi (zwi (zwi (yq48) 24 17 (0)) 24 18 (0)) 24 19 (0)) 24 0 1) _ _
  rw [yq49_e]
  refine zr_steps 1 (141, [some (.ref 24), some (.ref 1), some (.ref 15)], [], zwr (yq49) 24 1 15) rfl ?_
  show zRun X d 35 141 [some (.ref 24), some (.ref 1), some (.ref 15)] [] (zwr (yq49) 24 1 15) _ _
  rw [yq50_e]
  exact zr_one (some (.inr (.inr none))) rfl (zR_ret rfl rfl)
/-! THE START: both constructors (written by wip/whole/start.py) -/
set_option maxRecDepth 100000 in
set_option maxHeartbeats 40000000 in
theorem st_6 {X : zX} {d : Nat} (hd : 1 ≤ d) : zRun X d 35 0 (zent 35 [.ref 38, .ref 1, .ref 15]) [] yq51 none yq62 := by
  refine zr_steps 5 (9, [some (.ref 38), some (.ref 1), some (.ref 15)], [.ref 39, .ref 39, .ref 38], znew (yq51) (16, 9, [none, none, none, none, none, none, none, none, none])) rfl ?_
  show zRun X d 35 9 [some (.ref 38), some (.ref 1), some (.ref 15)] [.ref 39, .ref 39, .ref 38] (znew (yq51) (16, 9, [none, none, none, none, none, none, none, none, none])) _ _
  rw [yq52_e]
  refine zr_one (some (.inr (.inl (80, [.ref 39], [.ref 39, .ref 38], 12)))) rfl (zR_call (by omega) rfl (st_5 (by omega)) ?_)
  show zRun X d 35 12 [some (.ref 38), some (.ref 1), some (.ref 15)] [.ref 39, .ref 38] yq55 _ _
  refine zr_steps 9 (31, [some (.ref 38), some (.ref 1), some (.ref 15)], [], zwr (znew (zwr (znew (zwr (yq55) 38 2 39) (0, 32, [])) 38 3 42) (0, 32, [])) 38 4 43) rfl ?_
  show zRun X d 35 31 [some (.ref 38), some (.ref 1), some (.ref 15)] [] (zwr (znew (zwr (znew (zwr (yq55) 38 2 39) (0, 32, [])) 38 3 42) (0, 32, [])) 38 4 43) _ _
  rw [yq56_e]
  refine zr_steps 11 (52, [some (.ref 38), some (.ref 1), some (.ref 15)], [.ref 46, .ref 38], znew (zwr (znew (zwr (znew (yq56) (0, 32, [])) 38 5 44) (0, 4, [])) 38 6 45) (0, 1952, [])) rfl ?_
  show zRun X d 35 52 [some (.ref 38), some (.ref 1), some (.ref 15)] [.ref 46, .ref 38] (znew (zwr (znew (zwr (znew (yq56) (0, 32, [])) 38 5 44) (0, 4, [])) 38 6 45) (0, 1952, [])) _ _
  rw [yq57_e]
  refine zr_steps 9 (73, [some (.ref 38), some (.ref 1), some (.ref 15)], [], zwr (znew (zwr (znew (zwr (yq57) 38 7 46) (0, 1952, [])) 38 8 47) (0, 240, [])) 38 9 48) rfl ?_
  show zRun X d 35 73 [some (.ref 38), some (.ref 1), some (.ref 15)] [] (zwr (znew (zwr (znew (zwr (yq57) 38 7 46) (0, 1952, [])) 38 8 47) (0, 240, [])) 38 9 48) _ _
  rw [yq58_e]
  refine zr_steps 11 (94, [some (.ref 38), some (.ref 1), some (.ref 15)], [], zwi (zwr (znew (zwr (znew (yq58) (0, 24, [])) 38 10 49) (0, 8, [])) 38 11 50) 38 12 (0)) rfl ?_
  show zRun X d 35 94 [some (.ref 38), some (.ref 1), some (.ref 15)] [] (zwi (zwr (znew (zwr (znew (yq58) (0, 24, [])) 38 10 49) (0, 8, [])) 38 11 50) 38 12 (0)) _ _
  rw [yq59_e]
  refine zr_steps 13 (116, [some (.ref 38), some (.ref 1), some (.ref 15)], [], zwi (zwr (znew (zwi (zwi (yq59) 38 13 (0)) 38 14 (0)) (0, 4, [])) 38 15 51) 38 16 (0)) rfl ?_
  show zRun X d 35 116 [some (.ref 38), some (.ref 1), some (.ref 15)] [] (zwi (zwr (znew (zwi (zwi (yq59) 38 13 (0)) 38 14 (0)) (0, 4, [])) 38 15 51) 38 16 (0)) _ _
  rw [yq60_e]
  refine zr_steps 14 (138, [some (.ref 38), some (.ref 1), some (.ref 15)], [.ref 15, .ref 38], zwr (zwi (zwi (zwi (yq60) 38 17 (0)) 38 18 (0)) 38 19 (0)) 38 0 1) rfl ?_
  show zRun X d 35 138 [some (.ref 38), some (.ref 1), some (.ref 15)] [.ref 15, .ref 38] (zwr (zwi (zwi (zwi (yq60) 38 17 (0)) 38 18 (0)) 38 19 (0)) 38 0 1) _ _
  rw [yq61_e]
  refine zr_steps 1 (141, [some (.ref 38), some (.ref 1), some (.ref 15)], [], zwr (yq61) 38 1 15) rfl ?_
  show zRun X d 35 141 [some (.ref 38), some (.ref 1), some (.ref 15)] [] (zwr (yq61) 38 1 15) _ _
  rw [yq62_e]
  exact zr_one (some (.inr (.inr none))) rfl (zR_ret rfl rfl)
