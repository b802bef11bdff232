/-! THE START: both constructors (written by wip/whole/start.py) -/
set_option maxRecDepth 100000 in
set_option maxHeartbeats 40000000 in
theorem st_16 {X : zX} {d : Nat} (hd : 0 ≤ d) : zRun X d 128 0 (zent 128 [.ref 73]) [] yq89 none yq108 := by
  refine zr_steps 13 (23, [some (.ref 73)], [.ref 76, .ref 73], znew (zwr (znew (zwr (znew (yq89) (0, 4, [])) 73 2 74) (0, 4, [])) 73 3 75) (0, 12, [])) rfl ?_
  show zRun X d 128 23 [some (.ref 73)] [.ref 76, .ref 73] (znew (zwr (znew (zwr (znew (yq89) (0, 4, [])) 73 2 74) (0, 4, [])) 73 3 75) (0, 12, [])) _ _
  rw [yq90_e]
  refine zr_steps 9 (42, [some (.ref 73)], [], zwr (znew (zwr (znew (zwr (yq90) 73 5 76) (0, 12, [])) 73 6 77) (0, 12, [])) 73 7 78) rfl ?_
  show zRun X d 128 42 [some (.ref 73)] [] (zwr (znew (zwr (znew (zwr (yq90) 73 5 76) (0, 12, [])) 73 6 77) (0, 12, [])) 73 7 78) _ _
  rw [yq91_e]
  refine zr_steps 11 (63, [some (.ref 73)], [.ref 81, .ref 73], znew (zwr (znew (zwr (znew (yq91) (0, 12, [])) 73 8 79) (0, 8, [])) 73 10 80) (0, 8, [])) rfl ?_
  show zRun X d 128 63 [some (.ref 73)] [.ref 81, .ref 73] (znew (zwr (znew (zwr (znew (yq91) (0, 12, [])) 73 8 79) (0, 8, [])) 73 10 80) (0, 8, [])) _ _
  rw [yq92_e]
  refine zr_steps 9 (82, [some (.ref 73)], [], zwr (znew (zwr (znew (zwr (yq92) 73 11 81) (0, 8, [])) 73 12 82) (0, 8, [])) 73 13 83) rfl ?_
  show zRun X d 128 82 [some (.ref 73)] [] (zwr (znew (zwr (znew (zwr (yq92) 73 11 81) (0, 8, [])) 73 12 82) (0, 8, [])) 73 13 83) _ _
  rw [yq93_e]
  refine zr_steps 11 (104, [some (.ref 73)], [], zwr (znew (zwi (zwr (znew (yq93) (0, 8, [])) 73 14 84) 73 15 (30)) (1, 120, [])) 73 18 85) rfl ?_
  show zRun X d 128 104 [some (.ref 73)] [] (zwr (znew (zwi (zwr (znew (yq93) (0, 8, [])) 73 14 84) 73 15 (30)) (1, 120, [])) 73 18 85) _ _
  rw [yq94_e]
  refine zr_steps 11 (126, [some (.ref 73)], [.ref 88, .ref 73], znew (zwr (znew (zwr (znew (yq94) (1, 650, [])) 73 24 86) (0, 650, [])) 73 25 87) (0, 5, [])) rfl ?_
  show zRun X d 128 126 [some (.ref 73)] [.ref 88, .ref 73] (znew (zwr (znew (zwr (znew (yq94) (1, 650, [])) 73 24 86) (0, 650, [])) 73 25 87) (0, 5, [])) _ _
  rw [yq95_e]
  refine zr_steps 9 (147, [some (.ref 73)], [], zwr (znew (zwr (znew (zwr (yq95) 73 26 88) (2, 305, [])) 73 27 89) (2, 305, [])) 73 28 90) rfl ?_
  show zRun X d 128 147 [some (.ref 73)] [] (zwr (znew (zwr (znew (zwr (yq95) 73 26 88) (2, 305, [])) 73 27 89) (2, 305, [])) 73 28 90) _ _
  rw [yq96_e]
  refine zr_steps 11 (169, [some (.ref 73)], [.ref 93, .ref 73], znew (zwr (znew (zwr (znew (yq96) (0, 8, [])) 73 29 91) (0, 130, [])) 73 30 92) (0, 40, [])) rfl ?_
  show zRun X d 128 169 [some (.ref 73)] [.ref 93, .ref 73] (znew (zwr (znew (zwr (znew (yq96) (0, 8, [])) 73 29 91) (0, 130, [])) 73 30 92) (0, 40, [])) _ _
  rw [yq97_e]
  refine zr_steps 9 (188, [some (.ref 73)], [], zwr (znew (zwr (znew (zwr (yq97) 73 34 93) (0, 40, [])) 73 35 94) (0, 40, [])) 73 36 95) rfl ?_
  show zRun X d 128 188 [some (.ref 73)] [] (zwr (znew (zwr (znew (zwr (yq97) 73 34 93) (0, 40, [])) 73 35 94) (0, 40, [])) 73 36 95) _ _
  rw [yq98_e]
  refine zr_steps 11 (209, [some (.ref 73)], [.ref 98, .ref 73], znew (zwr (znew (zwr (znew (yq98) (0, 40, [])) 73 37 96) (0, 32, [])) 73 38 97) (0, 32, [])) rfl ?_
  show zRun X d 128 209 [some (.ref 73)] [.ref 98, .ref 73] (znew (zwr (znew (zwr (znew (yq98) (0, 40, [])) 73 37 96) (0, 32, [])) 73 38 97) (0, 32, [])) _ _
  rw [yq99_e]
  refine zr_steps 9 (230, [some (.ref 73)], [], zwr (znew (zwr (znew (zwr (yq99) 73 39 98) (0, 4864, [])) 73 40 99) (0, 1952, [])) 73 41 100) rfl ?_
  show zRun X d 128 230 [some (.ref 73)] [] (zwr (znew (zwr (znew (zwr (yq99) 73 39 98) (0, 4864, [])) 73 40 99) (0, 1952, [])) 73 41 100) _ _
  rw [yq100_e]
  refine zr_steps 11 (251, [some (.ref 73)], [.ref 103, .ref 73], znew (zwr (znew (zwr (znew (yq100) (0, 240, [])) 73 42 101) (0, 24, [])) 73 43 102) (0, 4, [])) rfl ?_
  show zRun X d 128 251 [some (.ref 73)] [.ref 103, .ref 73] (znew (zwr (znew (zwr (znew (yq100) (0, 240, [])) 73 42 101) (0, 24, [])) 73 43 102) (0, 4, [])) _ _
  rw [yq101_e]
  refine zr_steps 13 (275, [some (.ref 73)], [.ref 104, .ref 73], znew (zwi (zwi (zwi (zwr (yq101) 73 44 103) 73 47 (-1)) 73 50 (-1)) 73 55 (-1)) (0, 1952, [])) rfl ?_
  show zRun X d 128 275 [some (.ref 73)] [.ref 104, .ref 73] (znew (zwi (zwi (zwi (zwr (yq101) 73 44 103) 73 47 (-1)) 73 50 (-1)) 73 55 (-1)) (0, 1952, [])) _ _
  rw [yq102_e]
  refine zr_steps 9 (292, [some (.ref 73)], [], zwr (znew (zwr (znew (zwr (yq102) 73 62 104) (0, 4, [])) 73 63 105) (0, 4, [])) 73 64 106) rfl ?_
  show zRun X d 128 292 [some (.ref 73)] [] (zwr (znew (zwr (znew (zwr (yq102) 73 62 104) (0, 4, [])) 73 63 105) (0, 4, [])) 73 64 106) _ _
  rw [yq103_e]
  refine zr_steps 11 (313, [some (.ref 73)], [.ref 109, .ref 73], znew (zwr (znew (zwr (znew (yq103) (0, 8, [])) 73 65 107) (0, 50, [])) 73 67 108) (0, 24, [])) rfl ?_
  show zRun X d 128 313 [some (.ref 73)] [.ref 109, .ref 73] (znew (zwr (znew (zwr (znew (yq103) (0, 8, [])) 73 65 107) (0, 50, [])) 73 67 108) (0, 24, [])) _ _
  rw [yq104_e]
  refine zr_steps 14 (331, [some (.ref 73)], [.int (2), .ref 110, .ref 110, .ref 73], zwi (zwi (znew (zwr (yq104) 73 69 109) (0, 6, [])) 110 0 (-1)) 110 1 (-1)) rfl ?_
  show zRun X d 128 331 [some (.ref 73)] [.int (2), .ref 110, .ref 110, .ref 73] (zwi (zwi (znew (zwr (yq104) 73 69 109) (0, 6, [])) 110 0 (-1)) 110 1 (-1)) _ _
  rw [yq105_e]
  refine zr_steps 14 (345, [some (.ref 73)], [.ref 110, .ref 73], zwi (zwi (zwi (zwi (yq105) 110 2 (-1)) 110 3 (-1)) 110 4 (-1)) 110 5 (-1)) rfl ?_
  show zRun X d 128 345 [some (.ref 73)] [.ref 110, .ref 73] (zwi (zwi (zwi (zwi (yq105) 110 2 (-1)) 110 3 (-1)) 110 4 (-1)) 110 5 (-1)) _ _
  rw [yq106_e]
  refine zr_steps 9 (365, [some (.ref 73)], [], zwr (znew (zwr (znew (zwr (yq106) 73 70 110) (0, 6, [])) 73 71 111) (3, 360, [])) 73 72 112) rfl ?_
  show zRun X d 128 365 [some (.ref 73)] [] (zwr (znew (zwr (znew (zwr (yq106) 73 70 110) (0, 6, [])) 73 71 111) (3, 360, [])) 73 72 112) _ _
  rw [yq107_e]
  refine zr_steps 4 (373, [some (.ref 73)], [], zwr (znew (yq107) (3, 60, [])) 73 73 113) rfl ?_
  show zRun X d 128 373 [some (.ref 73)] [] (zwr (znew (yq107) (3, 60, [])) 73 73 113) _ _
  rw [yq108_e]
  exact zr_one (some (.inr (.inr none))) rfl (zR_ret rfl rfl)
/-! THE START: both constructors (written by wip/whole/start.py) -/
set_option maxRecDepth 100000 in
set_option maxHeartbeats 40000000 in
theorem st_main {X : zX} {d : Nat} (hd : 9 ≤ d) {r : Option Value} {M' : zM} (w : zRun X d 0 18 [some (.ref 1000), some (.ref 0), some (.ref 73), some (.int (0))] [] yq108 r M') : zRun X d 0 0 (zent 0 [.ref 1000]) [] zM0 r M' := by
  refine zr_steps 2 (4, [some (.ref 1000), none, none, none], [.ref 0, .ref 0], znew (zM0) (17, 8, [none, none, none, none, none, none, none, none])) rfl ?_
  show zRun X d 0 4 [some (.ref 1000), none, none, none] [.ref 0, .ref 0] (znew (zM0) (17, 8, [none, none, none, none, none, none, none, none])) _ _
  rw [yq1_e]
  refine zr_one (some (.inr (.inl (85, [.ref 0], [.ref 0], 7)))) rfl (zR_call (by omega) rfl (st_15 (by omega)) ?_)
  show zRun X d 0 7 [some (.ref 1000), none, none, none] [.ref 0] yq88 _ _
  refine zr_steps 3 (12, [some (.ref 1000), some (.ref 0), none, none], [.ref 73, .ref 73], znew (yq88) (18, 74, [none, none, none, none, none, none, none, none, none, none, none, none, none, none, none, none, none, none, none, none, none, none, none, none, none, none, none, none, none, none, none, none, none, none, none, none, none, none, none, none, none, none, none, none, none, none, none, none, none, none, none, none, none, none, none, none, none, none, none, none, none, none, none, none, none, none, none, none, none, none, none, none, none, none])) rfl ?_
  show zRun X d 0 12 [some (.ref 1000), some (.ref 0), none, none] [.ref 73, .ref 73] (znew (yq88) (18, 74, [none, none, none, none, none, none, none, none, none, none, none, none, none, none, none, none, none, none, none, none, none, none, none, none, none, none, none, none, none, none, none, none, none, none, none, none, none, none, none, none, none, none, none, none, none, none, none, none, none, none, none, none, none, none, none, none, none, none, none, none, none, none, none, none, none, none, none, none, none, none, none, none, none, none])) _ _
  rw [yq89_e]
  refine zr_one (some (.inr (.inl (128, [.ref 73], [.ref 73], 15)))) rfl (zR_call (by omega) rfl (st_16 (by omega)) ?_)
  show zRun X d 0 15 [some (.ref 1000), some (.ref 0), none, none] [.ref 73] yq108 _ _
  refine zr_steps 3 (18, [some (.ref 1000), some (.ref 0), some (.ref 73), some (.int (0))], [], yq108) rfl ?_
  exact w
