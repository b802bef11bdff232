/-! THE START: both constructors (written by wip/whole/start.py) -/
set_option maxRecDepth 100000 in
set_option maxHeartbeats 40000000 in
theorem st_2 {X : zX} {d : Nat} (hd : 0 ≤ d) : zRun X d 17 0 (zent 17 [.ref 15]) [] yq35 none yq38 := by
  refine zr_steps 14 (27, [some (.ref 15)], [.ref 22, .ref 15], znew (zwr (znews (zwr (znew (yq35) (0, 120, [])) 15 0 16) [(5, 4, [some 18, some 19, some 20, some 21]), (0, 121, []), (0, 121, []), (0, 121, []), (0, 121, [])]) 15 1 17) (0, 4, [])) rfl ?_
  show zRun X d 17 27 [some (.ref 15)] [.ref 22, .ref 15] (znew (zwr (znews (zwr (znew (yq35) (0, 120, [])) 15 0 16) [(5, 4, [some 18, some 19, some 20, some 21]), (0, 121, []), (0, 121, []), (0, 121, []), (0, 121, [])]) 15 1 17) (0, 4, [])) _ _
  rw [yq36_e]
  refine zr_steps 11 (48, [some (.ref 15)], [], zwi (zwi (zwr (znew (zwr (yq36) 15 2 22) (0, 64, [])) 15 3 23) 15 4 (0)) 15 5 (0)) rfl ?_
  show zRun X d 17 48 [some (.ref 15)] [] (zwi (zwi (zwr (znew (zwr (yq36) 15 2 22) (0, 64, [])) 15 3 23) 15 4 (0)) 15 5 (0)) _ _
  rw [yq37_e]
  refine zr_steps 6 (58, [some (.ref 15)], [], zwi (zwi (yq37) 15 6 (0)) 15 7 (0)) rfl ?_
  show zRun X d 17 58 [some (.ref 15)] [] (zwi (zwi (yq37) 15 6 (0)) 15 7 (0)) _ _
  rw [yq38_e]
  exact zr_one (some (.inr (.inr none))) rfl (zR_ret rfl rfl)
/-! THE START: both constructors (written by wip/whole/start.py) -/
set_option maxRecDepth 100000 in
set_option maxHeartbeats 40000000 in
theorem st_3 {X : zX} {d : Nat} (hd : 0 ≤ d) : zRun X d 80 0 (zent 80 [.ref 25]) [] yq40 none yq43 := by
  refine zr_steps 14 (24, [some (.ref 25)], [], zwi (zwi (zwi (zwi (yq40) 25 0 (1)) 25 1 (0)) 25 2 (0)) 25 3 (0)) rfl ?_
  show zRun X d 80 24 [some (.ref 25)] [] (zwi (zwi (zwi (zwi (yq40) 25 0 (1)) 25 1 (0)) 25 2 (0)) 25 3 (0)) _ _
  rw [yq41_e]
  refine zr_steps 13 (47, [some (.ref 25)], [], zwr (znew (zwi (zwi (zwi (yq41) 25 4 (-1)) 25 5 (0)) 25 6 (0)) (0, 8, [])) 25 7 26) rfl ?_
  show zRun X d 80 47 [some (.ref 25)] [] (zwr (znew (zwi (zwi (zwi (yq41) 25 4 (-1)) 25 5 (0)) 25 6 (0)) (0, 8, [])) 25 7 26) _ _
  rw [yq42_e]
  refine zr_steps 4 (55, [some (.ref 25)], [], zwr (znew (yq42) (0, 8, [])) 25 8 27) rfl ?_
  show zRun X d 80 55 [some (.ref 25)] [] (zwr (znew (yq42) (0, 8, [])) 25 8 27) _ _
  rw [yq43_e]
  exact zr_one (some (.inr (.inr none))) rfl (zR_ret rfl rfl)
/-! THE START: both constructors (written by wip/whole/start.py) -/
set_option maxRecDepth 100000 in
set_option maxHeartbeats 40000000 in
theorem st_5 {X : zX} {d : Nat} (hd : 0 ≤ d) : zRun X d 80 0 (zent 80 [.ref 39]) [] yq52 none yq55 := by
  refine zr_steps 14 (24, [some (.ref 39)], [], zwi (zwi (zwi (zwi (yq52) 39 0 (1)) 39 1 (0)) 39 2 (0)) 39 3 (0)) rfl ?_
  show zRun X d 80 24 [some (.ref 39)] [] (zwi (zwi (zwi (zwi (yq52) 39 0 (1)) 39 1 (0)) 39 2 (0)) 39 3 (0)) _ _
  rw [yq53_e]
  refine zr_steps 13 (47, [some (.ref 39)], [], zwr (znew (zwi (zwi (zwi (yq53) 39 4 (-1)) 39 5 (0)) 39 6 (0)) (0, 8, [])) 39 7 40) rfl ?_
  show zRun X d 80 47 [some (.ref 39)] [] (zwr (znew (zwi (zwi (zwi (yq53) 39 4 (-1)) 39 5 (0)) 39 6 (0)) (0, 8, [])) 39 7 40) _ _
  rw [yq54_e]
  refine zr_steps 4 (55, [some (.ref 39)], [], zwr (znew (yq54) (0, 8, [])) 39 8 41) rfl ?_
  show zRun X d 80 55 [some (.ref 39)] [] (zwr (znew (yq54) (0, 8, [])) 39 8 41) _ _
  rw [yq55_e]
  exact zr_one (some (.inr (.inr none))) rfl (zR_ret rfl rfl)
/-! THE START: both constructors (written by wip/whole/start.py) -/
set_option maxRecDepth 100000 in
set_option maxHeartbeats 40000000 in
theorem st_7 {X : zX} {d : Nat} (hd : 0 ≤ d) : zRun X d 12 0 (zent 12 [.ref 52]) [] yq63 none yq65 := by
  refine zr_steps 13 (25, [some (.ref 52)], [.ref 55, .ref 52], znew (zwr (znew (zwr (znew (yq63) (0, 40, [])) 52 0 53) (0, 40, [])) 52 1 54) (0, 40, [])) rfl ?_
  show zRun X d 12 25 [some (.ref 52)] [.ref 55, .ref 52] (znew (zwr (znew (zwr (znew (yq63) (0, 40, [])) 52 0 53) (0, 40, [])) 52 1 54) (0, 40, [])) _ _
  rw [yq64_e]
  refine zr_steps 11 (46, [some (.ref 52)], [], zwi (zwi (zwr (znew (zwr (yq64) 52 2 55) (0, 40, [])) 52 3 56) 52 4 (0)) 52 5 (0)) rfl ?_
  show zRun X d 12 46 [some (.ref 52)] [] (zwi (zwi (zwr (znew (zwr (yq64) 52 2 55) (0, 40, [])) 52 3 56) 52 4 (0)) 52 5 (0)) _ _
  rw [yq65_e]
  exact zr_one (some (.inr (.inr none))) rfl (zR_ret rfl rfl)
/-! THE START: both constructors (written by wip/whole/start.py) -/
set_option maxRecDepth 100000 in
set_option maxHeartbeats 40000000 in
theorem st_8 {X : zX} {d : Nat} (hd : 0 ≤ d) : zRun X d 1 0 (zent 1 [.ref 57]) [] yq66 none yq68 := by
  refine zr_steps 13 (25, [some (.ref 57)], [], zwi (zwr (znew (zwr (znew (yq66) (0, 50, [])) 57 0 58) (0, 24, [])) 57 1 59) 57 2 (0)) rfl ?_
  show zRun X d 1 25 [some (.ref 57)] [] (zwi (zwr (znew (zwr (znew (yq66) (0, 50, [])) 57 0 58) (0, 24, [])) 57 1 59) 57 2 (0)) _ _
  rw [yq67_e]
  refine zr_steps 9 (40, [some (.ref 57)], [], zwi (zwi (zwi (yq67) 57 3 (0)) 57 4 (0)) 57 5 (0)) rfl ?_
  show zRun X d 1 40 [some (.ref 57)] [] (zwi (zwi (zwi (yq67) 57 3 (0)) 57 4 (0)) 57 5 (0)) _ _
  rw [yq68_e]
  exact zr_one (some (.inr (.inr none))) rfl (zR_ret rfl rfl)
/-! THE START: both constructors (written by wip/whole/start.py) -/
set_option maxRecDepth 100000 in
set_option maxHeartbeats 40000000 in
theorem st_9 {X : zX} {d : Nat} (hd : 0 ≤ d) : zRun X d 50 0 (zent 50 [.ref 61]) [] yq70 none yq72 := by
  refine zr_steps 14 (24, [some (.ref 61)], [.ref 62, .ref 61], znew (zwi (zwi (zwi (yq70) 61 0 (-1)) 61 1 (-1)) 61 2 (0)) (3, 60, [])) rfl ?_
  show zRun X d 50 24 [some (.ref 61)] [.ref 62, .ref 61] (znew (zwi (zwi (zwi (yq70) 61 0 (-1)) 61 1 (-1)) 61 2 (0)) (3, 60, [])) _ _
  rw [yq71_e]
  refine zr_steps 1 (27, [some (.ref 61)], [], zwr (yq71) 61 3 62) rfl ?_
  show zRun X d 50 27 [some (.ref 61)] [] (zwr (yq71) 61 3 62) _ _
  rw [yq72_e]
  exact zr_one (some (.inr (.inr none))) rfl (zR_ret rfl rfl)
/-! THE START: both constructors (written by wip/whole/start.py) -/
set_option maxRecDepth 100000 in
set_option maxHeartbeats 40000000 in
theorem st_10 {X : zX} {d : Nat} (hd : 0 ≤ d) : zRun X d 50 0 (zent 50 [.ref 63]) [] yq73 none yq75 := by
  refine zr_steps 14 (24, [some (.ref 63)], [.ref 64, .ref 63], znew (zwi (zwi (zwi (yq73) 63 0 (-1)) 63 1 (-1)) 63 2 (0)) (3, 60, [])) rfl ?_
  show zRun X d 50 24 [some (.ref 63)] [.ref 64, .ref 63] (znew (zwi (zwi (zwi (yq73) 63 0 (-1)) 63 1 (-1)) 63 2 (0)) (3, 60, [])) _ _
  rw [yq74_e]
  refine zr_steps 1 (27, [some (.ref 63)], [], zwr (yq74) 63 3 64) rfl ?_
  show zRun X d 50 27 [some (.ref 63)] [] (zwr (yq74) 63 3 64) _ _
  rw [yq75_e]
  exact zr_one (some (.inr (.inr none))) rfl (zR_ret rfl rfl)
/-! THE START: both constructors (written by wip/whole/start.py) -/
set_option maxRecDepth 100000 in
set_option maxHeartbeats 40000000 in
theorem st_11 {X : zX} {d : Nat} (hd : 0 ≤ d) : zRun X d 50 0 (zent 50 [.ref 65]) [] yq76 none yq78 := by
  refine zr_steps 14 (24, [some (.ref 65)], [.ref 66, .ref 65], znew (zwi (zwi (zwi (yq76) 65 0 (-1)) 65 1 (-1)) 65 2 (0)) (3, 60, [])) rfl ?_
  show zRun X d 50 24 [some (.ref 65)] [.ref 66, .ref 65] (znew (zwi (zwi (zwi (yq76) 65 0 (-1)) 65 1 (-1)) 65 2 (0)) (3, 60, [])) _ _
  rw [yq77_e]
  refine zr_steps 1 (27, [some (.ref 65)], [], zwr (yq77) 65 3 66) rfl ?_
  show zRun X d 50 27 [some (.ref 65)] [] (zwr (yq77) 65 3 66) _ _
  rw [yq78_e]
  exact zr_one (some (.inr (.inr none))) rfl (zR_ret rfl rfl)
/-! THE START: both constructors (written by wip/whole/start.py) -/
set_option maxRecDepth 100000 in
set_option maxHeartbeats 40000000 in
theorem st_12 {X : zX} {d : Nat} (hd : 0 ≤ d) : zRun X d 50 0 (zent 50 [.ref 67]) [] yq79 none yq81 := by
  refine zr_steps 14 (24, [some (.ref 67)], [.ref 68, .ref 67], znew (zwi (zwi (zwi (yq79) 67 0 (-1)) 67 1 (-1)) 67 2 (0)) (3, 60, [])) rfl ?_
  show zRun X d 50 24 [some (.ref 67)] [.ref 68, .ref 67] (znew (zwi (zwi (zwi (yq79) 67 0 (-1)) 67 1 (-1)) 67 2 (0)) (3, 60, [])) _ _
  rw [yq80_e]
  refine zr_steps 1 (27, [some (.ref 67)], [], zwr (yq80) 67 3 68) rfl ?_
  show zRun X d 50 27 [some (.ref 67)] [] (zwr (yq80) 67 3 68) _ _
  rw [yq81_e]
  exact zr_one (some (.inr (.inr none))) rfl (zR_ret rfl rfl)
/-! THE START: both constructors (written by wip/whole/start.py) -/
set_option maxRecDepth 100000 in
set_option maxHeartbeats 40000000 in
theorem st_13 {X : zX} {d : Nat} (hd : 0 ≤ d) : zRun X d 50 0 (zent 50 [.ref 69]) [] yq82 none yq84 := by
  refine zr_steps 14 (24, [some (.ref 69)], [.ref 70, .ref 69], znew (zwi (zwi (zwi (yq82) 69 0 (-1)) 69 1 (-1)) 69 2 (0)) (3, 60, [])) rfl ?_
  show zRun X d 50 24 [some (.ref 69)] [.ref 70, .ref 69] (znew (zwi (zwi (zwi (yq82) 69 0 (-1)) 69 1 (-1)) 69 2 (0)) (3, 60, [])) _ _
  rw [yq83_e]
  refine zr_steps 1 (27, [some (.ref 69)], [], zwr (yq83) 69 3 70) rfl ?_
  show zRun X d 50 27 [some (.ref 69)] [] (zwr (yq83) 69 3 70) _ _
  rw [yq84_e]
  exact zr_one (some (.inr (.inr none))) rfl (zR_ret rfl rfl)
/-! THE START: both constructors (written by wip/whole/start.py) -/
set_option maxRecDepth 100000 in
set_option maxHeartbeats 40000000 in
theorem st_14 {X : zX} {d : Nat} (hd : 0 ≤ d) : zRun X d 50 0 (zent 50 [.ref 71]) [] yq85 none yq87 := by
  refine zr_steps 14 (24, [some (.ref 71)], [.ref 72, .ref 71], znew (zwi (zwi (zwi (yq85) 71 0 (-1)) 71 1 (-1)) 71 2 (0)) (3, 60, [])) rfl ?_
  show zRun X d 50 24 [some (.ref 71)] [.ref 72, .ref 71] (znew (zwi (zwi (zwi (yq85) 71 0 (-1)) 71 1 (-1)) 71 2 (0)) (3, 60, [])) _ _
  rw [yq86_e]
  refine zr_steps 1 (27, [some (.ref 71)], [], zwr (yq86) 71 3 72) rfl ?_
  show zRun X d 50 27 [some (.ref 71)] [] (zwr (yq86) 71 3 72) _ _
  rw [yq87_e]
  exact zr_one (some (.inr (.inr none))) rfl (zR_ret rfl rfl)
