/-! THE START: both constructors (written by wip/whole/start.py) -/
set_option maxRecDepth 100000 in
set_option maxHeartbeats 40000000 in
theorem st_15 {X : zX} {d : Nat} (hd : 2 ≤ d) : zRun X d 85 0 (zent 85 [.ref 0]) [] yq1 none yq88 := by
  refine zr_steps 5 (9, [some (.ref 0), none], [.ref 1, .ref 1, .ref 0], znew (yq1) (15, 19, [none, none, none, none, none, none, none, none, none, none, none, none, none, none, none, none, none, none, none])) rfl ?_
  show zRun X d 85 9 [some (.ref 0), none] [.ref 1, .ref 1, .ref 0] (znew (yq1) (15, 19, [none, none, none, none, none, none, none, none, none, none, none, none, none, none, none, none, none, none, none])) _ _
  rw [yq2_e]
  refine zr_one (some (.inr (.inl (60, [.ref 1], [.ref 1, .ref 0], 12)))) rfl (zR_call (by omega) rfl (st_1 (by omega)) ?_)
  show zRun X d 85 12 [some (.ref 0), none] [.ref 1, .ref 0] yq34 _ _
  refine zr_steps 4 (20, [some (.ref 0), none], [.ref 15, .ref 15, .ref 0], znew (zwr (yq34) 0 0 1) (12, 8, [none, none, none, none, none, none, none, none])) rfl ?_
  show zRun X d 85 20 [some (.ref 0), none] [.ref 15, .ref 15, .ref 0] (znew (zwr (yq34) 0 0 1) (12, 8, [none, none, none, none, none, none, none, none])) _ _
  rw [yq35_e]
  refine zr_one (some (.inr (.inl (17, [.ref 15], [.ref 15, .ref 0], 23)))) rfl (zR_call (by omega) rfl (st_2 (by omega)) ?_)
  show zRun X d 85 23 [some (.ref 0), none] [.ref 15, .ref 0] yq38 _ _
  refine zr_steps 8 (39, [some (.ref 0), none], [.ref 15, .ref 1, .ref 24, .ref 24, .ref 0], znew (zwr (yq38) 0 1 15) (13, 20, [none, none, none, none, none, none, none, none, none, none, none, none, none, none, none, none, none, none, none, none])) rfl ?_
  show zRun X d 85 39 [some (.ref 0), none] [.ref 15, .ref 1, .ref 24, .ref 24, .ref 0] (znew (zwr (yq38) 0 1 15) (13, 20, [none, none, none, none, none, none, none, none, none, none, none, none, none, none, none, none, none, none, none, none])) _ _
  rw [yq39_e]
  refine zr_one (some (.inr (.inl (35, [.ref 24, .ref 1, .ref 15], [.ref 24, .ref 0], 42)))) rfl (zR_call (by omega) rfl (st_4 (by omega)) ?_)
  show zRun X d 85 42 [some (.ref 0), none] [.ref 24, .ref 0] yq50 _ _
  refine zr_steps 8 (58, [some (.ref 0), none], [.ref 15, .ref 1, .ref 38, .ref 38, .ref 0], znew (zwr (yq50) 0 2 24) (13, 20, [none, none, none, none, none, none, none, none, none, none, none, none, none, none, none, none, none, none, none, none])) rfl ?_
  show zRun X d 85 58 [some (.ref 0), none] [.ref 15, .ref 1, .ref 38, .ref 38, .ref 0] (znew (zwr (yq50) 0 2 24) (13, 20, [none, none, none, none, none, none, none, none, none, none, none, none, none, none, none, none, none, none, none, none])) _ _
  rw [yq51_e]
  refine zr_one (some (.inr (.inl (35, [.ref 38, .ref 1, .ref 15], [.ref 38, .ref 0], 61)))) rfl (zR_call (by omega) rfl (st_6 (by omega)) ?_)
  show zRun X d 85 61 [some (.ref 0), none] [.ref 38, .ref 0] yq62 _ _
  refine zr_steps 4 (69, [some (.ref 0), none], [.ref 52, .ref 52, .ref 0], znew (zwr (yq62) 0 3 38) (11, 6, [none, none, none, none, none, none])) rfl ?_
  show zRun X d 85 69 [some (.ref 0), none] [.ref 52, .ref 52, .ref 0] (znew (zwr (yq62) 0 3 38) (11, 6, [none, none, none, none, none, none])) _ _
  rw [yq63_e]
  refine zr_one (some (.inr (.inl (12, [.ref 52], [.ref 52, .ref 0], 72)))) rfl (zR_call (by omega) rfl (st_7 (by omega)) ?_)
  show zRun X d 85 72 [some (.ref 0), none] [.ref 52, .ref 0] yq65 _ _
  refine zr_steps 4 (80, [some (.ref 0), none], [.ref 57, .ref 57, .ref 0], znew (zwr (yq65) 0 4 52) (10, 6, [none, none, none, none, none, none])) rfl ?_
  show zRun X d 85 80 [some (.ref 0), none] [.ref 57, .ref 57, .ref 0] (znew (zwr (yq65) 0 4 52) (10, 6, [none, none, none, none, none, none])) _ _
  rw [yq66_e]
  refine zr_one (some (.inr (.inl (1, [.ref 57], [.ref 57, .ref 0], 83)))) rfl (zR_call (by omega) rfl (st_8 (by omega)) ?_)
  show zRun X d 85 83 [some (.ref 0), none] [.ref 57, .ref 0] yq68 _ _
  refine zr_steps 14 (109, [some (.ref 0), some (.int (0))], [.ref 0], zwi (zwr (znew (zwr (yq68) 0 5 57) (4, 6, [none, none, none, none, none, none])) 0 6 60) 0 7 (0)) rfl ?_
  show zRun X d 85 109 [some (.ref 0), some (.int (0))] [.ref 0] (zwi (zwr (znew (zwr (yq68) 0 5 57) (4, 6, [none, none, none, none, none, none])) 0 6 60) 0 7 (0)) _ _
  rw [yq69_e]
  refine zr_steps 4 (117, [some (.ref 0), some (.int (0))], [.ref 61, .ref 61, .int (0), .ref 60], znew (yq69) (14, 4, [none, none, none, none])) rfl ?_
  show zRun X d 85 117 [some (.ref 0), some (.int (0))] [.ref 61, .ref 61, .int (0), .ref 60] (znew (yq69) (14, 4, [none, none, none, none])) _ _
  rw [yq70_e]
  refine zr_one (some (.inr (.inl (50, [.ref 61], [.ref 61, .int (0), .ref 60], 120)))) rfl (zR_call (by omega) rfl (st_9 (by omega)) ?_)
  show zRun X d 85 120 [some (.ref 0), some (.int (0))] [.ref 61, .int (0), .ref 60] yq72 _ _
  refine zr_steps 11 (117, [some (.ref 0), some (.int (1))], [.ref 63, .ref 63, .int (1), .ref 60], znew (zwr (yq72) 60 0 61) (14, 4, [none, none, none, none])) rfl ?_
  show zRun X d 85 117 [some (.ref 0), some (.int (1))] [.ref 63, .ref 63, .int (1), .ref 60] (znew (zwr (yq72) 60 0 61) (14, 4, [none, none, none, none])) _ _
  rw [yq73_e]
  refine zr_one (some (.inr (.inl (50, [.ref 63], [.ref 63, .int (1), .ref 60], 120)))) rfl (zR_call (by omega) rfl (st_10 (by omega)) ?_)
  show zRun X d 85 120 [some (.ref 0), some (.int (1))] [.ref 63, .int (1), .ref 60] yq75 _ _
  refine zr_steps 11 (117, [some (.ref 0), some (.int (2))], [.ref 65, .ref 65, .int (2), .ref 60], znew (zwr (yq75) 60 1 63) (14, 4, [none, none, none, none])) rfl ?_
  show zRun X d 85 117 [some (.ref 0), some (.int (2))] [.ref 65, .ref 65, .int (2), .ref 60] (znew (zwr (yq75) 60 1 63) (14, 4, [none, none, none, none])) _ _
  rw [yq76_e]
  refine zr_one (some (.inr (.inl (50, [.ref 65], [.ref 65, .int (2), .ref 60], 120)))) rfl (zR_call (by omega) rfl (st_11 (by omega)) ?_)
  show zRun X d 85 120 [some (.ref 0), some (.int (2))] [.ref 65, .int (2), .ref 60] yq78 _ _
  refine zr_steps 11 (117, [some (.ref 0), some (.int (3))], [.ref 67, .ref 67, .int (3), .ref 60], znew (zwr (yq78) 60 2 65) (14, 4, [none, none, none, none])) rfl ?_
  show zRun X d 85 117 [some (.ref 0), some (.int (3))] [.ref 67, .ref 67, .int (3), .ref 60] (znew (zwr (yq78) 60 2 65) (14, 4, [none, none, none, none])) _ _
  rw [yq79_e]
  refine zr_one (some (.inr (.inl (50, [.ref 67], [.ref 67, .int (3), .ref 60], 120)))) rfl (zR_call (by omega) rfl (st_12 (by omega)) ?_)
  show zRun X d 85 120 [some (.ref 0), some (.int (3))] [.ref 67, .int (3), .ref 60] yq81 _ _
  refine zr_steps 11 (117, [some (.ref 0), some (.int (4))], [.ref 69, .ref 69, .int (4), .ref 60], znew (zwr (yq81) 60 3 67) (14, 4, [none, none, none, none])) rfl ?_
  show zRun X d 85 117 [some (.ref 0), some (.int (4))] [.ref 69, .ref 69, .int (4), .ref 60] (znew (zwr (yq81) 60 3 67) (14, 4, [none, none, none, none])) _ _
  rw [yq82_e]
  refine zr_one (some (.inr (.inl (50, [.ref 69], [.ref 69, .int (4), .ref 60], 120)))) rfl (zR_call (by omega) rfl (st_13 (by omega)) ?_)
  show zRun X d 85 120 [some (.ref 0), some (.int (4))] [.ref 69, .int (4), .ref 60] yq84 _ _
  refine zr_steps 11 (117, [some (.ref 0), some (.int (5))], [.ref 71, .ref 71, .int (5), .ref 60], znew (zwr (yq84) 60 4 69) (14, 4, [none, none, none, none])) rfl ?_
  show zRun X d 85 117 [some (.ref 0), some (.int (5))] [.ref 71, .ref 71, .int (5), .ref 60] (znew (zwr (yq84) 60 4 69) (14, 4, [none, none, none, none])) _ _
  rw [yq85_e]
  refine zr_one (some (.inr (.inl (50, [.ref 71], [.ref 71, .int (5), .ref 60], 120)))) rfl (zR_call (by omega) rfl (st_14 (by omega)) ?_)
  show zRun X d 85 120 [some (.ref 0), some (.int (5))] [.ref 71, .int (5), .ref 60] yq87 _ _
  refine zr_steps 6 (127, [some (.ref 0), some (.int (6))], [], zwr (yq87) 60 5 71) rfl ?_
  show zRun X d 85 127 [some (.ref 0), some (.int (6))] [] (zwr (yq87) 60 5 71) _ _
  rw [yq88_e]
  exact zr_one (some (.inr (.inr none))) rfl (zR_ret rfl rfl)
