def f94_mend (v1 : Int32) (v2 : Int32) (v3 : Int32) (I : (Nat → Nat → Int32)) : Option (Int32 × (Nat → Nat → Int32)) :=
  if v2 = 0 then
    Option.bind (f62_isSort v1 I) fun t2 =>
    if t2 = 0 then
      if v2 = 1 then
        Option.bind (f61_isSquare v1 I) fun t4 =>
        if t4 = 0 then
          if (0 : Int32) = 0 then
            if (0 : Int32) = 0 then
              some ((-1), I)
            else
              Option.bind (f69_mended v1 v2 v3 I) fun t6 =>
              if t6.1 = v3 then
                some (t6.1, t6.2)
              else
                Option.bind (f13_add v1 v2 t6.1 v3 t6.2) fun t8 =>
                some (t6.1, t8)
          else
            Option.bind (f69_mended v1 v2 v3 I) fun t12 =>
            if t12.1 = v3 then
              some (t12.1, t12.2)
            else
              Option.bind (f13_add v1 v2 t12.1 v3 t12.2) fun t14 =>
              some (t12.1, t14)
        else
          Option.bind (f126_within v3 0 999) fun t18 =>
          if t18 = 0 then
            if (0 : Int32) = 0 then
              if (0 : Int32) = 0 then
                some ((-1), I)
              else
                Option.bind (f69_mended v1 v2 v3 I) fun t20 =>
                if t20.1 = v3 then
                  some (t20.1, t20.2)
                else
                  Option.bind (f13_add v1 v2 t20.1 v3 t20.2) fun t22 =>
                  some (t20.1, t22)
            else
              Option.bind (f69_mended v1 v2 v3 I) fun t26 =>
              if t26.1 = v3 then
                some (t26.1, t26.2)
              else
                Option.bind (f13_add v1 v2 t26.1 v3 t26.2) fun t28 =>
                some (t26.1, t28)
          else
            if (0 : Int32) = 0 then
              if (1 : Int32) = 0 then
                some ((-1), I)
              else
                Option.bind (f69_mended v1 v2 v3 I) fun t32 =>
                if t32.1 = v3 then
                  some (t32.1, t32.2)
                else
                  Option.bind (f13_add v1 v2 t32.1 v3 t32.2) fun t34 =>
                  some (t32.1, t34)
            else
              Option.bind (f69_mended v1 v2 v3 I) fun t38 =>
              if t38.1 = v3 then
                some (t38.1, t38.2)
              else
                Option.bind (f13_add v1 v2 t38.1 v3 t38.2) fun t40 =>
                some (t38.1, t40)
      else
        if (0 : Int32) = 0 then
          if (0 : Int32) = 0 then
            some ((-1), I)
          else
            Option.bind (f69_mended v1 v2 v3 I) fun t46 =>
            if t46.1 = v3 then
              some (t46.1, t46.2)
            else
              Option.bind (f13_add v1 v2 t46.1 v3 t46.2) fun t48 =>
              some (t46.1, t48)
        else
          Option.bind (f69_mended v1 v2 v3 I) fun t52 =>
          if t52.1 = v3 then
            some (t52.1, t52.2)
          else
            Option.bind (f13_add v1 v2 t52.1 v3 t52.2) fun t54 =>
            some (t52.1, t54)
    else
      Option.bind (f126_within v3 0 200) fun t59 =>
      if t59 = 0 then
        if v2 = 1 then
          Option.bind (f61_isSquare v1 I) fun t61 =>
          if t61 = 0 then
            if (0 : Int32) = 0 then
              if (0 : Int32) = 0 then
                some ((-1), I)
              else
                Option.bind (f69_mended v1 v2 v3 I) fun t63 =>
                if t63.1 = v3 then
                  some (t63.1, t63.2)
                else
                  Option.bind (f13_add v1 v2 t63.1 v3 t63.2) fun t65 =>
                  some (t63.1, t65)
            else
              Option.bind (f69_mended v1 v2 v3 I) fun t69 =>
              if t69.1 = v3 then
                some (t69.1, t69.2)
              else
                Option.bind (f13_add v1 v2 t69.1 v3 t69.2) fun t71 =>
                some (t69.1, t71)
          else
            Option.bind (f126_within v3 0 999) fun t75 =>
            if t75 = 0 then
              if (0 : Int32) = 0 then
                if (0 : Int32) = 0 then
                  some ((-1), I)
                else
                  Option.bind (f69_mended v1 v2 v3 I) fun t77 =>
                  if t77.1 = v3 then
                    some (t77.1, t77.2)
                  else
                    Option.bind (f13_add v1 v2 t77.1 v3 t77.2) fun t79 =>
                    some (t77.1, t79)
              else
                Option.bind (f69_mended v1 v2 v3 I) fun t83 =>
                if t83.1 = v3 then
                  some (t83.1, t83.2)
                else
                  Option.bind (f13_add v1 v2 t83.1 v3 t83.2) fun t85 =>
                  some (t83.1, t85)
            else
              if (0 : Int32) = 0 then
                if (1 : Int32) = 0 then
                  some ((-1), I)
                else
                  Option.bind (f69_mended v1 v2 v3 I) fun t89 =>
                  if t89.1 = v3 then
                    some (t89.1, t89.2)
                  else
                    Option.bind (f13_add v1 v2 t89.1 v3 t89.2) fun t91 =>
                    some (t89.1, t91)
              else
                Option.bind (f69_mended v1 v2 v3 I) fun t95 =>
                if t95.1 = v3 then
                  some (t95.1, t95.2)
                else
                  Option.bind (f13_add v1 v2 t95.1 v3 t95.2) fun t97 =>
                  some (t95.1, t97)
        else
          if (0 : Int32) = 0 then
            if (0 : Int32) = 0 then
              some ((-1), I)
            else
              Option.bind (f69_mended v1 v2 v3 I) fun t103 =>
              if t103.1 = v3 then
                some (t103.1, t103.2)
              else
                Option.bind (f13_add v1 v2 t103.1 v3 t103.2) fun t105 =>
                some (t103.1, t105)
          else
            Option.bind (f69_mended v1 v2 v3 I) fun t109 =>
            if t109.1 = v3 then
              some (t109.1, t109.2)
            else
              Option.bind (f13_add v1 v2 t109.1 v3 t109.2) fun t111 =>
              some (t109.1, t111)
      else
        if v2 = 1 then
          Option.bind (f61_isSquare v1 I) fun t116 =>
          if t116 = 0 then
            if (1 : Int32) = 0 then
              if (0 : Int32) = 0 then
                some ((-1), I)
              else
                Option.bind (f69_mended v1 v2 v3 I) fun t118 =>
                if t118.1 = v3 then
                  some (t118.1, t118.2)
                else
                  Option.bind (f13_add v1 v2 t118.1 v3 t118.2) fun t120 =>
                  some (t118.1, t120)
            else
              Option.bind (f69_mended v1 v2 v3 I) fun t124 =>
              if t124.1 = v3 then
                some (t124.1, t124.2)
              else
                Option.bind (f13_add v1 v2 t124.1 v3 t124.2) fun t126 =>
                some (t124.1, t126)
          else
            Option.bind (f126_within v3 0 999) fun t130 =>
            if t130 = 0 then
              if (1 : Int32) = 0 then
                if (0 : Int32) = 0 then
                  some ((-1), I)
                else
                  Option.bind (f69_mended v1 v2 v3 I) fun t132 =>
                  if t132.1 = v3 then
                    some (t132.1, t132.2)
                  else
                    Option.bind (f13_add v1 v2 t132.1 v3 t132.2) fun t134 =>
                    some (t132.1, t134)
              else
                Option.bind (f69_mended v1 v2 v3 I) fun t138 =>
                if t138.1 = v3 then
                  some (t138.1, t138.2)
                else
                  Option.bind (f13_add v1 v2 t138.1 v3 t138.2) fun t140 =>
                  some (t138.1, t140)
            else
              if (1 : Int32) = 0 then
                if (1 : Int32) = 0 then
                  some ((-1), I)
                else
                  Option.bind (f69_mended v1 v2 v3 I) fun t144 =>
                  if t144.1 = v3 then
                    some (t144.1, t144.2)
                  else
                    Option.bind (f13_add v1 v2 t144.1 v3 t144.2) fun t146 =>
                    some (t144.1, t146)
              else
                Option.bind (f69_mended v1 v2 v3 I) fun t150 =>
                if t150.1 = v3 then
                  some (t150.1, t150.2)
                else
                  Option.bind (f13_add v1 v2 t150.1 v3 t150.2) fun t152 =>
                  some (t150.1, t152)
        else
          if (1 : Int32) = 0 then
            if (0 : Int32) = 0 then
              some ((-1), I)
            else
              Option.bind (f69_mended v1 v2 v3 I) fun t158 =>
              if t158.1 = v3 then
                some (t158.1, t158.2)
              else
                Option.bind (f13_add v1 v2 t158.1 v3 t158.2) fun t160 =>
                some (t158.1, t160)
          else
            Option.bind (f69_mended v1 v2 v3 I) fun t164 =>
            if t164.1 = v3 then
              some (t164.1, t164.2)
            else
              Option.bind (f13_add v1 v2 t164.1 v3 t164.2) fun t166 =>
              some (t164.1, t166)
  else
    if v2 = 1 then
      Option.bind (f61_isSquare v1 I) fun t173 =>
      if t173 = 0 then
        if (0 : Int32) = 0 then
          if (0 : Int32) = 0 then
            some ((-1), I)
          else
            Option.bind (f69_mended v1 v2 v3 I) fun t175 =>
            if t175.1 = v3 then
              some (t175.1, t175.2)
            else
              Option.bind (f13_add v1 v2 t175.1 v3 t175.2) fun t177 =>
              some (t175.1, t177)
        else
          Option.bind (f69_mended v1 v2 v3 I) fun t181 =>
          if t181.1 = v3 then
            some (t181.1, t181.2)
          else
            Option.bind (f13_add v1 v2 t181.1 v3 t181.2) fun t183 =>
            some (t181.1, t183)
      else
        Option.bind (f126_within v3 0 999) fun t187 =>
        if t187 = 0 then
          if (0 : Int32) = 0 then
            if (0 : Int32) = 0 then
              some ((-1), I)
            else
              Option.bind (f69_mended v1 v2 v3 I) fun t189 =>
              if t189.1 = v3 then
                some (t189.1, t189.2)
              else
                Option.bind (f13_add v1 v2 t189.1 v3 t189.2) fun t191 =>
                some (t189.1, t191)
          else
            Option.bind (f69_mended v1 v2 v3 I) fun t195 =>
            if t195.1 = v3 then
              some (t195.1, t195.2)
            else
              Option.bind (f13_add v1 v2 t195.1 v3 t195.2) fun t197 =>
              some (t195.1, t197)
        else
          if (0 : Int32) = 0 then
            if (1 : Int32) = 0 then
              some ((-1), I)
            else
              Option.bind (f69_mended v1 v2 v3 I) fun t201 =>
              if t201.1 = v3 then
                some (t201.1, t201.2)
              else
                Option.bind (f13_add v1 v2 t201.1 v3 t201.2) fun t203 =>
                some (t201.1, t203)
          else
            Option.bind (f69_mended v1 v2 v3 I) fun t207 =>
            if t207.1 = v3 then
              some (t207.1, t207.2)
            else
              Option.bind (f13_add v1 v2 t207.1 v3 t207.2) fun t209 =>
              some (t207.1, t209)
    else
      if (0 : Int32) = 0 then
        if (0 : Int32) = 0 then
          some ((-1), I)
        else
          Option.bind (f69_mended v1 v2 v3 I) fun t215 =>
          if t215.1 = v3 then
            some (t215.1, t215.2)
          else
            Option.bind (f13_add v1 v2 t215.1 v3 t215.2) fun t217 =>
            some (t215.1, t217)
      else
        Option.bind (f69_mended v1 v2 v3 I) fun t221 =>
        if t221.1 = v3 then
          some (t221.1, t221.2)
        else
          Option.bind (f13_add v1 v2 t221.1 v3 t221.2) fun t223 =>
          some (t221.1, t223)
theorem ok_f94_mend {X : zX} {d : Nat} (hd : 2 ≤ d) (v1 : Int32) (v2 : Int32) (v3 : Int32) {I : (Nat → Nat → Int32)} {J : (Nat → Nat → Int64)} (t : (Int32 × (Nat → Nat → Int32))) (h : f94_mend v1 v2 v3 I = some t) : zRun X d 94 0 (zent 94 [.ref 0, .int v1, .int v2, .int v3]) [] (SH, I, J) (some (.int t.1)) (SH, t.2, J) := by
  unfold f94_mend at h
  refine zr_steps 1 (1, [some (.ref 0), some (.int v1), some (.int v2), some (.int v3), none, none, none], [.int v2], (SH, I, J)) rfl ?_
  refine zr_one (if v2 = 0 then zN 4 [some (.ref 0), some (.int v1), some (.int v2), some (.int v3), none, none, none] [] (SH, I, J) else zN 30 [some (.ref 0), some (.int v1), some (.int v2), some (.int v3), none, none, none] [] (SH, I, J)) rfl (zR_if (fun hc227 => zR_go ?_) (fun hc227 => zR_go ?_))
  · rw [if_pos hc227] at h
    refine zr_steps 3 (9, [some (.ref 0), some (.int v1), some (.int v2), some (.int v3), none, none, none], [.int v1, .ref 1], (SH, I, J)) rfl ?_
    obtain ⟨t2, hc1, h⟩ := zbind h
    refine zr_one (some (.inr (.inl (62, [.ref 1, .int v1], [], 12)))) rfl (zR_call (by omega) rfl (ok_f62_isSort (by omega) v1 _ hc1) ?_)
    refine zr_one (if t2 = 0 then zN 30 [some (.ref 0), some (.int v1), some (.int v2), some (.int v3), none, none, none] [] (SH, I, J) else zN 15 [some (.ref 0), some (.int v1), some (.int v2), some (.int v3), none, none, none] [] (SH, I, J)) rfl (zR_if (fun hc171 => zR_go ?_) (fun hc171 => zR_go ?_))
    · rw [if_pos hc171] at h
      refine zr_steps 4 (35, [some (.ref 0), some (.int v1), some (.int v2), some (.int v3), some (.int 0), none, none], [.int 1, .int v2], (SH, I, J)) rfl ?_
      refine zr_one (if v2 = 1 then zN 38 [some (.ref 0), some (.int v1), some (.int v2), some (.int v3), some (.int 0), none, none] [] (SH, I, J) else zN 64 [some (.ref 0), some (.int v1), some (.int v2), some (.int v3), some (.int 0), none, none] [] (SH, I, J)) rfl (zR_if (fun hc57 => zR_go ?_) (fun hc57 => zR_go ?_))
      · rw [if_pos hc57] at h
        refine zr_steps 3 (43, [some (.ref 0), some (.int v1), some (.int v2), some (.int v3), some (.int 0), none, none], [.int v1, .ref 1], (SH, I, J)) rfl ?_
        obtain ⟨t4, hc3, h⟩ := zbind h
        refine zr_one (some (.inr (.inl (61, [.ref 1, .int v1], [], 46)))) rfl (zR_call (by omega) rfl (ok_f61_isSquare (by omega) v1 _ hc3) ?_)
        refine zr_one (if t4 = 0 then zN 64 [some (.ref 0), some (.int v1), some (.int v2), some (.int v3), some (.int 0), none, none] [] (SH, I, J) else zN 49 [some (.ref 0), some (.int v1), some (.int v2), some (.int v3), some (.int 0), none, none] [] (SH, I, J)) rfl (zR_if (fun hc44 => zR_go ?_) (fun hc44 => zR_go ?_))
        · rw [if_pos hc44] at h
          refine zr_steps 3 (69, [some (.ref 0), some (.int v1), some (.int v2), some (.int v3), some (.int 0), some (.int 0), none], [.int 0], (SH, I, J)) rfl ?_
          refine zr_one (if (0 : Int32) = 0 then zN 72 [some (.ref 0), some (.int v1), some (.int v2), some (.int v3), some (.int 0), some (.int 0), none] [] (SH, I, J) else zN 79 [some (.ref 0), some (.int v1), some (.int v2), some (.int v3), some (.int 0), some (.int 0), none] [] (SH, I, J)) rfl (zR_if (fun hc16 => zR_go ?_) (fun hc16 => zR_go ?_))
          · rw [if_pos hc16] at h
            refine zr_steps 1 (74, [some (.ref 0), some (.int v1), some (.int v2), some (.int v3), some (.int 0), some (.int 0), none], [.int 0], (SH, I, J)) rfl ?_
            refine zr_one (if (0 : Int32) = 0 then zN 77 [some (.ref 0), some (.int v1), some (.int v2), some (.int v3), some (.int 0), some (.int 0), none] [] (SH, I, J) else zN 79 [some (.ref 0), some (.int v1), some (.int v2), some (.int v3), some (.int 0), some (.int 0), none] [] (SH, I, J)) rfl (zR_if (fun hc10 => zR_go ?_) (fun hc10 => zR_go ?_))
            · rw [if_pos hc10] at h
              refine zr_steps 1 (78, [some (.ref 0), some (.int v1), some (.int v2), some (.int v3), some (.int 0), some (.int 0), none], [.int (-1)], (SH, I, J)) rfl ?_
              have he := Option.some.inj h
              subst he
              exact zr_one (some (.inr (.inr (some (.int (-1)))))) rfl (zR_ret rfl rfl)
            · rw [if_neg hc10] at h
              refine zr_steps 5 (86, [some (.ref 0), some (.int v1), some (.int v2), some (.int v3), some (.int 0), some (.int 0), none], [.int v3, .int v2, .int v1, .ref 1], (SH, I, J)) rfl ?_
              obtain ⟨t6, hc5, h⟩ := zbind h
              refine zr_one (some (.inr (.inl (69, [.ref 1, .int v1, .int v2, .int v3], [], 89)))) rfl (zR_call (by omega) rfl (ok_f69_mended (by omega) v1 v2 v3 _ hc5) ?_)
              refine zr_steps 3 (94, [some (.ref 0), some (.int v1), some (.int v2), some (.int v3), some (.int 0), some (.int 0), some (.int t6.1)], [.int v3, .int t6.1], (SH, t6.2, J)) rfl ?_
              refine zr_one (if t6.1 = v3 then zN 109 [some (.ref 0), some (.int v1), some (.int v2), some (.int v3), some (.int 0), some (.int 0), some (.int t6.1)] [] (SH, t6.2, J) else zN 97 [some (.ref 0), some (.int v1), some (.int v2), some (.int v3), some (.int 0), some (.int 0), some (.int t6.1)] [] (SH, t6.2, J)) rfl (zR_if (fun hc9 => zR_go ?_) (fun hc9 => zR_go ?_))
              · rw [if_pos hc9] at h
                refine zr_steps 1 (111, [some (.ref 0), some (.int v1), some (.int v2), some (.int v3), some (.int 0), some (.int 0), some (.int t6.1)], [.int t6.1], (SH, t6.2, J)) rfl ?_
                have he := Option.some.inj h
                subst he
                exact zr_one (some (.inr (.inr (some (.int t6.1))))) rfl (zR_ret rfl rfl)
              · rw [if_neg hc9] at h
                refine zr_steps 6 (106, [some (.ref 0), some (.int v1), some (.int v2), some (.int v3), some (.int 0), some (.int 0), some (.int t6.1)], [.int v3, .int t6.1, .int v2, .int v1, .ref 52], (SH, t6.2, J)) rfl ?_
                obtain ⟨t8, hc7, h⟩ := zbind h
                refine zr_one (some (.inr (.inl (13, [.ref 52, .int v1, .int v2, .int t6.1, .int v3], [], 109)))) rfl (zR_call (by omega) rfl (ok_f13_add (by omega) v1 v2 t6.1 v3 _ hc7) ?_)
                refine zr_steps 1 (111, [some (.ref 0), some (.int v1), some (.int v2), some (.int v3), some (.int 0), some (.int 0), some (.int t6.1)], [.int t6.1], (SH, t8, J)) rfl ?_
                have he := Option.some.inj h
                subst he
                exact zr_one (some (.inr (.inr (some (.int t6.1))))) rfl (zR_ret rfl rfl)
          · rw [if_neg hc16] at h
            refine zr_steps 5 (86, [some (.ref 0), some (.int v1), some (.int v2), some (.int v3), some (.int 0), some (.int 0), none], [.int v3, .int v2, .int v1, .ref 1], (SH, I, J)) rfl ?_
            obtain ⟨t12, hc11, h⟩ := zbind h
            refine zr_one (some (.inr (.inl (69, [.ref 1, .int v1, .int v2, .int v3], [], 89)))) rfl (zR_call (by omega) rfl (ok_f69_mended (by omega) v1 v2 v3 _ hc11) ?_)
            refine zr_steps 3 (94, [some (.ref 0), some (.int v1), some (.int v2), some (.int v3), some (.int 0), some (.int 0), some (.int t12.1)], [.int v3, .int t12.1], (SH, t12.2, J)) rfl ?_
            refine zr_one (if t12.1 = v3 then zN 109 [some (.ref 0), some (.int v1), some (.int v2), some (.int v3), some (.int 0), some (.int 0), some (.int t12.1)] [] (SH, t12.2, J) else zN 97 [some (.ref 0), some (.int v1), some (.int v2), some (.int v3), some (.int 0), some (.int 0), some (.int t12.1)] [] (SH, t12.2, J)) rfl (zR_if (fun hc15 => zR_go ?_) (fun hc15 => zR_go ?_))
            · rw [if_pos hc15] at h
              refine zr_steps 1 (111, [some (.ref 0), some (.int v1), some (.int v2), some (.int v3), some (.int 0), some (.int 0), some (.int t12.1)], [.int t12.1], (SH, t12.2, J)) rfl ?_
              have he := Option.some.inj h
              subst he
              exact zr_one (some (.inr (.inr (some (.int t12.1))))) rfl (zR_ret rfl rfl)
            · rw [if_neg hc15] at h
              refine zr_steps 6 (106, [some (.ref 0), some (.int v1), some (.int v2), some (.int v3), some (.int 0), some (.int 0), some (.int t12.1)], [.int v3, .int t12.1, .int v2, .int v1, .ref 52], (SH, t12.2, J)) rfl ?_
              obtain ⟨t14, hc13, h⟩ := zbind h
              refine zr_one (some (.inr (.inl (13, [.ref 52, .int v1, .int v2, .int t12.1, .int v3], [], 109)))) rfl (zR_call (by omega) rfl (ok_f13_add (by omega) v1 v2 t12.1 v3 _ hc13) ?_)
              refine zr_steps 1 (111, [some (.ref 0), some (.int v1), some (.int v2), some (.int v3), some (.int 0), some (.int 0), some (.int t12.1)], [.int t12.1], (SH, t14, J)) rfl ?_
              have he := Option.some.inj h
              subst he
              exact zr_one (some (.inr (.inr (some (.int t12.1))))) rfl (zR_ret rfl rfl)
        · rw [if_neg hc44] at h
          refine zr_steps 3 (54, [some (.ref 0), some (.int v1), some (.int v2), some (.int v3), some (.int 0), none, none], [.int 999, .int 0, .int v3], (SH, I, J)) rfl ?_
          obtain ⟨t18, hc17, h⟩ := zbind h
          refine zr_one (some (.inr (.inl (126, [.int v3, .int 0, .int 999], [], 57)))) rfl (zR_call (by omega) rfl (ok_f126_within (by omega) v3 0 999 _ hc17) ?_)
          refine zr_one (if t18 = 0 then zN 64 [some (.ref 0), some (.int v1), some (.int v2), some (.int v3), some (.int 0), none, none] [] (SH, I, J) else zN 60 [some (.ref 0), some (.int v1), some (.int v2), some (.int v3), some (.int 0), none, none] [] (SH, I, J)) rfl (zR_if (fun hc43 => zR_go ?_) (fun hc43 => zR_go ?_))
          · rw [if_pos hc43] at h
            refine zr_steps 3 (69, [some (.ref 0), some (.int v1), some (.int v2), some (.int v3), some (.int 0), some (.int 0), none], [.int 0], (SH, I, J)) rfl ?_
            refine zr_one (if (0 : Int32) = 0 then zN 72 [some (.ref 0), some (.int v1), some (.int v2), some (.int v3), some (.int 0), some (.int 0), none] [] (SH, I, J) else zN 79 [some (.ref 0), some (.int v1), some (.int v2), some (.int v3), some (.int 0), some (.int 0), none] [] (SH, I, J)) rfl (zR_if (fun hc30 => zR_go ?_) (fun hc30 => zR_go ?_))
            · rw [if_pos hc30] at h
              refine zr_steps 1 (74, [some (.ref 0), some (.int v1), some (.int v2), some (.int v3), some (.int 0), some (.int 0), none], [.int 0], (SH, I, J)) rfl ?_
              refine zr_one (if (0 : Int32) = 0 then zN 77 [some (.ref 0), some (.int v1), some (.int v2), some (.int v3), some (.int 0), some (.int 0), none] [] (SH, I, J) else zN 79 [some (.ref 0), some (.int v1), some (.int v2), some (.int v3), some (.int 0), some (.int 0), none] [] (SH, I, J)) rfl (zR_if (fun hc24 => zR_go ?_) (fun hc24 => zR_go ?_))
              · rw [if_pos hc24] at h
                refine zr_steps 1 (78, [some (.ref 0), some (.int v1), some (.int v2), some (.int v3), some (.int 0), some (.int 0), none], [.int (-1)], (SH, I, J)) rfl ?_
                have he := Option.some.inj h
                subst he
                exact zr_one (some (.inr (.inr (some (.int (-1)))))) rfl (zR_ret rfl rfl)
              · rw [if_neg hc24] at h
                refine zr_steps 5 (86, [some (.ref 0), some (.int v1), some (.int v2), some (.int v3), some (.int 0), some (.int 0), none], [.int v3, .int v2, .int v1, .ref 1], (SH, I, J)) rfl ?_
                obtain ⟨t20, hc19, h⟩ := zbind h
                refine zr_one (some (.inr (.inl (69, [.ref 1, .int v1, .int v2, .int v3], [], 89)))) rfl (zR_call (by omega) rfl (ok_f69_mended (by omega) v1 v2 v3 _ hc19) ?_)
                refine zr_steps 3 (94, [some (.ref 0), some (.int v1), some (.int v2), some (.int v3), some (.int 0), some (.int 0), some (.int t20.1)], [.int v3, .int t20.1], (SH, t20.2, J)) rfl ?_
                refine zr_one (if t20.1 = v3 then zN 109 [some (.ref 0), some (.int v1), some (.int v2), some (.int v3), some (.int 0), some (.int 0), some (.int t20.1)] [] (SH, t20.2, J) else zN 97 [some (.ref 0), some (.int v1), some (.int v2), some (.int v3), some (.int 0), some (.int 0), some (.int t20.1)] [] (SH, t20.2, J)) rfl (zR_if (fun hc23 => zR_go ?_) (fun hc23 => zR_go ?_))
                · rw [if_pos hc23] at h
                  refine zr_steps 1 (111, [some (.ref 0), some (.int v1), some (.int v2), some (.int v3), some (.int 0), some (.int 0), some (.int t20.1)], [.int t20.1], (SH, t20.2, J)) rfl ?_
                  have he := Option.some.inj h
                  subst he
                  exact zr_one (some (.inr (.inr (some (.int t20.1))))) rfl (zR_ret rfl rfl)
                · rw [if_neg hc23] at h
                  refine zr_steps 6 (106, [some (.ref 0), some (.int v1), some (.int v2), some (.int v3), some (.int 0), some (.int 0), some (.int t20.1)], [.int v3, .int t20.1, .int v2, .int v1, .ref 52], (SH, t20.2, J)) rfl ?_
                  obtain ⟨t22, hc21, h⟩ := zbind h
                  refine zr_one (some (.inr (.inl (13, [.ref 52, .int v1, .int v2, .int t20.1, .int v3], [], 109)))) rfl (zR_call (by omega) rfl (ok_f13_add (by omega) v1 v2 t20.1 v3 _ hc21) ?_)
                  refine zr_steps 1 (111, [some (.ref 0), some (.int v1), some (.int v2), some (.int v3), some (.int 0), some (.int 0), some (.int t20.1)], [.int t20.1], (SH, t22, J)) rfl ?_
                  have he := Option.some.inj h
                  subst he
                  exact zr_one (some (.inr (.inr (some (.int t20.1))))) rfl (zR_ret rfl rfl)
            · rw [if_neg hc30] at h
              refine zr_steps 5 (86, [some (.ref 0), some (.int v1), some (.int v2), some (.int v3), some (.int 0), some (.int 0), none], [.int v3, .int v2, .int v1, .ref 1], (SH, I, J)) rfl ?_
              obtain ⟨t26, hc25, h⟩ := zbind h
              refine zr_one (some (.inr (.inl (69, [.ref 1, .int v1, .int v2, .int v3], [], 89)))) rfl (zR_call (by omega) rfl (ok_f69_mended (by omega) v1 v2 v3 _ hc25) ?_)
              refine zr_steps 3 (94, [some (.ref 0), some (.int v1), some (.int v2), some (.int v3), some (.int 0), some (.int 0), some (.int t26.1)], [.int v3, .int t26.1], (SH, t26.2, J)) rfl ?_
              refine zr_one (if t26.1 = v3 then zN 109 [some (.ref 0), some (.int v1), some (.int v2), some (.int v3), some (.int 0), some (.int 0), some (.int t26.1)] [] (SH, t26.2, J) else zN 97 [some (.ref 0), some (.int v1), some (.int v2), some (.int v3), some (.int 0), some (.int 0), some (.int t26.1)] [] (SH, t26.2, J)) rfl (zR_if (fun hc29 => zR_go ?_) (fun hc29 => zR_go ?_))
              · rw [if_pos hc29] at h
                refine zr_steps 1 (111, [some (.ref 0), some (.int v1), some (.int v2), some (.int v3), some (.int 0), some (.int 0), some (.int t26.1)], [.int t26.1], (SH, t26.2, J)) rfl ?_
                have he := Option.some.inj h
                subst he
                exact zr_one (some (.inr (.inr (some (.int t26.1))))) rfl (zR_ret rfl rfl)
              · rw [if_neg hc29] at h
                refine zr_steps 6 (106, [some (.ref 0), some (.int v1), some (.int v2), some (.int v3), some (.int 0), some (.int 0), some (.int t26.1)], [.int v3, .int t26.1, .int v2, .int v1, .ref 52], (SH, t26.2, J)) rfl ?_
                obtain ⟨t28, hc27, h⟩ := zbind h
                refine zr_one (some (.inr (.inl (13, [.ref 52, .int v1, .int v2, .int t26.1, .int v3], [], 109)))) rfl (zR_call (by omega) rfl (ok_f13_add (by omega) v1 v2 t26.1 v3 _ hc27) ?_)
                refine zr_steps 1 (111, [some (.ref 0), some (.int v1), some (.int v2), some (.int v3), some (.int 0), some (.int 0), some (.int t26.1)], [.int t26.1], (SH, t28, J)) rfl ?_
                have he := Option.some.inj h
                subst he
                exact zr_one (some (.inr (.inr (some (.int t26.1))))) rfl (zR_ret rfl rfl)
          · rw [if_neg hc43] at h
            refine zr_steps 4 (69, [some (.ref 0), some (.int v1), some (.int v2), some (.int v3), some (.int 0), some (.int 1), none], [.int 0], (SH, I, J)) rfl ?_
            refine zr_one (if (0 : Int32) = 0 then zN 72 [some (.ref 0), some (.int v1), some (.int v2), some (.int v3), some (.int 0), some (.int 1), none] [] (SH, I, J) else zN 79 [some (.ref 0), some (.int v1), some (.int v2), some (.int v3), some (.int 0), some (.int 1), none] [] (SH, I, J)) rfl (zR_if (fun hc42 => zR_go ?_) (fun hc42 => zR_go ?_))
            · rw [if_pos hc42] at h
              refine zr_steps 1 (74, [some (.ref 0), some (.int v1), some (.int v2), some (.int v3), some (.int 0), some (.int 1), none], [.int 1], (SH, I, J)) rfl ?_
              refine zr_one (if (1 : Int32) = 0 then zN 77 [some (.ref 0), some (.int v1), some (.int v2), some (.int v3), some (.int 0), some (.int 1), none] [] (SH, I, J) else zN 79 [some (.ref 0), some (.int v1), some (.int v2), some (.int v3), some (.int 0), some (.int 1), none] [] (SH, I, J)) rfl (zR_if (fun hc36 => zR_go ?_) (fun hc36 => zR_go ?_))
              · rw [if_pos hc36] at h
                refine zr_steps 1 (78, [some (.ref 0), some (.int v1), some (.int v2), some (.int v3), some (.int 0), some (.int 1), none], [.int (-1)], (SH, I, J)) rfl ?_
                have he := Option.some.inj h
                subst he
                exact zr_one (some (.inr (.inr (some (.int (-1)))))) rfl (zR_ret rfl rfl)
              · rw [if_neg hc36] at h
                refine zr_steps 5 (86, [some (.ref 0), some (.int v1), some (.int v2), some (.int v3), some (.int 0), some (.int 1), none], [.int v3, .int v2, .int v1, .ref 1], (SH, I, J)) rfl ?_
                obtain ⟨t32, hc31, h⟩ := zbind h
                refine zr_one (some (.inr (.inl (69, [.ref 1, .int v1, .int v2, .int v3], [], 89)))) rfl (zR_call (by omega) rfl (ok_f69_mended (by omega) v1 v2 v3 _ hc31) ?_)
                refine zr_steps 3 (94, [some (.ref 0), some (.int v1), some (.int v2), some (.int v3), some (.int 0), some (.int 1), some (.int t32.1)], [.int v3, .int t32.1], (SH, t32.2, J)) rfl ?_
                refine zr_one (if t32.1 = v3 then zN 109 [some (.ref 0), some (.int v1), some (.int v2), some (.int v3), some (.int 0), some (.int 1), some (.int t32.1)] [] (SH, t32.2, J) else zN 97 [some (.ref 0), some (.int v1), some (.int v2), some (.int v3), some (.int 0), some (.int 1), some (.int t32.1)] [] (SH, t32.2, J)) rfl (zR_if (fun hc35 => zR_go ?_) (fun hc35 => zR_go ?_))
                · rw [if_pos hc35] at h
                  refine zr_steps 1 (111, [some (.ref 0), some (.int v1), some (.int v2), some (.int v3), some (.int 0), some (.int 1), some (.int t32.1)], [.int t32.1], (SH, t32.2, J)) rfl ?_
                  have he := Option.some.inj h
                  subst he
                  exact zr_one (some (.inr (.inr (some (.int t32.1))))) rfl (zR_ret rfl rfl)
                · rw [if_neg hc35] at h
                  refine zr_steps 6 (106, [some (.ref 0), some (.int v1), some (.int v2), some (.int v3), some (.int 0), some (.int 1), some (.int t32.1)], [.int v3, .int t32.1, .int v2, .int v1, .ref 52], (SH, t32.2, J)) rfl ?_
                  obtain ⟨t34, hc33, h⟩ := zbind h
                  refine zr_one (some (.inr (.inl (13, [.ref 52, .int v1, .int v2, .int t32.1, .int v3], [], 109)))) rfl (zR_call (by omega) rfl (ok_f13_add (by omega) v1 v2 t32.1 v3 _ hc33) ?_)
                  refine zr_steps 1 (111, [some (.ref 0), some (.int v1), some (.int v2), some (.int v3), some (.int 0), some (.int 1), some (.int t32.1)], [.int t32.1], (SH, t34, J)) rfl ?_
                  have he := Option.some.inj h
                  subst he
                  exact zr_one (some (.inr (.inr (some (.int t32.1))))) rfl (zR_ret rfl rfl)
            · rw [if_neg hc42] at h
              refine zr_steps 5 (86, [some (.ref 0), some (.int v1), some (.int v2), some (.int v3), some (.int 0), some (.int 1), none], [.int v3, .int v2, .int v1, .ref 1], (SH, I, J)) rfl ?_
              obtain ⟨t38, hc37, h⟩ := zbind h
              refine zr_one (some (.inr (.inl (69, [.ref 1, .int v1, .int v2, .int v3], [], 89)))) rfl (zR_call (by omega) rfl (ok_f69_mended (by omega) v1 v2 v3 _ hc37) ?_)
              refine zr_steps 3 (94, [some (.ref 0), some (.int v1), some (.int v2), some (.int v3), some (.int 0), some (.int 1), some (.int t38.1)], [.int v3, .int t38.1], (SH, t38.2, J)) rfl ?_
              refine zr_one (if t38.1 = v3 then zN 109 [some (.ref 0), some (.int v1), some (.int v2), some (.int v3), some (.int 0), some (.int 1), some (.int t38.1)] [] (SH, t38.2, J) else zN 97 [some (.ref 0), some (.int v1), some (.int v2), some (.int v3), some (.int 0), some (.int 1), some (.int t38.1)] [] (SH, t38.2, J)) rfl (zR_if (fun hc41 => zR_go ?_) (fun hc41 => zR_go ?_))
              · rw [if_pos hc41] at h
                refine zr_steps 1 (111, [some (.ref 0), some (.int v1), some (.int v2), some (.int v3), some (.int 0), some (.int 1), some (.int t38.1)], [.int t38.1], (SH, t38.2, J)) rfl ?_
                have he := Option.some.inj h
                subst he
                exact zr_one (some (.inr (.inr (some (.int t38.1))))) rfl (zR_ret rfl rfl)
              · rw [if_neg hc41] at h
                refine zr_steps 6 (106, [some (.ref 0), some (.int v1), some (.int v2), some (.int v3), some (.int 0), some (.int 1), some (.int t38.1)], [.int v3, .int t38.1, .int v2, .int v1, .ref 52], (SH, t38.2, J)) rfl ?_
                obtain ⟨t40, hc39, h⟩ := zbind h
                refine zr_one (some (.inr (.inl (13, [.ref 52, .int v1, .int v2, .int t38.1, .int v3], [], 109)))) rfl (zR_call (by omega) rfl (ok_f13_add (by omega) v1 v2 t38.1 v3 _ hc39) ?_)
                refine zr_steps 1 (111, [some (.ref 0), some (.int v1), some (.int v2), some (.int v3), some (.int 0), some (.int 1), some (.int t38.1)], [.int t38.1], (SH, t40, J)) rfl ?_
                have he := Option.some.inj h
                subst he
                exact zr_one (some (.inr (.inr (some (.int t38.1))))) rfl (zR_ret rfl rfl)
      · rw [if_neg hc57] at h
        refine zr_steps 3 (69, [some (.ref 0), some (.int v1), some (.int v2), some (.int v3), some (.int 0), some (.int 0), none], [.int 0], (SH, I, J)) rfl ?_
        refine zr_one (if (0 : Int32) = 0 then zN 72 [some (.ref 0), some (.int v1), some (.int v2), some (.int v3), some (.int 0), some (.int 0), none] [] (SH, I, J) else zN 79 [some (.ref 0), some (.int v1), some (.int v2), some (.int v3), some (.int 0), some (.int 0), none] [] (SH, I, J)) rfl (zR_if (fun hc56 => zR_go ?_) (fun hc56 => zR_go ?_))
        · rw [if_pos hc56] at h
          refine zr_steps 1 (74, [some (.ref 0), some (.int v1), some (.int v2), some (.int v3), some (.int 0), some (.int 0), none], [.int 0], (SH, I, J)) rfl ?_
          refine zr_one (if (0 : Int32) = 0 then zN 77 [some (.ref 0), some (.int v1), some (.int v2), some (.int v3), some (.int 0), some (.int 0), none] [] (SH, I, J) else zN 79 [some (.ref 0), some (.int v1), some (.int v2), some (.int v3), some (.int 0), some (.int 0), none] [] (SH, I, J)) rfl (zR_if (fun hc50 => zR_go ?_) (fun hc50 => zR_go ?_))
          · rw [if_pos hc50] at h
            refine zr_steps 1 (78, [some (.ref 0), some (.int v1), some (.int v2), some (.int v3), some (.int 0), some (.int 0), none], [.int (-1)], (SH, I, J)) rfl ?_
            have he := Option.some.inj h
            subst he
            exact zr_one (some (.inr (.inr (some (.int (-1)))))) rfl (zR_ret rfl rfl)
          · rw [if_neg hc50] at h
            refine zr_steps 5 (86, [some (.ref 0), some (.int v1), some (.int v2), some (.int v3), some (.int 0), some (.int 0), none], [.int v3, .int v2, .int v1, .ref 1], (SH, I, J)) rfl ?_
            obtain ⟨t46, hc45, h⟩ := zbind h
            refine zr_one (some (.inr (.inl (69, [.ref 1, .int v1, .int v2, .int v3], [], 89)))) rfl (zR_call (by omega) rfl (ok_f69_mended (by omega) v1 v2 v3 _ hc45) ?_)
            refine zr_steps 3 (94, [some (.ref 0), some (.int v1), some (.int v2), some (.int v3), some (.int 0), some (.int 0), some (.int t46.1)], [.int v3, .int t46.1], (SH, t46.2, J)) rfl ?_
            refine zr_one (if t46.1 = v3 then zN 109 [some (.ref 0), some (.int v1), some (.int v2), some (.int v3), some (.int 0), some (.int 0), some (.int t46.1)] [] (SH, t46.2, J) else zN 97 [some (.ref 0), some (.int v1), some (.int v2), some (.int v3), some (.int 0), some (.int 0), some (.int t46.1)] [] (SH, t46.2, J)) rfl (zR_if (fun hc49 => zR_go ?_) (fun hc49 => zR_go ?_))
            · rw [if_pos hc49] at h
              refine zr_steps 1 (111, [some (.ref 0), some (.int v1), some (.int v2), some (.int v3), some (.int 0), some (.int 0), some (.int t46.1)], [.int t46.1], (SH, t46.2, J)) rfl ?_
              have he := Option.some.inj h
              subst he
              exact zr_one (some (.inr (.inr (some (.int t46.1))))) rfl (zR_ret rfl rfl)
            · rw [if_neg hc49] at h
              refine zr_steps 6 (106, [some (.ref 0), some (.int v1), some (.int v2), some (.int v3), some (.int 0), some (.int 0), some (.int t46.1)], [.int v3, .int t46.1, .int v2, .int v1, .ref 52], (SH, t46.2, J)) rfl ?_
              obtain ⟨t48, hc47, h⟩ := zbind h
              refine zr_one (some (.inr (.inl (13, [.ref 52, .int v1, .int v2, .int t46.1, .int v3], [], 109)))) rfl (zR_call (by omega) rfl (ok_f13_add (by omega) v1 v2 t46.1 v3 _ hc47) ?_)
              refine zr_steps 1 (111, [some (.ref 0), some (.int v1), some (.int v2), some (.int v3), some (.int 0), some (.int 0), some (.int t46.1)], [.int t46.1], (SH, t48, J)) rfl ?_
              have he := Option.some.inj h
              subst he
              exact zr_one (some (.inr (.inr (some (.int t46.1))))) rfl (zR_ret rfl rfl)
        · rw [if_neg hc56] at h
          refine zr_steps 5 (86, [some (.ref 0), some (.int v1), some (.int v2), some (.int v3), some (.int 0), some (.int 0), none], [.int v3, .int v2, .int v1, .ref 1], (SH, I, J)) rfl ?_
          obtain ⟨t52, hc51, h⟩ := zbind h
          refine zr_one (some (.inr (.inl (69, [.ref 1, .int v1, .int v2, .int v3], [], 89)))) rfl (zR_call (by omega) rfl (ok_f69_mended (by omega) v1 v2 v3 _ hc51) ?_)
          refine zr_steps 3 (94, [some (.ref 0), some (.int v1), some (.int v2), some (.int v3), some (.int 0), some (.int 0), some (.int t52.1)], [.int v3, .int t52.1], (SH, t52.2, J)) rfl ?_
          refine zr_one (if t52.1 = v3 then zN 109 [some (.ref 0), some (.int v1), some (.int v2), some (.int v3), some (.int 0), some (.int 0), some (.int t52.1)] [] (SH, t52.2, J) else zN 97 [some (.ref 0), some (.int v1), some (.int v2), some (.int v3), some (.int 0), some (.int 0), some (.int t52.1)] [] (SH, t52.2, J)) rfl (zR_if (fun hc55 => zR_go ?_) (fun hc55 => zR_go ?_))
          · rw [if_pos hc55] at h
            refine zr_steps 1 (111, [some (.ref 0), some (.int v1), some (.int v2), some (.int v3), some (.int 0), some (.int 0), some (.int t52.1)], [.int t52.1], (SH, t52.2, J)) rfl ?_
            have he := Option.some.inj h
            subst he
            exact zr_one (some (.inr (.inr (some (.int t52.1))))) rfl (zR_ret rfl rfl)
          · rw [if_neg hc55] at h
            refine zr_steps 6 (106, [some (.ref 0), some (.int v1), some (.int v2), some (.int v3), some (.int 0), some (.int 0), some (.int t52.1)], [.int v3, .int t52.1, .int v2, .int v1, .ref 52], (SH, t52.2, J)) rfl ?_
            obtain ⟨t54, hc53, h⟩ := zbind h
            refine zr_one (some (.inr (.inl (13, [.ref 52, .int v1, .int v2, .int t52.1, .int v3], [], 109)))) rfl (zR_call (by omega) rfl (ok_f13_add (by omega) v1 v2 t52.1 v3 _ hc53) ?_)
            refine zr_steps 1 (111, [some (.ref 0), some (.int v1), some (.int v2), some (.int v3), some (.int 0), some (.int 0), some (.int t52.1)], [.int t52.1], (SH, t54, J)) rfl ?_
            have he := Option.some.inj h
            subst he
            exact zr_one (some (.inr (.inr (some (.int t52.1))))) rfl (zR_ret rfl rfl)
    · rw [if_neg hc171] at h
      refine zr_steps 3 (20, [some (.ref 0), some (.int v1), some (.int v2), some (.int v3), none, none, none], [.int 200, .int 0, .int v3], (SH, I, J)) rfl ?_
      obtain ⟨t59, hc58, h⟩ := zbind h
      refine zr_one (some (.inr (.inl (126, [.int v3, .int 0, .int 200], [], 23)))) rfl (zR_call (by omega) rfl (ok_f126_within (by omega) v3 0 200 _ hc58) ?_)
      refine zr_one (if t59 = 0 then zN 30 [some (.ref 0), some (.int v1), some (.int v2), some (.int v3), none, none, none] [] (SH, I, J) else zN 26 [some (.ref 0), some (.int v1), some (.int v2), some (.int v3), none, none, none] [] (SH, I, J)) rfl (zR_if (fun hc170 => zR_go ?_) (fun hc170 => zR_go ?_))
      · rw [if_pos hc170] at h
        refine zr_steps 4 (35, [some (.ref 0), some (.int v1), some (.int v2), some (.int v3), some (.int 0), none, none], [.int 1, .int v2], (SH, I, J)) rfl ?_
        refine zr_one (if v2 = 1 then zN 38 [some (.ref 0), some (.int v1), some (.int v2), some (.int v3), some (.int 0), none, none] [] (SH, I, J) else zN 64 [some (.ref 0), some (.int v1), some (.int v2), some (.int v3), some (.int 0), none, none] [] (SH, I, J)) rfl (zR_if (fun hc114 => zR_go ?_) (fun hc114 => zR_go ?_))
        · rw [if_pos hc114] at h
          refine zr_steps 3 (43, [some (.ref 0), some (.int v1), some (.int v2), some (.int v3), some (.int 0), none, none], [.int v1, .ref 1], (SH, I, J)) rfl ?_
          obtain ⟨t61, hc60, h⟩ := zbind h
          refine zr_one (some (.inr (.inl (61, [.ref 1, .int v1], [], 46)))) rfl (zR_call (by omega) rfl (ok_f61_isSquare (by omega) v1 _ hc60) ?_)
          refine zr_one (if t61 = 0 then zN 64 [some (.ref 0), some (.int v1), some (.int v2), some (.int v3), some (.int 0), none, none] [] (SH, I, J) else zN 49 [some (.ref 0), some (.int v1), some (.int v2), some (.int v3), some (.int 0), none, none] [] (SH, I, J)) rfl (zR_if (fun hc101 => zR_go ?_) (fun hc101 => zR_go ?_))
          · rw [if_pos hc101] at h
            refine zr_steps 3 (69, [some (.ref 0), some (.int v1), some (.int v2), some (.int v3), some (.int 0), some (.int 0), none], [.int 0], (SH, I, J)) rfl ?_
            refine zr_one (if (0 : Int32) = 0 then zN 72 [some (.ref 0), some (.int v1), some (.int v2), some (.int v3), some (.int 0), some (.int 0), none] [] (SH, I, J) else zN 79 [some (.ref 0), some (.int v1), some (.int v2), some (.int v3), some (.int 0), some (.int 0), none] [] (SH, I, J)) rfl (zR_if (fun hc73 => zR_go ?_) (fun hc73 => zR_go ?_))
            · rw [if_pos hc73] at h
              refine zr_steps 1 (74, [some (.ref 0), some (.int v1), some (.int v2), some (.int v3), some (.int 0), some (.int 0), none], [.int 0], (SH, I, J)) rfl ?_
              refine zr_one (if (0 : Int32) = 0 then zN 77 [some (.ref 0), some (.int v1), some (.int v2), some (.int v3), some (.int 0), some (.int 0), none] [] (SH, I, J) else zN 79 [some (.ref 0), some (.int v1), some (.int v2), some (.int v3), some (.int 0), some (.int 0), none] [] (SH, I, J)) rfl (zR_if (fun hc67 => zR_go ?_) (fun hc67 => zR_go ?_))
              · rw [if_pos hc67] at h
                refine zr_steps 1 (78, [some (.ref 0), some (.int v1), some (.int v2), some (.int v3), some (.int 0), some (.int 0), none], [.int (-1)], (SH, I, J)) rfl ?_
                have he := Option.some.inj h
                subst he
                exact zr_one (some (.inr (.inr (some (.int (-1)))))) rfl (zR_ret rfl rfl)
              · rw [if_neg hc67] at h
                refine zr_steps 5 (86, [some (.ref 0), some (.int v1), some (.int v2), some (.int v3), some (.int 0), some (.int 0), none], [.int v3, .int v2, .int v1, .ref 1], (SH, I, J)) rfl ?_
                obtain ⟨t63, hc62, h⟩ := zbind h
                refine zr_one (some (.inr (.inl (69, [.ref 1, .int v1, .int v2, .int v3], [], 89)))) rfl (zR_call (by omega) rfl (ok_f69_mended (by omega) v1 v2 v3 _ hc62) ?_)
                refine zr_steps 3 (94, [some (.ref 0), some (.int v1), some (.int v2), some (.int v3), some (.int 0), some (.int 0), some (.int t63.1)], [.int v3, .int t63.1], (SH, t63.2, J)) rfl ?_
                refine zr_one (if t63.1 = v3 then zN 109 [some (.ref 0), some (.int v1), some (.int v2), some (.int v3), some (.int 0), some (.int 0), some (.int t63.1)] [] (SH, t63.2, J) else zN 97 [some (.ref 0), some (.int v1), some (.int v2), some (.int v3), some (.int 0), some (.int 0), some (.int t63.1)] [] (SH, t63.2, J)) rfl (zR_if (fun hc66 => zR_go ?_) (fun hc66 => zR_go ?_))
                · rw [if_pos hc66] at h
                  refine zr_steps 1 (111, [some (.ref 0), some (.int v1), some (.int v2), some (.int v3), some (.int 0), some (.int 0), some (.int t63.1)], [.int t63.1], (SH, t63.2, J)) rfl ?_
                  have he := Option.some.inj h
                  subst he
                  exact zr_one (some (.inr (.inr (some (.int t63.1))))) rfl (zR_ret rfl rfl)
                · rw [if_neg hc66] at h
                  refine zr_steps 6 (106, [some (.ref 0), some (.int v1), some (.int v2), some (.int v3), some (.int 0), some (.int 0), some (.int t63.1)], [.int v3, .int t63.1, .int v2, .int v1, .ref 52], (SH, t63.2, J)) rfl ?_
                  obtain ⟨t65, hc64, h⟩ := zbind h
                  refine zr_one (some (.inr (.inl (13, [.ref 52, .int v1, .int v2, .int t63.1, .int v3], [], 109)))) rfl (zR_call (by omega) rfl (ok_f13_add (by omega) v1 v2 t63.1 v3 _ hc64) ?_)
                  refine zr_steps 1 (111, [some (.ref 0), some (.int v1), some (.int v2), some (.int v3), some (.int 0), some (.int 0), some (.int t63.1)], [.int t63.1], (SH, t65, J)) rfl ?_
                  have he := Option.some.inj h
                  subst he
                  exact zr_one (some (.inr (.inr (some (.int t63.1))))) rfl (zR_ret rfl rfl)
            · rw [if_neg hc73] at h
              refine zr_steps 5 (86, [some (.ref 0), some (.int v1), some (.int v2), some (.int v3), some (.int 0), some (.int 0), none], [.int v3, .int v2, .int v1, .ref 1], (SH, I, J)) rfl ?_
              obtain ⟨t69, hc68, h⟩ := zbind h
              refine zr_one (some (.inr (.inl (69, [.ref 1, .int v1, .int v2, .int v3], [], 89)))) rfl (zR_call (by omega) rfl (ok_f69_mended (by omega) v1 v2 v3 _ hc68) ?_)
              refine zr_steps 3 (94, [some (.ref 0), some (.int v1), some (.int v2), some (.int v3), some (.int 0), some (.int 0), some (.int t69.1)], [.int v3, .int t69.1], (SH, t69.2, J)) rfl ?_
              refine zr_one (if t69.1 = v3 then zN 109 [some (.ref 0), some (.int v1), some (.int v2), some (.int v3), some (.int 0), some (.int 0), some (.int t69.1)] [] (SH, t69.2, J) else zN 97 [some (.ref 0), some (.int v1), some (.int v2), some (.int v3), some (.int 0), some (.int 0), some (.int t69.1)] [] (SH, t69.2, J)) rfl (zR_if (fun hc72 => zR_go ?_) (fun hc72 => zR_go ?_))
              · rw [if_pos hc72] at h
                refine zr_steps 1 (111, [some (.ref 0), some (.int v1), some (.int v2), some (.int v3), some (.int 0), some (.int 0), some (.int t69.1)], [.int t69.1], (SH, t69.2, J)) rfl ?_
                have he := Option.some.inj h
                subst he
                exact zr_one (some (.inr (.inr (some (.int t69.1))))) rfl (zR_ret rfl rfl)
              · rw [if_neg hc72] at h
                refine zr_steps 6 (106, [some (.ref 0), some (.int v1), some (.int v2), some (.int v3), some (.int 0), some (.int 0), some (.int t69.1)], [.int v3, .int t69.1, .int v2, .int v1, .ref 52], (SH, t69.2, J)) rfl ?_
                obtain ⟨t71, hc70, h⟩ := zbind h
                refine zr_one (some (.inr (.inl (13, [.ref 52, .int v1, .int v2, .int t69.1, .int v3], [], 109)))) rfl (zR_call (by omega) rfl (ok_f13_add (by omega) v1 v2 t69.1 v3 _ hc70) ?_)
                refine zr_steps 1 (111, [some (.ref 0), some (.int v1), some (.int v2), some (.int v3), some (.int 0), some (.int 0), some (.int t69.1)], [.int t69.1], (SH, t71, J)) rfl ?_
                have he := Option.some.inj h
                subst he
                exact zr_one (some (.inr (.inr (some (.int t69.1))))) rfl (zR_ret rfl rfl)
          · rw [if_neg hc101] at h
            refine zr_steps 3 (54, [some (.ref 0), some (.int v1), some (.int v2), some (.int v3), some (.int 0), none, none], [.int 999, .int 0, .int v3], (SH, I, J)) rfl ?_
            obtain ⟨t75, hc74, h⟩ := zbind h
            refine zr_one (some (.inr (.inl (126, [.int v3, .int 0, .int 999], [], 57)))) rfl (zR_call (by omega) rfl (ok_f126_within (by omega) v3 0 999 _ hc74) ?_)
            refine zr_one (if t75 = 0 then zN 64 [some (.ref 0), some (.int v1), some (.int v2), some (.int v3), some (.int 0), none, none] [] (SH, I, J) else zN 60 [some (.ref 0), some (.int v1), some (.int v2), some (.int v3), some (.int 0), none, none] [] (SH, I, J)) rfl (zR_if (fun hc100 => zR_go ?_) (fun hc100 => zR_go ?_))
            · rw [if_pos hc100] at h
              refine zr_steps 3 (69, [some (.ref 0), some (.int v1), some (.int v2), some (.int v3), some (.int 0), some (.int 0), none], [.int 0], (SH, I, J)) rfl ?_
              refine zr_one (if (0 : Int32) = 0 then zN 72 [some (.ref 0), some (.int v1), some (.int v2), some (.int v3), some (.int 0), some (.int 0), none] [] (SH, I, J) else zN 79 [some (.ref 0), some (.int v1), some (.int v2), some (.int v3), some (.int 0), some (.int 0), none] [] (SH, I, J)) rfl (zR_if (fun hc87 => zR_go ?_) (fun hc87 => zR_go ?_))
              · rw [if_pos hc87] at h
                refine zr_steps 1 (74, [some (.ref 0), some (.int v1), some (.int v2), some (.int v3), some (.int 0), some (.int 0), none], [.int 0], (SH, I, J)) rfl ?_
                refine zr_one (if (0 : Int32) = 0 then zN 77 [some (.ref 0), some (.int v1), some (.int v2), some (.int v3), some (.int 0), some (.int 0), none] [] (SH, I, J) else zN 79 [some (.ref 0), some (.int v1), some (.int v2), some (.int v3), some (.int 0), some (.int 0), none] [] (SH, I, J)) rfl (zR_if (fun hc81 => zR_go ?_) (fun hc81 => zR_go ?_))
                · rw [if_pos hc81] at h
                  refine zr_steps 1 (78, [some (.ref 0), some (.int v1), some (.int v2), some (.int v3), some (.int 0), some (.int 0), none], [.int (-1)], (SH, I, J)) rfl ?_
                  have he := Option.some.inj h
                  subst he
                  exact zr_one (some (.inr (.inr (some (.int (-1)))))) rfl (zR_ret rfl rfl)
                · rw [if_neg hc81] at h
                  refine zr_steps 5 (86, [some (.ref 0), some (.int v1), some (.int v2), some (.int v3), some (.int 0), some (.int 0), none], [.int v3, .int v2, .int v1, .ref 1], (SH, I, J)) rfl ?_
                  obtain ⟨t77, hc76, h⟩ := zbind h
                  refine zr_one (some (.inr (.inl (69, [.ref 1, .int v1, .int v2, .int v3], [], 89)))) rfl (zR_call (by omega) rfl (ok_f69_mended (by omega) v1 v2 v3 _ hc76) ?_)
                  refine zr_steps 3 (94, [some (.ref 0), some (.int v1), some (.int v2), some (.int v3), some (.int 0), some (.int 0), some (.int t77.1)], [.int v3, .int t77.1], (SH, t77.2, J)) rfl ?_
                  refine zr_one (if t77.1 = v3 then zN 109 [some (.ref 0), some (.int v1), some (.int v2), some (.int v3), some (.int 0), some (.int 0), some (.int t77.1)] [] (SH, t77.2, J) else zN 97 [some (.ref 0), some (.int v1), some (.int v2), some (.int v3), some (.int 0), some (.int 0), some (.int t77.1)] [] (SH, t77.2, J)) rfl (zR_if (fun hc80 => zR_go ?_) (fun hc80 => zR_go ?_))
                  · rw [if_pos hc80] at h
                    refine zr_steps 1 (111, [some (.ref 0), some (.int v1), some (.int v2), some (.int v3), some (.int 0), some (.int 0), some (.int t77.1)], [.int t77.1], (SH, t77.2, J)) rfl ?_
                    have he := Option.some.inj h
                    subst he
                    exact zr_one (some (.inr (.inr (some (.int t77.1))))) rfl (zR_ret rfl rfl)
                  · rw [if_neg hc80] at h
                    refine zr_steps 6 (106, [some (.ref 0), some (.int v1), some (.int v2), some (.int v3), some (.int 0), some (.int 0), some (.int t77.1)], [.int v3, .int t77.1, .int v2, .int v1, .ref 52], (SH, t77.2, J)) rfl ?_
                    obtain ⟨t79, hc78, h⟩ := zbind h
                    refine zr_one (some (.inr (.inl (13, [.ref 52, .int v1, .int v2, .int t77.1, .int v3], [], 109)))) rfl (zR_call (by omega) rfl (ok_f13_add (by omega) v1 v2 t77.1 v3 _ hc78) ?_)
                    refine zr_steps 1 (111, [some (.ref 0), some (.int v1), some (.int v2), some (.int v3), some (.int 0), some (.int 0), some (.int t77.1)], [.int t77.1], (SH, t79, J)) rfl ?_
                    have he := Option.some.inj h
                    subst he
                    exact zr_one (some (.inr (.inr (some (.int t77.1))))) rfl (zR_ret rfl rfl)
              · rw [if_neg hc87] at h
                refine zr_steps 5 (86, [some (.ref 0), some (.int v1), some (.int v2), some (.int v3), some (.int 0), some (.int 0), none], [.int v3, .int v2, .int v1, .ref 1], (SH, I, J)) rfl ?_
                obtain ⟨t83, hc82, h⟩ := zbind h
                refine zr_one (some (.inr (.inl (69, [.ref 1, .int v1, .int v2, .int v3], [], 89)))) rfl (zR_call (by omega) rfl (ok_f69_mended (by omega) v1 v2 v3 _ hc82) ?_)
                refine zr_steps 3 (94, [some (.ref 0), some (.int v1), some (.int v2), some (.int v3), some (.int 0), some (.int 0), some (.int t83.1)], [.int v3, .int t83.1], (SH, t83.2, J)) rfl ?_
                refine zr_one (if t83.1 = v3 then zN 109 [some (.ref 0), some (.int v1), some (.int v2), some (.int v3), some (.int 0), some (.int 0), some (.int t83.1)] [] (SH, t83.2, J) else zN 97 [some (.ref 0), some (.int v1), some (.int v2), some (.int v3), some (.int 0), some (.int 0), some (.int t83.1)] [] (SH, t83.2, J)) rfl (zR_if (fun hc86 => zR_go ?_) (fun hc86 => zR_go ?_))
                · rw [if_pos hc86] at h
                  refine zr_steps 1 (111, [some (.ref 0), some (.int v1), some (.int v2), some (.int v3), some (.int 0), some (.int 0), some (.int t83.1)], [.int t83.1], (SH, t83.2, J)) rfl ?_
                  have he := Option.some.inj h
                  subst he
                  exact zr_one (some (.inr (.inr (some (.int t83.1))))) rfl (zR_ret rfl rfl)
                · rw [if_neg hc86] at h
                  refine zr_steps 6 (106, [some (.ref 0), some (.int v1), some (.int v2), some (.int v3), some (.int 0), some (.int 0), some (.int t83.1)], [.int v3, .int t83.1, .int v2, .int v1, .ref 52], (SH, t83.2, J)) rfl ?_
                  obtain ⟨t85, hc84, h⟩ := zbind h
                  refine zr_one (some (.inr (.inl (13, [.ref 52, .int v1, .int v2, .int t83.1, .int v3], [], 109)))) rfl (zR_call (by omega) rfl (ok_f13_add (by omega) v1 v2 t83.1 v3 _ hc84) ?_)
                  refine zr_steps 1 (111, [some (.ref 0), some (.int v1), some (.int v2), some (.int v3), some (.int 0), some (.int 0), some (.int t83.1)], [.int t83.1], (SH, t85, J)) rfl ?_
                  have he := Option.some.inj h
                  subst he
                  exact zr_one (some (.inr (.inr (some (.int t83.1))))) rfl (zR_ret rfl rfl)
            · rw [if_neg hc100] at h
              refine zr_steps 4 (69, [some (.ref 0), some (.int v1), some (.int v2), some (.int v3), some (.int 0), some (.int 1), none], [.int 0], (SH, I, J)) rfl ?_
              refine zr_one (if (0 : Int32) = 0 then zN 72 [some (.ref 0), some (.int v1), some (.int v2), some (.int v3), some (.int 0), some (.int 1), none] [] (SH, I, J) else zN 79 [some (.ref 0), some (.int v1), some (.int v2), some (.int v3), some (.int 0), some (.int 1), none] [] (SH, I, J)) rfl (zR_if (fun hc99 => zR_go ?_) (fun hc99 => zR_go ?_))
              · rw [if_pos hc99] at h
                refine zr_steps 1 (74, [some (.ref 0), some (.int v1), some (.int v2), some (.int v3), some (.int 0), some (.int 1), none], [.int 1], (SH, I, J)) rfl ?_
                refine zr_one (if (1 : Int32) = 0 then zN 77 [some (.ref 0), some (.int v1), some (.int v2), some (.int v3), some (.int 0), some (.int 1), none] [] (SH, I, J) else zN 79 [some (.ref 0), some (.int v1), some (.int v2), some (.int v3), some (.int 0), some (.int 1), none] [] (SH, I, J)) rfl (zR_if (fun hc93 => zR_go ?_) (fun hc93 => zR_go ?_))
                · rw [if_pos hc93] at h
                  refine zr_steps 1 (78, [some (.ref 0), some (.int v1), some (.int v2), some (.int v3), some (.int 0), some (.int 1), none], [.int (-1)], (SH, I, J)) rfl ?_
                  have he := Option.some.inj h
                  subst he
                  exact zr_one (some (.inr (.inr (some (.int (-1)))))) rfl (zR_ret rfl rfl)
                · rw [if_neg hc93] at h
                  refine zr_steps 5 (86, [some (.ref 0), some (.int v1), some (.int v2), some (.int v3), some (.int 0), some (.int 1), none], [.int v3, .int v2, .int v1, .ref 1], (SH, I, J)) rfl ?_
                  obtain ⟨t89, hc88, h⟩ := zbind h
                  refine zr_one (some (.inr (.inl (69, [.ref 1, .int v1, .int v2, .int v3], [], 89)))) rfl (zR_call (by omega) rfl (ok_f69_mended (by omega) v1 v2 v3 _ hc88) ?_)
                  refine zr_steps 3 (94, [some (.ref 0), some (.int v1), some (.int v2), some (.int v3), some (.int 0), some (.int 1), some (.int t89.1)], [.int v3, .int t89.1], (SH, t89.2, J)) rfl ?_
                  refine zr_one (if t89.1 = v3 then zN 109 [some (.ref 0), some (.int v1), some (.int v2), some (.int v3), some (.int 0), some (.int 1), some (.int t89.1)] [] (SH, t89.2, J) else zN 97 [some (.ref 0), some (.int v1), some (.int v2), some (.int v3), some (.int 0), some (.int 1), some (.int t89.1)] [] (SH, t89.2, J)) rfl (zR_if (fun hc92 => zR_go ?_) (fun hc92 => zR_go ?_))
                  · rw [if_pos hc92] at h
                    refine zr_steps 1 (111, [some (.ref 0), some (.int v1), some (.int v2), some (.int v3), some (.int 0), some (.int 1), some (.int t89.1)], [.int t89.1], (SH, t89.2, J)) rfl ?_
                    have he := Option.some.inj h
                    subst he
                    exact zr_one (some (.inr (.inr (some (.int t89.1))))) rfl (zR_ret rfl rfl)
                  · rw [if_neg hc92] at h
                    refine zr_steps 6 (106, [some (.ref 0), some (.int v1), some (.int v2), some (.int v3), some (.int 0), some (.int 1), some (.int t89.1)], [.int v3, .int t89.1, .int v2, .int v1, .ref 52], (SH, t89.2, J)) rfl ?_
                    obtain ⟨t91, hc90, h⟩ := zbind h
                    refine zr_one (some (.inr (.inl (13, [.ref 52, .int v1, .int v2, .int t89.1, .int v3], [], 109)))) rfl (zR_call (by omega) rfl (ok_f13_add (by omega) v1 v2 t89.1 v3 _ hc90) ?_)
                    refine zr_steps 1 (111, [some (.ref 0), some (.int v1), some (.int v2), some (.int v3), some (.int 0), some (.int 1), some (.int t89.1)], [.int t89.1], (SH, t91, J)) rfl ?_
                    have he := Option.some.inj h
                    subst he
                    exact zr_one (some (.inr (.inr (some (.int t89.1))))) rfl (zR_ret rfl rfl)
              · rw [if_neg hc99] at h
                refine zr_steps 5 (86, [some (.ref 0), some (.int v1), some (.int v2), some (.int v3), some (.int 0), some (.int 1), none], [.int v3, .int v2, .int v1, .ref 1], (SH, I, J)) rfl ?_
                obtain ⟨t95, hc94, h⟩ := zbind h
                refine zr_one (some (.inr (.inl (69, [.ref 1, .int v1, .int v2, .int v3], [], 89)))) rfl (zR_call (by omega) rfl (ok_f69_mended (by omega) v1 v2 v3 _ hc94) ?_)
                refine zr_steps 3 (94, [some (.ref 0), some (.int v1), some (.int v2), some (.int v3), some (.int 0), some (.int 1), some (.int t95.1)], [.int v3, .int t95.1], (SH, t95.2, J)) rfl ?_
                refine zr_one (if t95.1 = v3 then zN 109 [some (.ref 0), some (.int v1), some (.int v2), some (.int v3), some (.int 0), some (.int 1), some (.int t95.1)] [] (SH, t95.2, J) else zN 97 [some (.ref 0), some (.int v1), some (.int v2), some (.int v3), some (.int 0), some (.int 1), some (.int t95.1)] [] (SH, t95.2, J)) rfl (zR_if (fun hc98 => zR_go ?_) (fun hc98 => zR_go ?_))
                · rw [if_pos hc98] at h
                  refine zr_steps 1 (111, [some (.ref 0), some (.int v1), some (.int v2), some (.int v3), some (.int 0), some (.int 1), some (.int t95.1)], [.int t95.1], (SH, t95.2, J)) rfl ?_
                  have he := Option.some.inj h
                  subst he
                  exact zr_one (some (.inr (.inr (some (.int t95.1))))) rfl (zR_ret rfl rfl)
                · rw [if_neg hc98] at h
                  refine zr_steps 6 (106, [some (.ref 0), some (.int v1), some (.int v2), some (.int v3), some (.int 0), some (.int 1), some (.int t95.1)], [.int v3, .int t95.1, .int v2, .int v1, .ref 52], (SH, t95.2, J)) rfl ?_
                  obtain ⟨t97, hc96, h⟩ := zbind h
                  refine zr_one (some (.inr (.inl (13, [.ref 52, .int v1, .int v2, .int t95.1, .int v3], [], 109)))) rfl (zR_call (by omega) rfl (ok_f13_add (by omega) v1 v2 t95.1 v3 _ hc96) ?_)
                  refine zr_steps 1 (111, [some (.ref 0), some (.int v1), some (.int v2), some (.int v3), some (.int 0), some (.int 1), some (.int t95.1)], [.int t95.1], (SH, t97, J)) rfl ?_
                  have he := Option.some.inj h
                  subst he
                  exact zr_one (some (.inr (.inr (some (.int t95.1))))) rfl (zR_ret rfl rfl)
        · rw [if_neg hc114] at h
          refine zr_steps 3 (69, [some (.ref 0), some (.int v1), some (.int v2), some (.int v3), some (.int 0), some (.int 0), none], [.int 0], (SH, I, J)) rfl ?_
          refine zr_one (if (0 : Int32) = 0 then zN 72 [some (.ref 0), some (.int v1), some (.int v2), some (.int v3), some (.int 0), some (.int 0), none] [] (SH, I, J) else zN 79 [some (.ref 0), some (.int v1), some (.int v2), some (.int v3), some (.int 0), some (.int 0), none] [] (SH, I, J)) rfl (zR_if (fun hc113 => zR_go ?_) (fun hc113 => zR_go ?_))
          · rw [if_pos hc113] at h
            refine zr_steps 1 (74, [some (.ref 0), some (.int v1), some (.int v2), some (.int v3), some (.int 0), some (.int 0), none], [.int 0], (SH, I, J)) rfl ?_
            refine zr_one (if (0 : Int32) = 0 then zN 77 [some (.ref 0), some (.int v1), some (.int v2), some (.int v3), some (.int 0), some (.int 0), none] [] (SH, I, J) else zN 79 [some (.ref 0), some (.int v1), some (.int v2), some (.int v3), some (.int 0), some (.int 0), none] [] (SH, I, J)) rfl (zR_if (fun hc107 => zR_go ?_) (fun hc107 => zR_go ?_))
            · rw [if_pos hc107] at h
              refine zr_steps 1 (78, [some (.ref 0), some (.int v1), some (.int v2), some (.int v3), some (.int 0), some (.int 0), none], [.int (-1)], (SH, I, J)) rfl ?_
              have he := Option.some.inj h
              subst he
              exact zr_one (some (.inr (.inr (some (.int (-1)))))) rfl (zR_ret rfl rfl)
            · rw [if_neg hc107] at h
              refine zr_steps 5 (86, [some (.ref 0), some (.int v1), some (.int v2), some (.int v3), some (.int 0), some (.int 0), none], [.int v3, .int v2, .int v1, .ref 1], (SH, I, J)) rfl ?_
              obtain ⟨t103, hc102, h⟩ := zbind h
              refine zr_one (some (.inr (.inl (69, [.ref 1, .int v1, .int v2, .int v3], [], 89)))) rfl (zR_call (by omega) rfl (ok_f69_mended (by omega) v1 v2 v3 _ hc102) ?_)
              refine zr_steps 3 (94, [some (.ref 0), some (.int v1), some (.int v2), some (.int v3), some (.int 0), some (.int 0), some (.int t103.1)], [.int v3, .int t103.1], (SH, t103.2, J)) rfl ?_
              refine zr_one (if t103.1 = v3 then zN 109 [some (.ref 0), some (.int v1), some (.int v2), some (.int v3), some (.int 0), some (.int 0), some (.int t103.1)] [] (SH, t103.2, J) else zN 97 [some (.ref 0), some (.int v1), some (.int v2), some (.int v3), some (.int 0), some (.int 0), some (.int t103.1)] [] (SH, t103.2, J)) rfl (zR_if (fun hc106 => zR_go ?_) (fun hc106 => zR_go ?_))
              · rw [if_pos hc106] at h
                refine zr_steps 1 (111, [some (.ref 0), some (.int v1), some (.int v2), some (.int v3), some (.int 0), some (.int 0), some (.int t103.1)], [.int t103.1], (SH, t103.2, J)) rfl ?_
                have he := Option.some.inj h
                subst he
                exact zr_one (some (.inr (.inr (some (.int t103.1))))) rfl (zR_ret rfl rfl)
              · rw [if_neg hc106] at h
                refine zr_steps 6 (106, [some (.ref 0), some (.int v1), some (.int v2), some (.int v3), some (.int 0), some (.int 0), some (.int t103.1)], [.int v3, .int t103.1, .int v2, .int v1, .ref 52], (SH, t103.2, J)) rfl ?_
                obtain ⟨t105, hc104, h⟩ := zbind h
                refine zr_one (some (.inr (.inl (13, [.ref 52, .int v1, .int v2, .int t103.1, .int v3], [], 109)))) rfl (zR_call (by omega) rfl (ok_f13_add (by omega) v1 v2 t103.1 v3 _ hc104) ?_)
                refine zr_steps 1 (111, [some (.ref 0), some (.int v1), some (.int v2), some (.int v3), some (.int 0), some (.int 0), some (.int t103.1)], [.int t103.1], (SH, t105, J)) rfl ?_
                have he := Option.some.inj h
                subst he
                exact zr_one (some (.inr (.inr (some (.int t103.1))))) rfl (zR_ret rfl rfl)
          · rw [if_neg hc113] at h
            refine zr_steps 5 (86, [some (.ref 0), some (.int v1), some (.int v2), some (.int v3), some (.int 0), some (.int 0), none], [.int v3, .int v2, .int v1, .ref 1], (SH, I, J)) rfl ?_
            obtain ⟨t109, hc108, h⟩ := zbind h
            refine zr_one (some (.inr (.inl (69, [.ref 1, .int v1, .int v2, .int v3], [], 89)))) rfl (zR_call (by omega) rfl (ok_f69_mended (by omega) v1 v2 v3 _ hc108) ?_)
            refine zr_steps 3 (94, [some (.ref 0), some (.int v1), some (.int v2), some (.int v3), some (.int 0), some (.int 0), some (.int t109.1)], [.int v3, .int t109.1], (SH, t109.2, J)) rfl ?_
            refine zr_one (if t109.1 = v3 then zN 109 [some (.ref 0), some (.int v1), some (.int v2), some (.int v3), some (.int 0), some (.int 0), some (.int t109.1)] [] (SH, t109.2, J) else zN 97 [some (.ref 0), some (.int v1), some (.int v2), some (.int v3), some (.int 0), some (.int 0), some (.int t109.1)] [] (SH, t109.2, J)) rfl (zR_if (fun hc112 => zR_go ?_) (fun hc112 => zR_go ?_))
            · rw [if_pos hc112] at h
              refine zr_steps 1 (111, [some (.ref 0), some (.int v1), some (.int v2), some (.int v3), some (.int 0), some (.int 0), some (.int t109.1)], [.int t109.1], (SH, t109.2, J)) rfl ?_
              have he := Option.some.inj h
              subst he
              exact zr_one (some (.inr (.inr (some (.int t109.1))))) rfl (zR_ret rfl rfl)
            · rw [if_neg hc112] at h
              refine zr_steps 6 (106, [some (.ref 0), some (.int v1), some (.int v2), some (.int v3), some (.int 0), some (.int 0), some (.int t109.1)], [.int v3, .int t109.1, .int v2, .int v1, .ref 52], (SH, t109.2, J)) rfl ?_
              obtain ⟨t111, hc110, h⟩ := zbind h
              refine zr_one (some (.inr (.inl (13, [.ref 52, .int v1, .int v2, .int t109.1, .int v3], [], 109)))) rfl (zR_call (by omega) rfl (ok_f13_add (by omega) v1 v2 t109.1 v3 _ hc110) ?_)
              refine zr_steps 1 (111, [some (.ref 0), some (.int v1), some (.int v2), some (.int v3), some (.int 0), some (.int 0), some (.int t109.1)], [.int t109.1], (SH, t111, J)) rfl ?_
              have he := Option.some.inj h
              subst he
              exact zr_one (some (.inr (.inr (some (.int t109.1))))) rfl (zR_ret rfl rfl)
      · rw [if_neg hc170] at h
        refine zr_steps 5 (35, [some (.ref 0), some (.int v1), some (.int v2), some (.int v3), some (.int 1), none, none], [.int 1, .int v2], (SH, I, J)) rfl ?_
        refine zr_one (if v2 = 1 then zN 38 [some (.ref 0), some (.int v1), some (.int v2), some (.int v3), some (.int 1), none, none] [] (SH, I, J) else zN 64 [some (.ref 0), some (.int v1), some (.int v2), some (.int v3), some (.int 1), none, none] [] (SH, I, J)) rfl (zR_if (fun hc169 => zR_go ?_) (fun hc169 => zR_go ?_))
        · rw [if_pos hc169] at h
          refine zr_steps 3 (43, [some (.ref 0), some (.int v1), some (.int v2), some (.int v3), some (.int 1), none, none], [.int v1, .ref 1], (SH, I, J)) rfl ?_
          obtain ⟨t116, hc115, h⟩ := zbind h
          refine zr_one (some (.inr (.inl (61, [.ref 1, .int v1], [], 46)))) rfl (zR_call (by omega) rfl (ok_f61_isSquare (by omega) v1 _ hc115) ?_)
          refine zr_one (if t116 = 0 then zN 64 [some (.ref 0), some (.int v1), some (.int v2), some (.int v3), some (.int 1), none, none] [] (SH, I, J) else zN 49 [some (.ref 0), some (.int v1), some (.int v2), some (.int v3), some (.int 1), none, none] [] (SH, I, J)) rfl (zR_if (fun hc156 => zR_go ?_) (fun hc156 => zR_go ?_))
          · rw [if_pos hc156] at h
            refine zr_steps 3 (69, [some (.ref 0), some (.int v1), some (.int v2), some (.int v3), some (.int 1), some (.int 0), none], [.int 1], (SH, I, J)) rfl ?_
            refine zr_one (if (1 : Int32) = 0 then zN 72 [some (.ref 0), some (.int v1), some (.int v2), some (.int v3), some (.int 1), some (.int 0), none] [] (SH, I, J) else zN 79 [some (.ref 0), some (.int v1), some (.int v2), some (.int v3), some (.int 1), some (.int 0), none] [] (SH, I, J)) rfl (zR_if (fun hc128 => zR_go ?_) (fun hc128 => zR_go ?_))
            · rw [if_pos hc128] at h
              refine zr_steps 1 (74, [some (.ref 0), some (.int v1), some (.int v2), some (.int v3), some (.int 1), some (.int 0), none], [.int 0], (SH, I, J)) rfl ?_
              refine zr_one (if (0 : Int32) = 0 then zN 77 [some (.ref 0), some (.int v1), some (.int v2), some (.int v3), some (.int 1), some (.int 0), none] [] (SH, I, J) else zN 79 [some (.ref 0), some (.int v1), some (.int v2), some (.int v3), some (.int 1), some (.int 0), none] [] (SH, I, J)) rfl (zR_if (fun hc122 => zR_go ?_) (fun hc122 => zR_go ?_))
              · rw [if_pos hc122] at h
                refine zr_steps 1 (78, [some (.ref 0), some (.int v1), some (.int v2), some (.int v3), some (.int 1), some (.int 0), none], [.int (-1)], (SH, I, J)) rfl ?_
                have he := Option.some.inj h
                subst he
                exact zr_one (some (.inr (.inr (some (.int (-1)))))) rfl (zR_ret rfl rfl)
              · rw [if_neg hc122] at h
                refine zr_steps 5 (86, [some (.ref 0), some (.int v1), some (.int v2), some (.int v3), some (.int 1), some (.int 0), none], [.int v3, .int v2, .int v1, .ref 1], (SH, I, J)) rfl ?_
                obtain ⟨t118, hc117, h⟩ := zbind h
                refine zr_one (some (.inr (.inl (69, [.ref 1, .int v1, .int v2, .int v3], [], 89)))) rfl (zR_call (by omega) rfl (ok_f69_mended (by omega) v1 v2 v3 _ hc117) ?_)
                refine zr_steps 3 (94, [some (.ref 0), some (.int v1), some (.int v2), some (.int v3), some (.int 1), some (.int 0), some (.int t118.1)], [.int v3, .int t118.1], (SH, t118.2, J)) rfl ?_
                refine zr_one (if t118.1 = v3 then zN 109 [some (.ref 0), some (.int v1), some (.int v2), some (.int v3), some (.int 1), some (.int 0), some (.int t118.1)] [] (SH, t118.2, J) else zN 97 [some (.ref 0), some (.int v1), some (.int v2), some (.int v3), some (.int 1), some (.int 0), some (.int t118.1)] [] (SH, t118.2, J)) rfl (zR_if (fun hc121 => zR_go ?_) (fun hc121 => zR_go ?_))
                · rw [if_pos hc121] at h
                  refine zr_steps 1 (111, [some (.ref 0), some (.int v1), some (.int v2), some (.int v3), some (.int 1), some (.int 0), some (.int t118.1)], [.int t118.1], (SH, t118.2, J)) rfl ?_
                  have he := Option.some.inj h
                  subst he
                  exact zr_one (some (.inr (.inr (some (.int t118.1))))) rfl (zR_ret rfl rfl)
                · rw [if_neg hc121] at h
                  refine zr_steps 6 (106, [some (.ref 0), some (.int v1), some (.int v2), some (.int v3), some (.int 1), some (.int 0), some (.int t118.1)], [.int v3, .int t118.1, .int v2, .int v1, .ref 52], (SH, t118.2, J)) rfl ?_
                  obtain ⟨t120, hc119, h⟩ := zbind h
                  refine zr_one (some (.inr (.inl (13, [.ref 52, .int v1, .int v2, .int t118.1, .int v3], [], 109)))) rfl (zR_call (by omega) rfl (ok_f13_add (by omega) v1 v2 t118.1 v3 _ hc119) ?_)
                  refine zr_steps 1 (111, [some (.ref 0), some (.int v1), some (.int v2), some (.int v3), some (.int 1), some (.int 0), some (.int t118.1)], [.int t118.1], (SH, t120, J)) rfl ?_
                  have he := Option.some.inj h
                  subst he
                  exact zr_one (some (.inr (.inr (some (.int t118.1))))) rfl (zR_ret rfl rfl)
            · rw [if_neg hc128] at h
              refine zr_steps 5 (86, [some (.ref 0), some (.int v1), some (.int v2), some (.int v3), some (.int 1), some (.int 0), none], [.int v3, .int v2, .int v1, .ref 1], (SH, I, J)) rfl ?_
              obtain ⟨t124, hc123, h⟩ := zbind h
              refine zr_one (some (.inr (.inl (69, [.ref 1, .int v1, .int v2, .int v3], [], 89)))) rfl (zR_call (by omega) rfl (ok_f69_mended (by omega) v1 v2 v3 _ hc123) ?_)
              refine zr_steps 3 (94, [some (.ref 0), some (.int v1), some (.int v2), some (.int v3), some (.int 1), some (.int 0), some (.int t124.1)], [.int v3, .int t124.1], (SH, t124.2, J)) rfl ?_
              refine zr_one (if t124.1 = v3 then zN 109 [some (.ref 0), some (.int v1), some (.int v2), some (.int v3), some (.int 1), some (.int 0), some (.int t124.1)] [] (SH, t124.2, J) else zN 97 [some (.ref 0), some (.int v1), some (.int v2), some (.int v3), some (.int 1), some (.int 0), some (.int t124.1)] [] (SH, t124.2, J)) rfl (zR_if (fun hc127 => zR_go ?_) (fun hc127 => zR_go ?_))
              · rw [if_pos hc127] at h
                refine zr_steps 1 (111, [some (.ref 0), some (.int v1), some (.int v2), some (.int v3), some (.int 1), some (.int 0), some (.int t124.1)], [.int t124.1], (SH, t124.2, J)) rfl ?_
                have he := Option.some.inj h
                subst he
                exact zr_one (some (.inr (.inr (some (.int t124.1))))) rfl (zR_ret rfl rfl)
              · rw [if_neg hc127] at h
                refine zr_steps 6 (106, [some (.ref 0), some (.int v1), some (.int v2), some (.int v3), some (.int 1), some (.int 0), some (.int t124.1)], [.int v3, .int t124.1, .int v2, .int v1, .ref 52], (SH, t124.2, J)) rfl ?_
                obtain ⟨t126, hc125, h⟩ := zbind h
                refine zr_one (some (.inr (.inl (13, [.ref 52, .int v1, .int v2, .int t124.1, .int v3], [], 109)))) rfl (zR_call (by omega) rfl (ok_f13_add (by omega) v1 v2 t124.1 v3 _ hc125) ?_)
                refine zr_steps 1 (111, [some (.ref 0), some (.int v1), some (.int v2), some (.int v3), some (.int 1), some (.int 0), some (.int t124.1)], [.int t124.1], (SH, t126, J)) rfl ?_
                have he := Option.some.inj h
                subst he
                exact zr_one (some (.inr (.inr (some (.int t124.1))))) rfl (zR_ret rfl rfl)
          · rw [if_neg hc156] at h
            refine zr_steps 3 (54, [some (.ref 0), some (.int v1), some (.int v2), some (.int v3), some (.int 1), none, none], [.int 999, .int 0, .int v3], (SH, I, J)) rfl ?_
            obtain ⟨t130, hc129, h⟩ := zbind h
            refine zr_one (some (.inr (.inl (126, [.int v3, .int 0, .int 999], [], 57)))) rfl (zR_call (by omega) rfl (ok_f126_within (by omega) v3 0 999 _ hc129) ?_)
            refine zr_one (if t130 = 0 then zN 64 [some (.ref 0), some (.int v1), some (.int v2), some (.int v3), some (.int 1), none, none] [] (SH, I, J) else zN 60 [some (.ref 0), some (.int v1), some (.int v2), some (.int v3), some (.int 1), none, none] [] (SH, I, J)) rfl (zR_if (fun hc155 => zR_go ?_) (fun hc155 => zR_go ?_))
            · rw [if_pos hc155] at h
              refine zr_steps 3 (69, [some (.ref 0), some (.int v1), some (.int v2), some (.int v3), some (.int 1), some (.int 0), none], [.int 1], (SH, I, J)) rfl ?_
              refine zr_one (if (1 : Int32) = 0 then zN 72 [some (.ref 0), some (.int v1), some (.int v2), some (.int v3), some (.int 1), some (.int 0), none] [] (SH, I, J) else zN 79 [some (.ref 0), some (.int v1), some (.int v2), some (.int v3), some (.int 1), some (.int 0), none] [] (SH, I, J)) rfl (zR_if (fun hc142 => zR_go ?_) (fun hc142 => zR_go ?_))
              · rw [if_pos hc142] at h
                refine zr_steps 1 (74, [some (.ref 0), some (.int v1), some (.int v2), some (.int v3), some (.int 1), some (.int 0), none], [.int 0], (SH, I, J)) rfl ?_
                refine zr_one (if (0 : Int32) = 0 then zN 77 [some (.ref 0), some (.int v1), some (.int v2), some (.int v3), some (.int 1), some (.int 0), none] [] (SH, I, J) else zN 79 [some (.ref 0), some (.int v1), some (.int v2), some (.int v3), some (.int 1), some (.int 0), none] [] (SH, I, J)) rfl (zR_if (fun hc136 => zR_go ?_) (fun hc136 => zR_go ?_))
                · rw [if_pos hc136] at h
                  refine zr_steps 1 (78, [some (.ref 0), some (.int v1), some (.int v2), some (.int v3), some (.int 1), some (.int 0), none], [.int (-1)], (SH, I, J)) rfl ?_
                  have he := Option.some.inj h
                  subst he
                  exact zr_one (some (.inr (.inr (some (.int (-1)))))) rfl (zR_ret rfl rfl)
                · rw [if_neg hc136] at h
                  refine zr_steps 5 (86, [some (.ref 0), some (.int v1), some (.int v2), some (.int v3), some (.int 1), some (.int 0), none], [.int v3, .int v2, .int v1, .ref 1], (SH, I, J)) rfl ?_
                  obtain ⟨t132, hc131, h⟩ := zbind h
                  refine zr_one (some (.inr (.inl (69, [.ref 1, .int v1, .int v2, .int v3], [], 89)))) rfl (zR_call (by omega) rfl (ok_f69_mended (by omega) v1 v2 v3 _ hc131) ?_)
                  refine zr_steps 3 (94, [some (.ref 0), some (.int v1), some (.int v2), some (.int v3), some (.int 1), some (.int 0), some (.int t132.1)], [.int v3, .int t132.1], (SH, t132.2, J)) rfl ?_
                  refine zr_one (if t132.1 = v3 then zN 109 [some (.ref 0), some (.int v1), some (.int v2), some (.int v3), some (.int 1), some (.int 0), some (.int t132.1)] [] (SH, t132.2, J) else zN 97 [some (.ref 0), some (.int v1), some (.int v2), some (.int v3), some (.int 1), some (.int 0), some (.int t132.1)] [] (SH, t132.2, J)) rfl (zR_if (fun hc135 => zR_go ?_) (fun hc135 => zR_go ?_))
                  · rw [if_pos hc135] at h
                    refine zr_steps 1 (111, [some (.ref 0), some (.int v1), some (.int v2), some (.int v3), some (.int 1), some (.int 0), some (.int t132.1)], [.int t132.1], (SH, t132.2, J)) rfl ?_
                    have he := Option.some.inj h
                    subst he
                    exact zr_one (some (.inr (.inr (some (.int t132.1))))) rfl (zR_ret rfl rfl)
                  · rw [if_neg hc135] at h
                    refine zr_steps 6 (106, [some (.ref 0), some (.int v1), some (.int v2), some (.int v3), some (.int 1), some (.int 0), some (.int t132.1)], [.int v3, .int t132.1, .int v2, .int v1, .ref 52], (SH, t132.2, J)) rfl ?_
                    obtain ⟨t134, hc133, h⟩ := zbind h
                    refine zr_one (some (.inr (.inl (13, [.ref 52, .int v1, .int v2, .int t132.1, .int v3], [], 109)))) rfl (zR_call (by omega) rfl (ok_f13_add (by omega) v1 v2 t132.1 v3 _ hc133) ?_)
                    refine zr_steps 1 (111, [some (.ref 0), some (.int v1), some (.int v2), some (.int v3), some (.int 1), some (.int 0), some (.int t132.1)], [.int t132.1], (SH, t134, J)) rfl ?_
                    have he := Option.some.inj h
                    subst he
                    exact zr_one (some (.inr (.inr (some (.int t132.1))))) rfl (zR_ret rfl rfl)
              · rw [if_neg hc142] at h
                refine zr_steps 5 (86, [some (.ref 0), some (.int v1), some (.int v2), some (.int v3), some (.int 1), some (.int 0), none], [.int v3, .int v2, .int v1, .ref 1], (SH, I, J)) rfl ?_
                obtain ⟨t138, hc137, h⟩ := zbind h
                refine zr_one (some (.inr (.inl (69, [.ref 1, .int v1, .int v2, .int v3], [], 89)))) rfl (zR_call (by omega) rfl (ok_f69_mended (by omega) v1 v2 v3 _ hc137) ?_)
                refine zr_steps 3 (94, [some (.ref 0), some (.int v1), some (.int v2), some (.int v3), some (.int 1), some (.int 0), some (.int t138.1)], [.int v3, .int t138.1], (SH, t138.2, J)) rfl ?_
                refine zr_one (if t138.1 = v3 then zN 109 [some (.ref 0), some (.int v1), some (.int v2), some (.int v3), some (.int 1), some (.int 0), some (.int t138.1)] [] (SH, t138.2, J) else zN 97 [some (.ref 0), some (.int v1), some (.int v2), some (.int v3), some (.int 1), some (.int 0), some (.int t138.1)] [] (SH, t138.2, J)) rfl (zR_if (fun hc141 => zR_go ?_) (fun hc141 => zR_go ?_))
                · rw [if_pos hc141] at h
                  refine zr_steps 1 (111, [some (.ref 0), some (.int v1), some (.int v2), some (.int v3), some (.int 1), some (.int 0), some (.int t138.1)], [.int t138.1], (SH, t138.2, J)) rfl ?_
                  have he := Option.some.inj h
                  subst he
                  exact zr_one (some (.inr (.inr (some (.int t138.1))))) rfl (zR_ret rfl rfl)
                · rw [if_neg hc141] at h
                  refine zr_steps 6 (106, [some (.ref 0), some (.int v1), some (.int v2), some (.int v3), some (.int 1), some (.int 0), some (.int t138.1)], [.int v3, .int t138.1, .int v2, .int v1, .ref 52], (SH, t138.2, J)) rfl ?_
                  obtain ⟨t140, hc139, h⟩ := zbind h
                  refine zr_one (some (.inr (.inl (13, [.ref 52, .int v1, .int v2, .int t138.1, .int v3], [], 109)))) rfl (zR_call (by omega) rfl (ok_f13_add (by omega) v1 v2 t138.1 v3 _ hc139) ?_)
                  refine zr_steps 1 (111, [some (.ref 0), some (.int v1), some (.int v2), some (.int v3), some (.int 1), some (.int 0), some (.int t138.1)], [.int t138.1], (SH, t140, J)) rfl ?_
                  have he := Option.some.inj h
                  subst he
                  exact zr_one (some (.inr (.inr (some (.int t138.1))))) rfl (zR_ret rfl rfl)
            · rw [if_neg hc155] at h
              refine zr_steps 4 (69, [some (.ref 0), some (.int v1), some (.int v2), some (.int v3), some (.int 1), some (.int 1), none], [.int 1], (SH, I, J)) rfl ?_
              refine zr_one (if (1 : Int32) = 0 then zN 72 [some (.ref 0), some (.int v1), some (.int v2), some (.int v3), some (.int 1), some (.int 1), none] [] (SH, I, J) else zN 79 [some (.ref 0), some (.int v1), some (.int v2), some (.int v3), some (.int 1), some (.int 1), none] [] (SH, I, J)) rfl (zR_if (fun hc154 => zR_go ?_) (fun hc154 => zR_go ?_))
              · rw [if_pos hc154] at h
                refine zr_steps 1 (74, [some (.ref 0), some (.int v1), some (.int v2), some (.int v3), some (.int 1), some (.int 1), none], [.int 1], (SH, I, J)) rfl ?_
                refine zr_one (if (1 : Int32) = 0 then zN 77 [some (.ref 0), some (.int v1), some (.int v2), some (.int v3), some (.int 1), some (.int 1), none] [] (SH, I, J) else zN 79 [some (.ref 0), some (.int v1), some (.int v2), some (.int v3), some (.int 1), some (.int 1), none] [] (SH, I, J)) rfl (zR_if (fun hc148 => zR_go ?_) (fun hc148 => zR_go ?_))
                · rw [if_pos hc148] at h
                  refine zr_steps 1 (78, [some (.ref 0), some (.int v1), some (.int v2), some (.int v3), some (.int 1), some (.int 1), none], [.int (-1)], (SH, I, J)) rfl ?_
                  have he := Option.some.inj h
                  subst he
                  exact zr_one (some (.inr (.inr (some (.int (-1)))))) rfl (zR_ret rfl rfl)
                · rw [if_neg hc148] at h
                  refine zr_steps 5 (86, [some (.ref 0), some (.int v1), some (.int v2), some (.int v3), some (.int 1), some (.int 1), none], [.int v3, .int v2, .int v1, .ref 1], (SH, I, J)) rfl ?_
                  obtain ⟨t144, hc143, h⟩ := zbind h
                  refine zr_one (some (.inr (.inl (69, [.ref 1, .int v1, .int v2, .int v3], [], 89)))) rfl (zR_call (by omega) rfl (ok_f69_mended (by omega) v1 v2 v3 _ hc143) ?_)
                  refine zr_steps 3 (94, [some (.ref 0), some (.int v1), some (.int v2), some (.int v3), some (.int 1), some (.int 1), some (.int t144.1)], [.int v3, .int t144.1], (SH, t144.2, J)) rfl ?_
                  refine zr_one (if t144.1 = v3 then zN 109 [some (.ref 0), some (.int v1), some (.int v2), some (.int v3), some (.int 1), some (.int 1), some (.int t144.1)] [] (SH, t144.2, J) else zN 97 [some (.ref 0), some (.int v1), some (.int v2), some (.int v3), some (.int 1), some (.int 1), some (.int t144.1)] [] (SH, t144.2, J)) rfl (zR_if (fun hc147 => zR_go ?_) (fun hc147 => zR_go ?_))
                  · rw [if_pos hc147] at h
                    refine zr_steps 1 (111, [some (.ref 0), some (.int v1), some (.int v2), some (.int v3), some (.int 1), some (.int 1), some (.int t144.1)], [.int t144.1], (SH, t144.2, J)) rfl ?_
                    have he := Option.some.inj h
                    subst he
                    exact zr_one (some (.inr (.inr (some (.int t144.1))))) rfl (zR_ret rfl rfl)
                  · rw [if_neg hc147] at h
                    refine zr_steps 6 (106, [some (.ref 0), some (.int v1), some (.int v2), some (.int v3), some (.int 1), some (.int 1), some (.int t144.1)], [.int v3, .int t144.1, .int v2, .int v1, .ref 52], (SH, t144.2, J)) rfl ?_
                    obtain ⟨t146, hc145, h⟩ := zbind h
                    refine zr_one (some (.inr (.inl (13, [.ref 52, .int v1, .int v2, .int t144.1, .int v3], [], 109)))) rfl (zR_call (by omega) rfl (ok_f13_add (by omega) v1 v2 t144.1 v3 _ hc145) ?_)
                    refine zr_steps 1 (111, [some (.ref 0), some (.int v1), some (.int v2), some (.int v3), some (.int 1), some (.int 1), some (.int t144.1)], [.int t144.1], (SH, t146, J)) rfl ?_
                    have he := Option.some.inj h
                    subst he
                    exact zr_one (some (.inr (.inr (some (.int t144.1))))) rfl (zR_ret rfl rfl)
              · rw [if_neg hc154] at h
                refine zr_steps 5 (86, [some (.ref 0), some (.int v1), some (.int v2), some (.int v3), some (.int 1), some (.int 1), none], [.int v3, .int v2, .int v1, .ref 1], (SH, I, J)) rfl ?_
                obtain ⟨t150, hc149, h⟩ := zbind h
                refine zr_one (some (.inr (.inl (69, [.ref 1, .int v1, .int v2, .int v3], [], 89)))) rfl (zR_call (by omega) rfl (ok_f69_mended (by omega) v1 v2 v3 _ hc149) ?_)
                refine zr_steps 3 (94, [some (.ref 0), some (.int v1), some (.int v2), some (.int v3), some (.int 1), some (.int 1), some (.int t150.1)], [.int v3, .int t150.1], (SH, t150.2, J)) rfl ?_
                refine zr_one (if t150.1 = v3 then zN 109 [some (.ref 0), some (.int v1), some (.int v2), some (.int v3), some (.int 1), some (.int 1), some (.int t150.1)] [] (SH, t150.2, J) else zN 97 [some (.ref 0), some (.int v1), some (.int v2), some (.int v3), some (.int 1), some (.int 1), some (.int t150.1)] [] (SH, t150.2, J)) rfl (zR_if (fun hc153 => zR_go ?_) (fun hc153 => zR_go ?_))
                · rw [if_pos hc153] at h
                  refine zr_steps 1 (111, [some (.ref 0), some (.int v1), some (.int v2), some (.int v3), some (.int 1), some (.int 1), some (.int t150.1)], [.int t150.1], (SH, t150.2, J)) rfl ?_
                  have he := Option.some.inj h
                  subst he
                  exact zr_one (some (.inr (.inr (some (.int t150.1))))) rfl (zR_ret rfl rfl)
                · rw [if_neg hc153] at h
                  refine zr_steps 6 (106, [some (.ref 0), some (.int v1), some (.int v2), some (.int v3), some (.int 1), some (.int 1), some (.int t150.1)], [.int v3, .int t150.1, .int v2, .int v1, .ref 52], (SH, t150.2, J)) rfl ?_
                  obtain ⟨t152, hc151, h⟩ := zbind h
                  refine zr_one (some (.inr (.inl (13, [.ref 52, .int v1, .int v2, .int t150.1, .int v3], [], 109)))) rfl (zR_call (by omega) rfl (ok_f13_add (by omega) v1 v2 t150.1 v3 _ hc151) ?_)
                  refine zr_steps 1 (111, [some (.ref 0), some (.int v1), some (.int v2), some (.int v3), some (.int 1), some (.int 1), some (.int t150.1)], [.int t150.1], (SH, t152, J)) rfl ?_
                  have he := Option.some.inj h
                  subst he
                  exact zr_one (some (.inr (.inr (some (.int t150.1))))) rfl (zR_ret rfl rfl)
        · rw [if_neg hc169] at h
          refine zr_steps 3 (69, [some (.ref 0), some (.int v1), some (.int v2), some (.int v3), some (.int 1), some (.int 0), none], [.int 1], (SH, I, J)) rfl ?_
          refine zr_one (if (1 : Int32) = 0 then zN 72 [some (.ref 0), some (.int v1), some (.int v2), some (.int v3), some (.int 1), some (.int 0), none] [] (SH, I, J) else zN 79 [some (.ref 0), some (.int v1), some (.int v2), some (.int v3), some (.int 1), some (.int 0), none] [] (SH, I, J)) rfl (zR_if (fun hc168 => zR_go ?_) (fun hc168 => zR_go ?_))
          · rw [if_pos hc168] at h
            refine zr_steps 1 (74, [some (.ref 0), some (.int v1), some (.int v2), some (.int v3), some (.int 1), some (.int 0), none], [.int 0], (SH, I, J)) rfl ?_
            refine zr_one (if (0 : Int32) = 0 then zN 77 [some (.ref 0), some (.int v1), some (.int v2), some (.int v3), some (.int 1), some (.int 0), none] [] (SH, I, J) else zN 79 [some (.ref 0), some (.int v1), some (.int v2), some (.int v3), some (.int 1), some (.int 0), none] [] (SH, I, J)) rfl (zR_if (fun hc162 => zR_go ?_) (fun hc162 => zR_go ?_))
            · rw [if_pos hc162] at h
              refine zr_steps 1 (78, [some (.ref 0), some (.int v1), some (.int v2), some (.int v3), some (.int 1), some (.int 0), none], [.int (-1)], (SH, I, J)) rfl ?_
              have he := Option.some.inj h
              subst he
              exact zr_one (some (.inr (.inr (some (.int (-1)))))) rfl (zR_ret rfl rfl)
            · rw [if_neg hc162] at h
              refine zr_steps 5 (86, [some (.ref 0), some (.int v1), some (.int v2), some (.int v3), some (.int 1), some (.int 0), none], [.int v3, .int v2, .int v1, .ref 1], (SH, I, J)) rfl ?_
              obtain ⟨t158, hc157, h⟩ := zbind h
              refine zr_one (some (.inr (.inl (69, [.ref 1, .int v1, .int v2, .int v3], [], 89)))) rfl (zR_call (by omega) rfl (ok_f69_mended (by omega) v1 v2 v3 _ hc157) ?_)
              refine zr_steps 3 (94, [some (.ref 0), some (.int v1), some (.int v2), some (.int v3), some (.int 1), some (.int 0), some (.int t158.1)], [.int v3, .int t158.1], (SH, t158.2, J)) rfl ?_
              refine zr_one (if t158.1 = v3 then zN 109 [some (.ref 0), some (.int v1), some (.int v2), some (.int v3), some (.int 1), some (.int 0), some (.int t158.1)] [] (SH, t158.2, J) else zN 97 [some (.ref 0), some (.int v1), some (.int v2), some (.int v3), some (.int 1), some (.int 0), some (.int t158.1)] [] (SH, t158.2, J)) rfl (zR_if (fun hc161 => zR_go ?_) (fun hc161 => zR_go ?_))
              · rw [if_pos hc161] at h
                refine zr_steps 1 (111, [some (.ref 0), some (.int v1), some (.int v2), some (.int v3), some (.int 1), some (.int 0), some (.int t158.1)], [.int t158.1], (SH, t158.2, J)) rfl ?_
                have he := Option.some.inj h
                subst he
                exact zr_one (some (.inr (.inr (some (.int t158.1))))) rfl (zR_ret rfl rfl)
              · rw [if_neg hc161] at h
                refine zr_steps 6 (106, [some (.ref 0), some (.int v1), some (.int v2), some (.int v3), some (.int 1), some (.int 0), some (.int t158.1)], [.int v3, .int t158.1, .int v2, .int v1, .ref 52], (SH, t158.2, J)) rfl ?_
                obtain ⟨t160, hc159, h⟩ := zbind h
                refine zr_one (some (.inr (.inl (13, [.ref 52, .int v1, .int v2, .int t158.1, .int v3], [], 109)))) rfl (zR_call (by omega) rfl (ok_f13_add (by omega) v1 v2 t158.1 v3 _ hc159) ?_)
                refine zr_steps 1 (111, [some (.ref 0), some (.int v1), some (.int v2), some (.int v3), some (.int 1), some (.int 0), some (.int t158.1)], [.int t158.1], (SH, t160, J)) rfl ?_
                have he := Option.some.inj h
                subst he
                exact zr_one (some (.inr (.inr (some (.int t158.1))))) rfl (zR_ret rfl rfl)
          · rw [if_neg hc168] at h
            refine zr_steps 5 (86, [some (.ref 0), some (.int v1), some (.int v2), some (.int v3), some (.int 1), some (.int 0), none], [.int v3, .int v2, .int v1, .ref 1], (SH, I, J)) rfl ?_
            obtain ⟨t164, hc163, h⟩ := zbind h
            refine zr_one (some (.inr (.inl (69, [.ref 1, .int v1, .int v2, .int v3], [], 89)))) rfl (zR_call (by omega) rfl (ok_f69_mended (by omega) v1 v2 v3 _ hc163) ?_)
            refine zr_steps 3 (94, [some (.ref 0), some (.int v1), some (.int v2), some (.int v3), some (.int 1), some (.int 0), some (.int t164.1)], [.int v3, .int t164.1], (SH, t164.2, J)) rfl ?_
            refine zr_one (if t164.1 = v3 then zN 109 [some (.ref 0), some (.int v1), some (.int v2), some (.int v3), some (.int 1), some (.int 0), some (.int t164.1)] [] (SH, t164.2, J) else zN 97 [some (.ref 0), some (.int v1), some (.int v2), some (.int v3), some (.int 1), some (.int 0), some (.int t164.1)] [] (SH, t164.2, J)) rfl (zR_if (fun hc167 => zR_go ?_) (fun hc167 => zR_go ?_))
            · rw [if_pos hc167] at h
              refine zr_steps 1 (111, [some (.ref 0), some (.int v1), some (.int v2), some (.int v3), some (.int 1), some (.int 0), some (.int t164.1)], [.int t164.1], (SH, t164.2, J)) rfl ?_
              have he := Option.some.inj h
              subst he
              exact zr_one (some (.inr (.inr (some (.int t164.1))))) rfl (zR_ret rfl rfl)
            · rw [if_neg hc167] at h
              refine zr_steps 6 (106, [some (.ref 0), some (.int v1), some (.int v2), some (.int v3), some (.int 1), some (.int 0), some (.int t164.1)], [.int v3, .int t164.1, .int v2, .int v1, .ref 52], (SH, t164.2, J)) rfl ?_
              obtain ⟨t166, hc165, h⟩ := zbind h
              refine zr_one (some (.inr (.inl (13, [.ref 52, .int v1, .int v2, .int t164.1, .int v3], [], 109)))) rfl (zR_call (by omega) rfl (ok_f13_add (by omega) v1 v2 t164.1 v3 _ hc165) ?_)
              refine zr_steps 1 (111, [some (.ref 0), some (.int v1), some (.int v2), some (.int v3), some (.int 1), some (.int 0), some (.int t164.1)], [.int t164.1], (SH, t166, J)) rfl ?_
              have he := Option.some.inj h
              subst he
              exact zr_one (some (.inr (.inr (some (.int t164.1))))) rfl (zR_ret rfl rfl)
  · rw [if_neg hc227] at h
    refine zr_steps 4 (35, [some (.ref 0), some (.int v1), some (.int v2), some (.int v3), some (.int 0), none, none], [.int 1, .int v2], (SH, I, J)) rfl ?_
    refine zr_one (if v2 = 1 then zN 38 [some (.ref 0), some (.int v1), some (.int v2), some (.int v3), some (.int 0), none, none] [] (SH, I, J) else zN 64 [some (.ref 0), some (.int v1), some (.int v2), some (.int v3), some (.int 0), none, none] [] (SH, I, J)) rfl (zR_if (fun hc226 => zR_go ?_) (fun hc226 => zR_go ?_))
    · rw [if_pos hc226] at h
      refine zr_steps 3 (43, [some (.ref 0), some (.int v1), some (.int v2), some (.int v3), some (.int 0), none, none], [.int v1, .ref 1], (SH, I, J)) rfl ?_
      obtain ⟨t173, hc172, h⟩ := zbind h
      refine zr_one (some (.inr (.inl (61, [.ref 1, .int v1], [], 46)))) rfl (zR_call (by omega) rfl (ok_f61_isSquare (by omega) v1 _ hc172) ?_)
      refine zr_one (if t173 = 0 then zN 64 [some (.ref 0), some (.int v1), some (.int v2), some (.int v3), some (.int 0), none, none] [] (SH, I, J) else zN 49 [some (.ref 0), some (.int v1), some (.int v2), some (.int v3), some (.int 0), none, none] [] (SH, I, J)) rfl (zR_if (fun hc213 => zR_go ?_) (fun hc213 => zR_go ?_))
      · rw [if_pos hc213] at h
        refine zr_steps 3 (69, [some (.ref 0), some (.int v1), some (.int v2), some (.int v3), some (.int 0), some (.int 0), none], [.int 0], (SH, I, J)) rfl ?_
        refine zr_one (if (0 : Int32) = 0 then zN 72 [some (.ref 0), some (.int v1), some (.int v2), some (.int v3), some (.int 0), some (.int 0), none] [] (SH, I, J) else zN 79 [some (.ref 0), some (.int v1), some (.int v2), some (.int v3), some (.int 0), some (.int 0), none] [] (SH, I, J)) rfl (zR_if (fun hc185 => zR_go ?_) (fun hc185 => zR_go ?_))
        · rw [if_pos hc185] at h
          refine zr_steps 1 (74, [some (.ref 0), some (.int v1), some (.int v2), some (.int v3), some (.int 0), some (.int 0), none], [.int 0], (SH, I, J)) rfl ?_
          refine zr_one (if (0 : Int32) = 0 then zN 77 [some (.ref 0), some (.int v1), some (.int v2), some (.int v3), some (.int 0), some (.int 0), none] [] (SH, I, J) else zN 79 [some (.ref 0), some (.int v1), some (.int v2), some (.int v3), some (.int 0), some (.int 0), none] [] (SH, I, J)) rfl (zR_if (fun hc179 => zR_go ?_) (fun hc179 => zR_go ?_))
          · rw [if_pos hc179] at h
            refine zr_steps 1 (78, [some (.ref 0), some (.int v1), some (.int v2), some (.int v3), some (.int 0), some (.int 0), none], [.int (-1)], (SH, I, J)) rfl ?_
            have he := Option.some.inj h
            subst he
            exact zr_one (some (.inr (.inr (some (.int (-1)))))) rfl (zR_ret rfl rfl)
          · rw [if_neg hc179] at h
            refine zr_steps 5 (86, [some (.ref 0), some (.int v1), some (.int v2), some (.int v3), some (.int 0), some (.int 0), none], [.int v3, .int v2, .int v1, .ref 1], (SH, I, J)) rfl ?_
            obtain ⟨t175, hc174, h⟩ := zbind h
            refine zr_one (some (.inr (.inl (69, [.ref 1, .int v1, .int v2, .int v3], [], 89)))) rfl (zR_call (by omega) rfl (ok_f69_mended (by omega) v1 v2 v3 _ hc174) ?_)
            refine zr_steps 3 (94, [some (.ref 0), some (.int v1), some (.int v2), some (.int v3), some (.int 0), some (.int 0), some (.int t175.1)], [.int v3, .int t175.1], (SH, t175.2, J)) rfl ?_
            refine zr_one (if t175.1 = v3 then zN 109 [some (.ref 0), some (.int v1), some (.int v2), some (.int v3), some (.int 0), some (.int 0), some (.int t175.1)] [] (SH, t175.2, J) else zN 97 [some (.ref 0), some (.int v1), some (.int v2), some (.int v3), some (.int 0), some (.int 0), some (.int t175.1)] [] (SH, t175.2, J)) rfl (zR_if (fun hc178 => zR_go ?_) (fun hc178 => zR_go ?_))
            · rw [if_pos hc178] at h
              refine zr_steps 1 (111, [some (.ref 0), some (.int v1), some (.int v2), some (.int v3), some (.int 0), some (.int 0), some (.int t175.1)], [.int t175.1], (SH, t175.2, J)) rfl ?_
              have he := Option.some.inj h
              subst he
              exact zr_one (some (.inr (.inr (some (.int t175.1))))) rfl (zR_ret rfl rfl)
            · rw [if_neg hc178] at h
              refine zr_steps 6 (106, [some (.ref 0), some (.int v1), some (.int v2), some (.int v3), some (.int 0), some (.int 0), some (.int t175.1)], [.int v3, .int t175.1, .int v2, .int v1, .ref 52], (SH, t175.2, J)) rfl ?_
              obtain ⟨t177, hc176, h⟩ := zbind h
              refine zr_one (some (.inr (.inl (13, [.ref 52, .int v1, .int v2, .int t175.1, .int v3], [], 109)))) rfl (zR_call (by omega) rfl (ok_f13_add (by omega) v1 v2 t175.1 v3 _ hc176) ?_)
              refine zr_steps 1 (111, [some (.ref 0), some (.int v1), some (.int v2), some (.int v3), some (.int 0), some (.int 0), some (.int t175.1)], [.int t175.1], (SH, t177, J)) rfl ?_
              have he := Option.some.inj h
              subst he
              exact zr_one (some (.inr (.inr (some (.int t175.1))))) rfl (zR_ret rfl rfl)
        · rw [if_neg hc185] at h
          refine zr_steps 5 (86, [some (.ref 0), some (.int v1), some (.int v2), some (.int v3), some (.int 0), some (.int 0), none], [.int v3, .int v2, .int v1, .ref 1], (SH, I, J)) rfl ?_
          obtain ⟨t181, hc180, h⟩ := zbind h
          refine zr_one (some (.inr (.inl (69, [.ref 1, .int v1, .int v2, .int v3], [], 89)))) rfl (zR_call (by omega) rfl (ok_f69_mended (by omega) v1 v2 v3 _ hc180) ?_)
          refine zr_steps 3 (94, [some (.ref 0), some (.int v1), some (.int v2), some (.int v3), some (.int 0), some (.int 0), some (.int t181.1)], [.int v3, .int t181.1], (SH, t181.2, J)) rfl ?_
          refine zr_one (if t181.1 = v3 then zN 109 [some (.ref 0), some (.int v1), some (.int v2), some (.int v3), some (.int 0), some (.int 0), some (.int t181.1)] [] (SH, t181.2, J) else zN 97 [some (.ref 0), some (.int v1), some (.int v2), some (.int v3), some (.int 0), some (.int 0), some (.int t181.1)] [] (SH, t181.2, J)) rfl (zR_if (fun hc184 => zR_go ?_) (fun hc184 => zR_go ?_))
          · rw [if_pos hc184] at h
            refine zr_steps 1 (111, [some (.ref 0), some (.int v1), some (.int v2), some (.int v3), some (.int 0), some (.int 0), some (.int t181.1)], [.int t181.1], (SH, t181.2, J)) rfl ?_
            have he := Option.some.inj h
            subst he
            exact zr_one (some (.inr (.inr (some (.int t181.1))))) rfl (zR_ret rfl rfl)
          · rw [if_neg hc184] at h
            refine zr_steps 6 (106, [some (.ref 0), some (.int v1), some (.int v2), some (.int v3), some (.int 0), some (.int 0), some (.int t181.1)], [.int v3, .int t181.1, .int v2, .int v1, .ref 52], (SH, t181.2, J)) rfl ?_
            obtain ⟨t183, hc182, h⟩ := zbind h
            refine zr_one (some (.inr (.inl (13, [.ref 52, .int v1, .int v2, .int t181.1, .int v3], [], 109)))) rfl (zR_call (by omega) rfl (ok_f13_add (by omega) v1 v2 t181.1 v3 _ hc182) ?_)
            refine zr_steps 1 (111, [some (.ref 0), some (.int v1), some (.int v2), some (.int v3), some (.int 0), some (.int 0), some (.int t181.1)], [.int t181.1], (SH, t183, J)) rfl ?_
            have he := Option.some.inj h
            subst he
            exact zr_one (some (.inr (.inr (some (.int t181.1))))) rfl (zR_ret rfl rfl)
      · rw [if_neg hc213] at h
        refine zr_steps 3 (54, [some (.ref 0), some (.int v1), some (.int v2), some (.int v3), some (.int 0), none, none], [.int 999, .int 0, .int v3], (SH, I, J)) rfl ?_
        obtain ⟨t187, hc186, h⟩ := zbind h
        refine zr_one (some (.inr (.inl (126, [.int v3, .int 0, .int 999], [], 57)))) rfl (zR_call (by omega) rfl (ok_f126_within (by omega) v3 0 999 _ hc186) ?_)
        refine zr_one (if t187 = 0 then zN 64 [some (.ref 0), some (.int v1), some (.int v2), some (.int v3), some (.int 0), none, none] [] (SH, I, J) else zN 60 [some (.ref 0), some (.int v1), some (.int v2), some (.int v3), some (.int 0), none, none] [] (SH, I, J)) rfl (zR_if (fun hc212 => zR_go ?_) (fun hc212 => zR_go ?_))
        · rw [if_pos hc212] at h
          refine zr_steps 3 (69, [some (.ref 0), some (.int v1), some (.int v2), some (.int v3), some (.int 0), some (.int 0), none], [.int 0], (SH, I, J)) rfl ?_
          refine zr_one (if (0 : Int32) = 0 then zN 72 [some (.ref 0), some (.int v1), some (.int v2), some (.int v3), some (.int 0), some (.int 0), none] [] (SH, I, J) else zN 79 [some (.ref 0), some (.int v1), some (.int v2), some (.int v3), some (.int 0), some (.int 0), none] [] (SH, I, J)) rfl (zR_if (fun hc199 => zR_go ?_) (fun hc199 => zR_go ?_))
          · rw [if_pos hc199] at h
            refine zr_steps 1 (74, [some (.ref 0), some (.int v1), some (.int v2), some (.int v3), some (.int 0), some (.int 0), none], [.int 0], (SH, I, J)) rfl ?_
            refine zr_one (if (0 : Int32) = 0 then zN 77 [some (.ref 0), some (.int v1), some (.int v2), some (.int v3), some (.int 0), some (.int 0), none] [] (SH, I, J) else zN 79 [some (.ref 0), some (.int v1), some (.int v2), some (.int v3), some (.int 0), some (.int 0), none] [] (SH, I, J)) rfl (zR_if (fun hc193 => zR_go ?_) (fun hc193 => zR_go ?_))
            · rw [if_pos hc193] at h
              refine zr_steps 1 (78, [some (.ref 0), some (.int v1), some (.int v2), some (.int v3), some (.int 0), some (.int 0), none], [.int (-1)], (SH, I, J)) rfl ?_
              have he := Option.some.inj h
              subst he
              exact zr_one (some (.inr (.inr (some (.int (-1)))))) rfl (zR_ret rfl rfl)
            · rw [if_neg hc193] at h
              refine zr_steps 5 (86, [some (.ref 0), some (.int v1), some (.int v2), some (.int v3), some (.int 0), some (.int 0), none], [.int v3, .int v2, .int v1, .ref 1], (SH, I, J)) rfl ?_
              obtain ⟨t189, hc188, h⟩ := zbind h
              refine zr_one (some (.inr (.inl (69, [.ref 1, .int v1, .int v2, .int v3], [], 89)))) rfl (zR_call (by omega) rfl (ok_f69_mended (by omega) v1 v2 v3 _ hc188) ?_)
              refine zr_steps 3 (94, [some (.ref 0), some (.int v1), some (.int v2), some (.int v3), some (.int 0), some (.int 0), some (.int t189.1)], [.int v3, .int t189.1], (SH, t189.2, J)) rfl ?_
              refine zr_one (if t189.1 = v3 then zN 109 [some (.ref 0), some (.int v1), some (.int v2), some (.int v3), some (.int 0), some (.int 0), some (.int t189.1)] [] (SH, t189.2, J) else zN 97 [some (.ref 0), some (.int v1), some (.int v2), some (.int v3), some (.int 0), some (.int 0), some (.int t189.1)] [] (SH, t189.2, J)) rfl (zR_if (fun hc192 => zR_go ?_) (fun hc192 => zR_go ?_))
              · rw [if_pos hc192] at h
                refine zr_steps 1 (111, [some (.ref 0), some (.int v1), some (.int v2), some (.int v3), some (.int 0), some (.int 0), some (.int t189.1)], [.int t189.1], (SH, t189.2, J)) rfl ?_
                have he := Option.some.inj h
                subst he
                exact zr_one (some (.inr (.inr (some (.int t189.1))))) rfl (zR_ret rfl rfl)
              · rw [if_neg hc192] at h
                refine zr_steps 6 (106, [some (.ref 0), some (.int v1), some (.int v2), some (.int v3), some (.int 0), some (.int 0), some (.int t189.1)], [.int v3, .int t189.1, .int v2, .int v1, .ref 52], (SH, t189.2, J)) rfl ?_
                obtain ⟨t191, hc190, h⟩ := zbind h
                refine zr_one (some (.inr (.inl (13, [.ref 52, .int v1, .int v2, .int t189.1, .int v3], [], 109)))) rfl (zR_call (by omega) rfl (ok_f13_add (by omega) v1 v2 t189.1 v3 _ hc190) ?_)
                refine zr_steps 1 (111, [some (.ref 0), some (.int v1), some (.int v2), some (.int v3), some (.int 0), some (.int 0), some (.int t189.1)], [.int t189.1], (SH, t191, J)) rfl ?_
                have he := Option.some.inj h
                subst he
                exact zr_one (some (.inr (.inr (some (.int t189.1))))) rfl (zR_ret rfl rfl)
          · rw [if_neg hc199] at h
            refine zr_steps 5 (86, [some (.ref 0), some (.int v1), some (.int v2), some (.int v3), some (.int 0), some (.int 0), none], [.int v3, .int v2, .int v1, .ref 1], (SH, I, J)) rfl ?_
            obtain ⟨t195, hc194, h⟩ := zbind h
            refine zr_one (some (.inr (.inl (69, [.ref 1, .int v1, .int v2, .int v3], [], 89)))) rfl (zR_call (by omega) rfl (ok_f69_mended (by omega) v1 v2 v3 _ hc194) ?_)
            refine zr_steps 3 (94, [some (.ref 0), some (.int v1), some (.int v2), some (.int v3), some (.int 0), some (.int 0), some (.int t195.1)], [.int v3, .int t195.1], (SH, t195.2, J)) rfl ?_
            refine zr_one (if t195.1 = v3 then zN 109 [some (.ref 0), some (.int v1), some (.int v2), some (.int v3), some (.int 0), some (.int 0), some (.int t195.1)] [] (SH, t195.2, J) else zN 97 [some (.ref 0), some (.int v1), some (.int v2), some (.int v3), some (.int 0), some (.int 0), some (.int t195.1)] [] (SH, t195.2, J)) rfl (zR_if (fun hc198 => zR_go ?_) (fun hc198 => zR_go ?_))
            · rw [if_pos hc198] at h
              refine zr_steps 1 (111, [some (.ref 0), some (.int v1), some (.int v2), some (.int v3), some (.int 0), some (.int 0), some (.int t195.1)], [.int t195.1], (SH, t195.2, J)) rfl ?_
              have he := Option.some.inj h
              subst he
              exact zr_one (some (.inr (.inr (some (.int t195.1))))) rfl (zR_ret rfl rfl)
            · rw [if_neg hc198] at h
              refine zr_steps 6 (106, [some (.ref 0), some (.int v1), some (.int v2), some (.int v3), some (.int 0), some (.int 0), some (.int t195.1)], [.int v3, .int t195.1, .int v2, .int v1, .ref 52], (SH, t195.2, J)) rfl ?_
              obtain ⟨t197, hc196, h⟩ := zbind h
              refine zr_one (some (.inr (.inl (13, [.ref 52, .int v1, .int v2, .int t195.1, .int v3], [], 109)))) rfl (zR_call (by omega) rfl (ok_f13_add (by omega) v1 v2 t195.1 v3 _ hc196) ?_)
              refine zr_steps 1 (111, [some (.ref 0), some (.int v1), some (.int v2), some (.int v3), some (.int 0), some (.int 0), some (.int t195.1)], [.int t195.1], (SH, t197, J)) rfl ?_
              have he := Option.some.inj h
              subst he
              exact zr_one (some (.inr (.inr (some (.int t195.1))))) rfl (zR_ret rfl rfl)
        · rw [if_neg hc212] at h
          refine zr_steps 4 (69, [some (.ref 0), some (.int v1), some (.int v2), some (.int v3), some (.int 0), some (.int 1), none], [.int 0], (SH, I, J)) rfl ?_
          refine zr_one (if (0 : Int32) = 0 then zN 72 [some (.ref 0), some (.int v1), some (.int v2), some (.int v3), some (.int 0), some (.int 1), none] [] (SH, I, J) else zN 79 [some (.ref 0), some (.int v1), some (.int v2), some (.int v3), some (.int 0), some (.int 1), none] [] (SH, I, J)) rfl (zR_if (fun hc211 => zR_go ?_) (fun hc211 => zR_go ?_))
          · rw [if_pos hc211] at h
            refine zr_steps 1 (74, [some (.ref 0), some (.int v1), some (.int v2), some (.int v3), some (.int 0), some (.int 1), none], [.int 1], (SH, I, J)) rfl ?_
            refine zr_one (if (1 : Int32) = 0 then zN 77 [some (.ref 0), some (.int v1), some (.int v2), some (.int v3), some (.int 0), some (.int 1), none] [] (SH, I, J) else zN 79 [some (.ref 0), some (.int v1), some (.int v2), some (.int v3), some (.int 0), some (.int 1), none] [] (SH, I, J)) rfl (zR_if (fun hc205 => zR_go ?_) (fun hc205 => zR_go ?_))
            · rw [if_pos hc205] at h
              refine zr_steps 1 (78, [some (.ref 0), some (.int v1), some (.int v2), some (.int v3), some (.int 0), some (.int 1), none], [.int (-1)], (SH, I, J)) rfl ?_
              have he := Option.some.inj h
              subst he
              exact zr_one (some (.inr (.inr (some (.int (-1)))))) rfl (zR_ret rfl rfl)
            · rw [if_neg hc205] at h
              refine zr_steps 5 (86, [some (.ref 0), some (.int v1), some (.int v2), some (.int v3), some (.int 0), some (.int 1), none], [.int v3, .int v2, .int v1, .ref 1], (SH, I, J)) rfl ?_
              obtain ⟨t201, hc200, h⟩ := zbind h
              refine zr_one (some (.inr (.inl (69, [.ref 1, .int v1, .int v2, .int v3], [], 89)))) rfl (zR_call (by omega) rfl (ok_f69_mended (by omega) v1 v2 v3 _ hc200) ?_)
              refine zr_steps 3 (94, [some (.ref 0), some (.int v1), some (.int v2), some (.int v3), some (.int 0), some (.int 1), some (.int t201.1)], [.int v3, .int t201.1], (SH, t201.2, J)) rfl ?_
              refine zr_one (if t201.1 = v3 then zN 109 [some (.ref 0), some (.int v1), some (.int v2), some (.int v3), some (.int 0), some (.int 1), some (.int t201.1)] [] (SH, t201.2, J) else zN 97 [some (.ref 0), some (.int v1), some (.int v2), some (.int v3), some (.int 0), some (.int 1), some (.int t201.1)] [] (SH, t201.2, J)) rfl (zR_if (fun hc204 => zR_go ?_) (fun hc204 => zR_go ?_))
              · rw [if_pos hc204] at h
                refine zr_steps 1 (111, [some (.ref 0), some (.int v1), some (.int v2), some (.int v3), some (.int 0), some (.int 1), some (.int t201.1)], [.int t201.1], (SH, t201.2, J)) rfl ?_
                have he := Option.some.inj h
                subst he
                exact zr_one (some (.inr (.inr (some (.int t201.1))))) rfl (zR_ret rfl rfl)
              · rw [if_neg hc204] at h
                refine zr_steps 6 (106, [some (.ref 0), some (.int v1), some (.int v2), some (.int v3), some (.int 0), some (.int 1), some (.int t201.1)], [.int v3, .int t201.1, .int v2, .int v1, .ref 52], (SH, t201.2, J)) rfl ?_
                obtain ⟨t203, hc202, h⟩ := zbind h
                refine zr_one (some (.inr (.inl (13, [.ref 52, .int v1, .int v2, .int t201.1, .int v3], [], 109)))) rfl (zR_call (by omega) rfl (ok_f13_add (by omega) v1 v2 t201.1 v3 _ hc202) ?_)
                refine zr_steps 1 (111, [some (.ref 0), some (.int v1), some (.int v2), some (.int v3), some (.int 0), some (.int 1), some (.int t201.1)], [.int t201.1], (SH, t203, J)) rfl ?_
                have he := Option.some.inj h
                subst he
                exact zr_one (some (.inr (.inr (some (.int t201.1))))) rfl (zR_ret rfl rfl)
          · rw [if_neg hc211] at h
            refine zr_steps 5 (86, [some (.ref 0), some (.int v1), some (.int v2), some (.int v3), some (.int 0), some (.int 1), none], [.int v3, .int v2, .int v1, .ref 1], (SH, I, J)) rfl ?_
            obtain ⟨t207, hc206, h⟩ := zbind h
            refine zr_one (some (.inr (.inl (69, [.ref 1, .int v1, .int v2, .int v3], [], 89)))) rfl (zR_call (by omega) rfl (ok_f69_mended (by omega) v1 v2 v3 _ hc206) ?_)
            refine zr_steps 3 (94, [some (.ref 0), some (.int v1), some (.int v2), some (.int v3), some (.int 0), some (.int 1), some (.int t207.1)], [.int v3, .int t207.1], (SH, t207.2, J)) rfl ?_
            refine zr_one (if t207.1 = v3 then zN 109 [some (.ref 0), some (.int v1), some (.int v2), some (.int v3), some (.int 0), some (.int 1), some (.int t207.1)] [] (SH, t207.2, J) else zN 97 [some (.ref 0), some (.int v1), some (.int v2), some (.int v3), some (.int 0), some (.int 1), some (.int t207.1)] [] (SH, t207.2, J)) rfl (zR_if (fun hc210 => zR_go ?_) (fun hc210 => zR_go ?_))
            · rw [if_pos hc210] at h
              refine zr_steps 1 (111, [some (.ref 0), some (.int v1), some (.int v2), some (.int v3), some (.int 0), some (.int 1), some (.int t207.1)], [.int t207.1], (SH, t207.2, J)) rfl ?_
              have he := Option.some.inj h
              subst he
              exact zr_one (some (.inr (.inr (some (.int t207.1))))) rfl (zR_ret rfl rfl)
            · rw [if_neg hc210] at h
              refine zr_steps 6 (106, [some (.ref 0), some (.int v1), some (.int v2), some (.int v3), some (.int 0), some (.int 1), some (.int t207.1)], [.int v3, .int t207.1, .int v2, .int v1, .ref 52], (SH, t207.2, J)) rfl ?_
              obtain ⟨t209, hc208, h⟩ := zbind h
              refine zr_one (some (.inr (.inl (13, [.ref 52, .int v1, .int v2, .int t207.1, .int v3], [], 109)))) rfl (zR_call (by omega) rfl (ok_f13_add (by omega) v1 v2 t207.1 v3 _ hc208) ?_)
              refine zr_steps 1 (111, [some (.ref 0), some (.int v1), some (.int v2), some (.int v3), some (.int 0), some (.int 1), some (.int t207.1)], [.int t207.1], (SH, t209, J)) rfl ?_
              have he := Option.some.inj h
              subst he
              exact zr_one (some (.inr (.inr (some (.int t207.1))))) rfl (zR_ret rfl rfl)
    · rw [if_neg hc226] at h
      refine zr_steps 3 (69, [some (.ref 0), some (.int v1), some (.int v2), some (.int v3), some (.int 0), some (.int 0), none], [.int 0], (SH, I, J)) rfl ?_
      refine zr_one (if (0 : Int32) = 0 then zN 72 [some (.ref 0), some (.int v1), some (.int v2), some (.int v3), some (.int 0), some (.int 0), none] [] (SH, I, J) else zN 79 [some (.ref 0), some (.int v1), some (.int v2), some (.int v3), some (.int 0), some (.int 0), none] [] (SH, I, J)) rfl (zR_if (fun hc225 => zR_go ?_) (fun hc225 => zR_go ?_))
      · rw [if_pos hc225] at h
        refine zr_steps 1 (74, [some (.ref 0), some (.int v1), some (.int v2), some (.int v3), some (.int 0), some (.int 0), none], [.int 0], (SH, I, J)) rfl ?_
        refine zr_one (if (0 : Int32) = 0 then zN 77 [some (.ref 0), some (.int v1), some (.int v2), some (.int v3), some (.int 0), some (.int 0), none] [] (SH, I, J) else zN 79 [some (.ref 0), some (.int v1), some (.int v2), some (.int v3), some (.int 0), some (.int 0), none] [] (SH, I, J)) rfl (zR_if (fun hc219 => zR_go ?_) (fun hc219 => zR_go ?_))
        · rw [if_pos hc219] at h
          refine zr_steps 1 (78, [some (.ref 0), some (.int v1), some (.int v2), some (.int v3), some (.int 0), some (.int 0), none], [.int (-1)], (SH, I, J)) rfl ?_
          have he := Option.some.inj h
          subst he
          exact zr_one (some (.inr (.inr (some (.int (-1)))))) rfl (zR_ret rfl rfl)
        · rw [if_neg hc219] at h
          refine zr_steps 5 (86, [some (.ref 0), some (.int v1), some (.int v2), some (.int v3), some (.int 0), some (.int 0), none], [.int v3, .int v2, .int v1, .ref 1], (SH, I, J)) rfl ?_
          obtain ⟨t215, hc214, h⟩ := zbind h
          refine zr_one (some (.inr (.inl (69, [.ref 1, .int v1, .int v2, .int v3], [], 89)))) rfl (zR_call (by omega) rfl (ok_f69_mended (by omega) v1 v2 v3 _ hc214) ?_)
          refine zr_steps 3 (94, [some (.ref 0), some (.int v1), some (.int v2), some (.int v3), some (.int 0), some (.int 0), some (.int t215.1)], [.int v3, .int t215.1], (SH, t215.2, J)) rfl ?_
          refine zr_one (if t215.1 = v3 then zN 109 [some (.ref 0), some (.int v1), some (.int v2), some (.int v3), some (.int 0), some (.int 0), some (.int t215.1)] [] (SH, t215.2, J) else zN 97 [some (.ref 0), some (.int v1), some (.int v2), some (.int v3), some (.int 0), some (.int 0), some (.int t215.1)] [] (SH, t215.2, J)) rfl (zR_if (fun hc218 => zR_go ?_) (fun hc218 => zR_go ?_))
          · rw [if_pos hc218] at h
            refine zr_steps 1 (111, [some (.ref 0), some (.int v1), some (.int v2), some (.int v3), some (.int 0), some (.int 0), some (.int t215.1)], [.int t215.1], (SH, t215.2, J)) rfl ?_
            have he := Option.some.inj h
            subst he
            exact zr_one (some (.inr (.inr (some (.int t215.1))))) rfl (zR_ret rfl rfl)
          · rw [if_neg hc218] at h
            refine zr_steps 6 (106, [some (.ref 0), some (.int v1), some (.int v2), some (.int v3), some (.int 0), some (.int 0), some (.int t215.1)], [.int v3, .int t215.1, .int v2, .int v1, .ref 52], (SH, t215.2, J)) rfl ?_
            obtain ⟨t217, hc216, h⟩ := zbind h
            refine zr_one (some (.inr (.inl (13, [.ref 52, .int v1, .int v2, .int t215.1, .int v3], [], 109)))) rfl (zR_call (by omega) rfl (ok_f13_add (by omega) v1 v2 t215.1 v3 _ hc216) ?_)
            refine zr_steps 1 (111, [some (.ref 0), some (.int v1), some (.int v2), some (.int v3), some (.int 0), some (.int 0), some (.int t215.1)], [.int t215.1], (SH, t217, J)) rfl ?_
            have he := Option.some.inj h
            subst he
            exact zr_one (some (.inr (.inr (some (.int t215.1))))) rfl (zR_ret rfl rfl)
      · rw [if_neg hc225] at h
        refine zr_steps 5 (86, [some (.ref 0), some (.int v1), some (.int v2), some (.int v3), some (.int 0), some (.int 0), none], [.int v3, .int v2, .int v1, .ref 1], (SH, I, J)) rfl ?_
        obtain ⟨t221, hc220, h⟩ := zbind h
        refine zr_one (some (.inr (.inl (69, [.ref 1, .int v1, .int v2, .int v3], [], 89)))) rfl (zR_call (by omega) rfl (ok_f69_mended (by omega) v1 v2 v3 _ hc220) ?_)
        refine zr_steps 3 (94, [some (.ref 0), some (.int v1), some (.int v2), some (.int v3), some (.int 0), some (.int 0), some (.int t221.1)], [.int v3, .int t221.1], (SH, t221.2, J)) rfl ?_
        refine zr_one (if t221.1 = v3 then zN 109 [some (.ref 0), some (.int v1), some (.int v2), some (.int v3), some (.int 0), some (.int 0), some (.int t221.1)] [] (SH, t221.2, J) else zN 97 [some (.ref 0), some (.int v1), some (.int v2), some (.int v3), some (.int 0), some (.int 0), some (.int t221.1)] [] (SH, t221.2, J)) rfl (zR_if (fun hc224 => zR_go ?_) (fun hc224 => zR_go ?_))
        · rw [if_pos hc224] at h
          refine zr_steps 1 (111, [some (.ref 0), some (.int v1), some (.int v2), some (.int v3), some (.int 0), some (.int 0), some (.int t221.1)], [.int t221.1], (SH, t221.2, J)) rfl ?_
          have he := Option.some.inj h
          subst he
          exact zr_one (some (.inr (.inr (some (.int t221.1))))) rfl (zR_ret rfl rfl)
        · rw [if_neg hc224] at h
          refine zr_steps 6 (106, [some (.ref 0), some (.int v1), some (.int v2), some (.int v3), some (.int 0), some (.int 0), some (.int t221.1)], [.int v3, .int t221.1, .int v2, .int v1, .ref 52], (SH, t221.2, J)) rfl ?_
          obtain ⟨t223, hc222, h⟩ := zbind h
          refine zr_one (some (.inr (.inl (13, [.ref 52, .int v1, .int v2, .int t221.1, .int v3], [], 109)))) rfl (zR_call (by omega) rfl (ok_f13_add (by omega) v1 v2 t221.1 v3 _ hc222) ?_)
          refine zr_steps 1 (111, [some (.ref 0), some (.int v1), some (.int v2), some (.int v3), some (.int 0), some (.int 0), some (.int t221.1)], [.int t221.1], (SH, t223, J)) rfl ?_
          have he := Option.some.inj h
          subst he
          exact zr_one (some (.inr (.inr (some (.int t221.1))))) rfl (zR_ret rfl rfl)
def f131_isSort (v1 : Int32) (I : (Nat → Nat → Int32)) : Option Int32 :=
  Option.bind (f129_in v1 0 ((I 73 9) - 1)) fun t2 =>
  if (t2 = 0 ∨ t2 = 1) then
    some t2
  else none
theorem ok_f131_isSort {X : zX} {d : Nat} (hd : 1 ≤ d) (v1 : Int32) {I : (Nat → Nat → Int32)} {J : (Nat → Nat → Int64)} (t : Int32) (h : f131_isSort v1 I = some t) : zRun X d 131 0 (zent 131 [.ref 73, .int v1]) [] (SH, I, J) (some (.int t)) (SH, I, J) := by
  unfold f131_isSort at h
  refine zr_steps 6 (8, [some (.ref 73), some (.int v1)], [.int ((I 73 9) - 1), .int 0, .int v1], (SH, I, J)) rfl ?_
  obtain ⟨t2, hc1, h⟩ := zbind h
  refine zr_one (some (.inr (.inl (129, [.int v1, .int 0, .int ((I 73 9) - 1)], [], 11)))) rfl (zR_call (by omega) rfl (ok_f129_in (by omega) v1 0 ((I 73 9) - 1) _ hc1) ?_)
  obtain ⟨hc3, h⟩ := zifo h
  have he := Option.some.inj h
  subst he
  exact zr_one (if ((t2 : Int32) = 0 ∨ (t2 : Int32) = 1) then some (.inr (.inr (some (.int t2)))) else none) rfl (zR_pos hc3 (zR_ret rfl rfl))
