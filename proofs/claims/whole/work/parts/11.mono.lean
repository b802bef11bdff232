/-! the memory only grows -/
def zle (M M1 : zM) : Prop := M.1.length ≤ M1.1.length ∧ zsl M ≤ zsl M1
theorem zle.rf {M : zM} : zle M M := ⟨Nat.le_refl _, Nat.le_refl _⟩
theorem zle.tr {M1 M2 M3 : zM} (h : zle M1 M2) (g : zle M2 M3) : zle M1 M3 := ⟨Nat.le_trans h.1 g.1, Nat.le_trans h.2 g.2⟩
theorem zle_new {M : zM} {s : zSh} : zle M (znew M s) := ⟨by unfold znew; simp, by rw [zsl_new]; omega⟩
theorem zle_news {r : List zSh} : ∀ {M : zM}, zle M (znews M r) := by
  induction r with
  | nil => intro M; exact zle.rf
  | cons s r ih => intro M; exact zle_new.tr ih
theorem zle_wr {M : zM} {a k v : Nat} (h : k < (zsh M a).2.2.length) : zle M (zwr M a k v) := by
  have ha : a < M.1.length := by
    rcases Nat.lt_or_ge a M.1.length with q | q
    · exact q
    · exfalso
      unfold zsh at h
      rw [List.getElem?_eq_none q] at h
      exact absurd h (Nat.not_lt_zero _)
  exact ⟨by unfold zwr; simp, by rw [zsl_wr ha]; exact Nat.le_refl _⟩
section ZMONO
variable {X : zX} {m pc n i nL kd c k a1 a2 : Nat} {ls : zLs} {st : List Value} {M : zM} {v : Option Value} {w : Option Nat} {q1 : Nat × zLs × List Value × zM}
theorem zinl {A B : zRes} (h : A = some (.inl q1)) (e : A = B) : B = some (.inl q1) := e ▸ h
theorem zm_end {a : Nat} {b : zLs} {d : List Value} {M1 : zM} (h : zN a b d M1 = some (.inl q1)) (hm : zle M M1) : zle M q1.2.2.2 := by
  cases h; exact hm
theorem zm_bif {b : Bool} {A : zRes} (h : (bif b then A else none) = some (.inl q1)) (k : b = true → A = some (.inl q1) → zle M q1.2.2.2) : zle M q1.2.2.2 := by
  obtain ⟨h1, h2⟩ := zbif h (by intro q; cases q)
  exact k h1 h2
theorem zm_push1 (h : zpush1 n ls st M v = some (.inl q1)) : zle M q1.2.2.2 := by
  unfold zpush1 at h; split at h <;> cases h; exact zle.rf
theorem zm_push2 (h : zpush2 n ls st M v = some (.inl q1)) : zle M q1.2.2.2 := by
  unfold zpush2 at h; split at h <;> cases h; exact zle.rf
theorem zm_pushr (h : zpushr n ls st M v = some (.inl q1)) : zle M q1.2.2.2 := by
  unfold zpushr at h; split at h <;> cases h; exact zle.rf
theorem zm_refr (h : zrefr n ls st M w = some (.inl q1)) : zle M q1.2.2.2 := by
  unfold zrefr at h; split at h <;> cases h; exact zle.rf
theorem zm_sti (h : zsti n ls st M nL i = some (.inl q1)) : zle M q1.2.2.2 := by
  unfold zsti at h; split at h
  · exact zm_bif h fun _ h => zm_end h zle.rf
  · cases h
theorem zm_sta (h : zsta n ls st M nL i = some (.inl q1)) : zle M q1.2.2.2 := by
  unfold zsta at h; split at h
  · exact zm_bif h fun _ h => zm_end h zle.rf
  · cases h
theorem zm_stl (h : zstl n ls st M nL i = some (.inl q1)) : zle M q1.2.2.2 := by
  unfold zstl at h; split at h
  · exact zm_bif h fun _ h => zm_end h zle.rf
  · cases h
theorem zm_iinc {x : Int} (h : ziinc pc i x nL ls st M = some (.inl q1)) : zle M q1.2.2.2 := by
  unfold ziinc at h; split at h
  · exact zm_bif h fun _ h => zm_end h zle.rf
  · cases h
theorem zm_op1 {f : Int32 → Int32} (h : zop1 f pc ls st M = some (.inl q1)) : zle M q1.2.2.2 := by
  unfold zop1 at h; split at h <;> cases h; exact zle.rf
theorem zm_op2 {f : Int32 → Int32 → Int32} (h : zop2 f pc ls st M = some (.inl q1)) : zle M q1.2.2.2 := by
  unfold zop2 at h; split at h <;> cases h; exact zle.rf
theorem zm_div {f : Int32 → Int32 → Int32} (h : zdiv f pc ls st M = some (.inl q1)) : zle M q1.2.2.2 := by
  unfold zdiv at h; split at h
  · split at h <;> cases h; exact zle.rf
  · cases h
theorem zm_lop2 {f : Int64 → Int64 → Int64} (h : zlop2 f pc ls st M = some (.inl q1)) : zle M q1.2.2.2 := by
  unfold zlop2 at h; split at h <;> cases h; exact zle.rf
theorem zm_il (h : zil pc ls st M = some (.inl q1)) : zle M q1.2.2.2 := by
  unfold zil at h; split at h <;> cases h; exact zle.rf
theorem zm_li (h : zli pc ls st M = some (.inl q1)) : zle M q1.2.2.2 := by
  unfold zli at h; split at h <;> cases h; exact zle.rf
theorem zm_lshl (h : zlshl pc ls st M = some (.inl q1)) : zle M q1.2.2.2 := by
  unfold zlshl at h; split at h <;> cases h; exact zle.rf
theorem zm_lcmp (h : zlcmp pc ls st M = some (.inl q1)) : zle M q1.2.2.2 := by
  unfold zlcmp at h; split at h <;> cases h; exact zle.rf
theorem zm_dup (h : zdup pc ls st M = some (.inl q1)) : zle M q1.2.2.2 := by
  unfold zdup at h; split at h <;> cases h <;> exact zle.rf
theorem zm_dup2 (h : zdup2 pc ls st M = some (.inl q1)) : zle M q1.2.2.2 := by
  unfold zdup2 at h; split at h <;> cases h <;> exact zle.rf
theorem zm_pop (h : zpop pc ls st M = some (.inl q1)) : zle M q1.2.2.2 := by
  unfold zpop at h; split at h <;> cases h <;> exact zle.rf
theorem zm_jump {o : Int} (h : zjump pc o ls st M = some (.inl q1)) : zle M q1.2.2.2 := by
  unfold zjump at h; exact zm_bif h fun _ h => zm_end h zle.rf
theorem zm_cond {cn : ClassFile.Cond} {x z : Int32} {a b a' b' : Nat} (h : zcond cn x z (zN a ls st M) (zN b ls st M) = some (.inl q1)) : zle M q1.2.2.2 := by
  cases cn <;> unfold zcond at h <;> dsimp only at h <;> split at h <;> cases h <;> exact zle.rf
theorem zm_if {cn : ClassFile.Cond} {o : Int} (h : zif cn pc o ls st M = some (.inl q1)) : zle M q1.2.2.2 := by
  unfold zif at h; split at h
  · exact zm_bif h fun _ h => zm_cond (a' := 0) (b' := 0) h
  · cases h
theorem zm_icmp {cn : ClassFile.Cond} {o : Int} (h : zific cn pc o ls st M = some (.inl q1)) : zle M q1.2.2.2 := by
  unfold zific at h; split at h
  · exact zm_bif h fun _ h => zm_cond (a' := 0) (b' := 0) h
  · cases h
theorem zm_tab {x : Int32} {d : Int} : ∀ (os : List Int) (lo : Int), ztab pc x d ls st M lo os = some (.inl q1) → zle M q1.2.2.2
  | [], lo, h => zm_jump h
  | o :: os, lo, h => by
    unfold ztab at h
    split at h
    · exact zm_jump h
    · exact zm_tab os _ h
theorem zm_look {x : Int32} {d : Int} : ∀ (os : List (Int × Int)), zlook pc x d ls st M os = some (.inl q1) → zle M q1.2.2.2
  | [], h => zm_jump h
  | o :: os, h => by
    unfold zlook at h
    split at h
    · exact zm_jump h
    · exact zm_look os h
theorem zm_get (h : zfget pc c k ls st M = some (.inl q1)) : zle M q1.2.2.2 := by
  unfold zfget at h; split at h
  · rename_i a r
    cases g : Nat.beq c 90 with
    | true =>
      rw [g] at h
      have h : (bif Nat.beq a 1001 then (bif Nat.beq k 0 then zN (pc + 3) ls (.ref 1003 :: r) M else zN (pc + 3) ls (.int 0 :: r) M) else none) = some (.inl q1) := h
      refine zm_bif h fun _ h => ?_
      cases g2 : Nat.beq k 0 <;> rw [g2] at h
      · exact zm_end (b := ls) (M1 := M) h zle.rf
      · exact zm_end (b := ls) (M1 := M) h zle.rf
    | false =>
      rw [g] at h
      refine zm_bif (b := Nat.blt a 1000 && Nat.beq (zkd M a) (10 + c) && Nat.blt k (zNf c)) h fun _ h => ?_
      split at h
      · exact zm_end h zle.rf
      · exact zm_end h zle.rf
      · exact zm_refr h
      · cases h
  · cases h
theorem zm_put (h : zfput m pc c k ls st M = some (.inl q1)) : zle M q1.2.2.2 := by
  unfold zfput at h; split at h
  · refine zm_bif h fun _ h => ?_
    split at h
    · exact zm_end h ⟨Nat.le_refl _, Nat.le_refl _⟩
    · split at h
      · exact zm_end h ⟨Nat.le_refl _, Nat.le_refl _⟩
      · cases h
    · cases h
  · refine zm_bif h fun h1 h => zm_end h (zle_wr ?_)
    obtain ⟨h1, -⟩ := zband h1
    obtain ⟨-, h1⟩ := zband h1
    exact Nat.blt_eq.mp h1
  · cases h
theorem zm_ald (h : ziald X kd pc ls st M = some (.inl q1)) : zle M q1.2.2.2 := by
  unfold ziald at h; split at h
  · rename_i i a r
    cases g1 : Nat.blt a 1000 <;> rw [g1] at h
    · cases g2 : (Nat.beq kd 0 && Nat.beq a 1000) <;> rw [g2] at h
      · cases g3 : (Nat.beq kd 0 && Nat.beq a 1002) <;> rw [g3] at h
        · exact zm_bif (b := Nat.beq kd 1 && Nat.beq a 1003) h fun _ h => zm_bif h fun _ h => zm_end h zle.rf
        · exact zm_bif (b := zin i 8) h fun _ h => zm_end h zle.rf
      · exact zm_bif (b := zin i X.1) h fun _ h => zm_end h zle.rf
    · exact zm_bif (b := Nat.beq (zkd M a) kd) h fun _ h => zm_bif h fun _ h => zm_end h zle.rf
  · cases h
theorem zm_ast {g : Int32 → Int32} (h : ziast kd pc g ls st M = some (.inl q1)) : zle M q1.2.2.2 := by
  unfold ziast at h; split at h
  · exact zm_bif h fun _ h => zm_bif h fun _ h => zm_bif h fun _ h => zm_end h ⟨Nat.le_refl _, Nat.le_refl _⟩
  · cases h
theorem zm_lald (h : zlald pc ls st M = some (.inl q1)) : zle M q1.2.2.2 := by
  unfold zlald at h; split at h
  · exact zm_bif h fun _ h => zm_bif h fun _ h => zm_bif h fun _ h => zm_end h zle.rf
  · cases h
theorem zm_last (h : zlast pc ls st M = some (.inl q1)) : zle M q1.2.2.2 := by
  unfold zlast at h; split at h
  · exact zm_bif h fun _ h => zm_bif h fun _ h => zm_bif h fun _ h => zm_end h ⟨Nat.le_refl _, Nat.le_refl _⟩
  · cases h
theorem zm_aald (h : zaald pc ls st M = some (.inl q1)) : zle M q1.2.2.2 := by
  unfold zaald at h; split at h
  · exact zm_bif h fun _ h => zm_bif h fun _ h => zm_bif h fun _ h => zm_refr h
  · cases h
theorem zm_aast (h : zaast pc ls st M = some (.inl q1)) : zle M q1.2.2.2 := by
  unfold zaast at h; split at h
  · refine zm_bif h fun h1 h => zm_end h (zle_wr ?_)
    obtain ⟨-, h1⟩ := zband h1
    exact Nat.blt_eq.mp h1
  · cases h
theorem zm_alen (h : zalen X pc ls st M = some (.inl q1)) : zle M q1.2.2.2 := by
  unfold zalen at h; split at h
  · rename_i a r
    cases g1 : Nat.beq a 1000 <;> rw [g1] at h
    · exact zm_bif (b := Nat.beq a 1003) h fun _ h => zm_end h zle.rf
    · exact zm_end (b := ls) (M1 := M) h zle.rf
  · cases h
theorem zm_newa {t : ArrayType} (h : znewa pc t ls st M = some (.inl q1)) : zle M q1.2.2.2 := by
  unfold znewa at h; split at h
  · exact zm_bif h fun _ h => zm_end h zle_new
  · cases h
theorem zm_newo (h : znewo pc c ls st M = some (.inl q1)) : zle M q1.2.2.2 := by
  unfold znewo at h
  exact zm_bif h fun _ h => zm_end h zle_new
theorem zm_newq (h : znewq pc ls st M = some (.inl q1)) : zle M q1.2.2.2 := by
  unfold znewq at h; split at h
  · exact zm_bif h fun _ h => zm_end h zle_new
  · cases h
theorem zm_newm (h : znewm pc ls st M = some (.inl q1)) : zle M q1.2.2.2 := by
  unfold znewm at h; split at h
  · exact zm_bif h fun _ h => zm_end h zle_news
  · cases h
theorem zm_inv (h : zinv pc a1 a2 ls st M = some (.inl q1)) : zle M q1.2.2.2 := by
  unfold zinv at h; split at h
  · exact zm_bif h fun _ h => by cases h
  · exact zm_bif h fun _ h => by cases h
  · split at h
    · exact zm_bif h fun _ h => zm_end h zle.rf
    · cases h
  · split at h
    · exact zm_bif h fun _ h => zm_end h zle.rf
    · cases h
  · split at h
    · exact zm_bif h fun _ h => zm_end h zle.rf
    · cases h
  · unfold zcopy at h; split at h
    · refine zm_bif h fun _ h => ?_
      split at h
      · exact zm_end h ⟨Nat.le_refl _, Nat.le_refl _⟩
      · exact zm_end h ⟨Nat.le_refl _, Nat.le_refl _⟩
      · cases h
    · cases h
  · cases h
theorem zm_step (h : zstep X m pc ls st M = some (.inl q1)) : zle M q1.2.2.2 := by
  unfold zstep at h
  split at h
  · rename_i en hz
    obtain ⟨ins, n, a1, a2, ai⟩ := en
    generalize zmsk (zmk m pc) ls = ls at h
    unfold zins at h
    cases ins
    case aload_n => exact zm_pushr h
    case aload => exact zm_pushr h
    case iload_n => exact zm_push1 h
    case iload => exact zm_push1 h
    case lload_n => exact zm_push2 h
    case lload => exact zm_push2 h
    case istore_n => exact zm_sti h
    case istore => exact zm_sti h
    case astore_n => exact zm_sta h
    case astore => exact zm_sta h
    case lstore_n => exact zm_stl h
    case lstore => exact zm_stl h
    case iinc => exact zm_iinc h
    case getfield => exact zm_get h
    case putfield => exact zm_put h
    case iaload => exact zm_ald h
    case baload => exact zm_ald h
    case saload => exact zm_ald h
    case laload => exact zm_lald h
    case aaload => exact zm_aald h
    case iastore => exact zm_ast h
    case bastore => exact zm_ast h
    case sastore => exact zm_ast h
    case lastore => exact zm_last h
    case aastore => exact zm_aast h
    case arraylength => exact zm_alen h
    case newarray => exact zm_newa h
    case new => exact zm_newo h
    case anewarray => exact zm_newq h
    case multianewarray => exact zm_newm h
    case invokevirtual => exact zm_inv h
    case invokestatic => exact zm_inv h
    case invokespecial => exact zm_inv h
    case goto => exact zm_jump h
    case ifCond => exact zm_if h
    case if_icmp => exact zm_icmp h
    case iadd => exact zm_op2 h
    case isub => exact zm_op2 h
    case imul => exact zm_op2 h
    case iand => exact zm_op2 h
    case ixor => exact zm_op2 h
    case iushr => exact zm_op2 h
    case ishr => exact zm_op2 h
    case idiv => exact zm_div h
    case irem => exact zm_div h
    case ineg => exact zm_op1 h
    case i2b => exact zm_op1 h
    case i2s => exact zm_op1 h
    case i2c => exact zm_op1 h
    case ladd => exact zm_lop2 h
    case lmul => exact zm_lop2 h
    case land => exact zm_lop2 h
    case lor => exact zm_lop2 h
    case i2l => exact zm_il h
    case l2i => exact zm_li h
    case lshl => exact zm_lshl h
    case lcmp => exact zm_lcmp h
    case dup => exact zm_dup h
    case dup2 => exact zm_dup2 h
    case pop => exact zm_pop h
    case iconst => cases h; exact zle.rf
    case bipush => cases h; exact zle.rf
    case sipush => cases h; exact zle.rf
    case lconst => cases h; exact zle.rf
    case ldc_w => cases h; exact zle.rf
    case ldc2_w => cases h; exact zle.rf
    case ldc k =>
      have h : (bif Nat.beq a1 5 then zN (pc + 2) ls (.ref 1001 :: st) M else zN (pc + 2) ls (.int (Int32.ofInt ai) :: st) M) = some (.inl q1) := h
      cases g : Nat.beq a1 5 <;> rw [g] at h
      · exact zm_end (b := ls) (M1 := M) h zle.rf
      · exact zm_end (b := ls) (M1 := M) h zle.rf
    case getstatic k =>
      have h : (bif Nat.beq a2 0 then zN (pc + 3) ls (.ref 1002 :: st) M else zN (pc + 3) ls (.int 1 :: st) M) = some (.inl q1) := h
      cases g : Nat.beq a2 0 <;> rw [g] at h
      · exact zm_end (b := ls) (M1 := M) h zle.rf
      · exact zm_end (b := ls) (M1 := M) h zle.rf
    case tableswitch d lo hi os =>
      dsimp only at h
      split at h
      · exact zm_tab _ _ h
      · cases h
    case lookupswitch d ps =>
      dsimp only at h
      split at h
      · exact zm_look _ h
      · cases h
    case ireturn => exact (zret_not trivial h).elim
    case lreturn => exact (zretl_not trivial h).elim
    case return_ => exact (zretv_not trivial h).elim
    all_goals (cases h)
  · cases h
theorem zm_ev : ∀ (n d m pc : Nat) (ls : zLs) (st : List Value) (M : zM) (r : Option Value) (M' : zM), zev X n d m pc ls st M = some (r, M') → zle M M' := by
  intro n
  induction n with
  | zero => intro d m pc ls st M r M' h; cases h
  | succ n ih =>
    intro d m pc ls st M r M' h
    unfold zev at h
    split at h
    · cases h
    · rename_i q hq
      exact (zm_step hq).tr (ih _ _ _ _ _ _ _ _ h)
    · rename_i q hq
      split at h
      · cases h
      · rename_i d'
        cases g : Nat.ble (zla q.2.1).length (zml q.1) <;> rw [g] at h
        · cases h
        · dsimp only [cond_true] at h
          split at h
          · cases h
          · rename_i t ht
            obtain ⟨tr, tM⟩ := t
            exact (ih _ _ _ _ _ _ _ _ ht).tr (ih _ _ _ _ _ _ _ _ h)
    · rename_i v hv
      cases h
      exact zle.rf
end ZMONO
section ZNO
variable {X : zX} {m pc n i nL kd c k a1 a2 : Nat} {ls : zLs} {st : List Value} {M : zM} {v : Option Value} {w : Option Nat} {q2 : (Nat × List Value × List Value × Nat) ⊕ Option Value}
theorem zn_bif {b : Bool} {A : zRes} (h : (bif b then A else none) = some (.inr q2)) (k : b = true → A = some (.inr q2) → False) : False := by
  obtain ⟨h1, h2⟩ := zbif h (by intro q; cases q)
  exact k h1 h2
theorem zn_push1 (h : zpush1 n ls st M v = some (.inr q2)) : False := by
  unfold zpush1 at h; split at h <;> cases h
theorem zn_push2 (h : zpush2 n ls st M v = some (.inr q2)) : False := by
  unfold zpush2 at h; split at h <;> cases h
theorem zn_pushr (h : zpushr n ls st M v = some (.inr q2)) : False := by
  unfold zpushr at h; split at h <;> cases h
theorem zn_refr (h : zrefr n ls st M w = some (.inr q2)) : False := by
  unfold zrefr at h; split at h <;> cases h
theorem zn_sti (h : zsti n ls st M nL i = some (.inr q2)) : False := by
  unfold zsti at h; split at h
  · exact zn_bif h fun _ h => by cases h
  · cases h
theorem zn_sta (h : zsta n ls st M nL i = some (.inr q2)) : False := by
  unfold zsta at h; split at h
  · exact zn_bif h fun _ h => by cases h
  · cases h
theorem zn_stl (h : zstl n ls st M nL i = some (.inr q2)) : False := by
  unfold zstl at h; split at h
  · exact zn_bif h fun _ h => by cases h
  · cases h
theorem zn_iinc {x : Int} (h : ziinc pc i x nL ls st M = some (.inr q2)) : False := by
  unfold ziinc at h; split at h
  · exact zn_bif h fun _ h => by cases h
  · cases h
theorem zn_op1 {f : Int32 → Int32} (h : zop1 f pc ls st M = some (.inr q2)) : False := by
  unfold zop1 at h; split at h <;> cases h
theorem zn_op2 {f : Int32 → Int32 → Int32} (h : zop2 f pc ls st M = some (.inr q2)) : False := by
  unfold zop2 at h; split at h <;> cases h
theorem zn_div {f : Int32 → Int32 → Int32} (h : zdiv f pc ls st M = some (.inr q2)) : False := by
  unfold zdiv at h; split at h
  · split at h <;> cases h
  · cases h
theorem zn_lop2 {f : Int64 → Int64 → Int64} (h : zlop2 f pc ls st M = some (.inr q2)) : False := by
  unfold zlop2 at h; split at h <;> cases h
theorem zn_il (h : zil pc ls st M = some (.inr q2)) : False := by
  unfold zil at h; split at h <;> cases h
theorem zn_li (h : zli pc ls st M = some (.inr q2)) : False := by
  unfold zli at h; split at h <;> cases h
theorem zn_lshl (h : zlshl pc ls st M = some (.inr q2)) : False := by
  unfold zlshl at h; split at h <;> cases h
theorem zn_lcmp (h : zlcmp pc ls st M = some (.inr q2)) : False := by
  unfold zlcmp at h; split at h <;> cases h
theorem zn_dup (h : zdup pc ls st M = some (.inr q2)) : False := by
  unfold zdup at h; split at h <;> cases h
theorem zn_dup2 (h : zdup2 pc ls st M = some (.inr q2)) : False := by
  unfold zdup2 at h; split at h <;> cases h
theorem zn_pop (h : zpop pc ls st M = some (.inr q2)) : False := by
  unfold zpop at h; split at h <;> cases h
theorem zn_jump {o : Int} (h : zjump pc o ls st M = some (.inr q2)) : False := by
  unfold zjump at h; exact zn_bif h fun _ h => by cases h
theorem zn_cond {cn : ClassFile.Cond} {x z : Int32} {a b : Nat} (h : zcond cn x z (zN a ls st M) (zN b ls st M) = some (.inr q2)) : False := by
  cases cn <;> unfold zcond at h <;> dsimp only at h <;> split at h <;> cases h
theorem zn_if {cn : ClassFile.Cond} {o : Int} (h : zif cn pc o ls st M = some (.inr q2)) : False := by
  unfold zif at h; split at h
  · exact zn_bif h fun _ h => zn_cond h
  · cases h
theorem zn_icmp {cn : ClassFile.Cond} {o : Int} (h : zific cn pc o ls st M = some (.inr q2)) : False := by
  unfold zific at h; split at h
  · exact zn_bif h fun _ h => zn_cond h
  · cases h
theorem zn_tab {x : Int32} {d : Int} : ∀ (os : List Int) (lo : Int), ztab pc x d ls st M lo os = some (.inr q2) → False
  | [], lo, h => zn_jump h
  | o :: os, lo, h => by
    unfold ztab at h
    split at h
    · exact zn_jump h
    · exact zn_tab os _ h
theorem zn_look {x : Int32} {d : Int} : ∀ (os : List (Int × Int)), zlook pc x d ls st M os = some (.inr q2) → False
  | [], h => zn_jump h
  | o :: os, h => by
    unfold zlook at h
    split at h
    · exact zn_jump h
    · exact zn_look os h
theorem zn_get (h : zfget pc c k ls st M = some (.inr q2)) : False := by
  unfold zfget at h; split at h
  · rename_i a r
    cases g : Nat.beq c 90 with
    | true =>
      rw [g] at h
      have h : (bif Nat.beq a 1001 then (bif Nat.beq k 0 then zN (pc + 3) ls (.ref 1003 :: r) M else zN (pc + 3) ls (.int 0 :: r) M) else none) = some (.inr q2) := h
      refine zn_bif h fun _ h => ?_
      cases g2 : Nat.beq k 0 <;> rw [g2] at h
      · cases h
      · cases h
    | false =>
      rw [g] at h
      refine zn_bif (b := Nat.blt a 1000 && Nat.beq (zkd M a) (10 + c) && Nat.blt k (zNf c)) h fun _ h => ?_
      split at h
      · cases h
      · cases h
      · exact zn_refr h
      · cases h
  · cases h
theorem zn_put (h : zfput m pc c k ls st M = some (.inr q2)) : False := by
  unfold zfput at h; split at h
  · refine zn_bif h fun _ h => ?_
    split at h
    · cases h
    · split at h
      · cases h
      · cases h
    · cases h
  · exact zn_bif h fun _ h => by cases h
  · cases h
theorem zn_ald (h : ziald X kd pc ls st M = some (.inr q2)) : False := by
  unfold ziald at h; split at h
  · rename_i i a r
    cases g1 : Nat.blt a 1000 <;> rw [g1] at h
    · cases g2 : (Nat.beq kd 0 && Nat.beq a 1000) <;> rw [g2] at h
      · cases g3 : (Nat.beq kd 0 && Nat.beq a 1002) <;> rw [g3] at h
        · exact zn_bif (b := Nat.beq kd 1 && Nat.beq a 1003) h fun _ h => zn_bif h fun _ h => by cases h
        · exact zn_bif (b := zin i 8) h fun _ h => by cases h
      · exact zn_bif (b := zin i X.1) h fun _ h => by cases h
    · exact zn_bif (b := Nat.beq (zkd M a) kd) h fun _ h => zn_bif h fun _ h => by cases h
  · cases h
theorem zn_ast {g : Int32 → Int32} (h : ziast kd pc g ls st M = some (.inr q2)) : False := by
  unfold ziast at h; split at h
  · exact zn_bif h fun _ h => zn_bif h fun _ h => zn_bif h fun _ h => by cases h
  · cases h
theorem zn_lald (h : zlald pc ls st M = some (.inr q2)) : False := by
  unfold zlald at h; split at h
  · exact zn_bif h fun _ h => zn_bif h fun _ h => zn_bif h fun _ h => by cases h
  · cases h
theorem zn_last (h : zlast pc ls st M = some (.inr q2)) : False := by
  unfold zlast at h; split at h
  · exact zn_bif h fun _ h => zn_bif h fun _ h => zn_bif h fun _ h => by cases h
  · cases h
theorem zn_aald (h : zaald pc ls st M = some (.inr q2)) : False := by
  unfold zaald at h; split at h
  · exact zn_bif h fun _ h => zn_bif h fun _ h => zn_bif h fun _ h => zn_refr h
  · cases h
theorem zn_aast (h : zaast pc ls st M = some (.inr q2)) : False := by
  unfold zaast at h; split at h
  · exact zn_bif h fun _ h => by cases h
  · cases h
theorem zn_alen (h : zalen X pc ls st M = some (.inr q2)) : False := by
  unfold zalen at h; split at h
  · rename_i a r
    cases g1 : Nat.beq a 1000 <;> rw [g1] at h
    · exact zn_bif (b := Nat.beq a 1003) h fun _ h => by cases h
    · cases h
  · cases h
theorem zn_newa {t : ArrayType} (h : znewa pc t ls st M = some (.inr q2)) : False := by
  unfold znewa at h; split at h
  · exact zn_bif h fun _ h => by cases h
  · cases h
theorem zn_newo (h : znewo pc c ls st M = some (.inr q2)) : False := by
  unfold znewo at h
  exact zn_bif h fun _ h => by cases h
theorem zn_newq (h : znewq pc ls st M = some (.inr q2)) : False := by
  unfold znewq at h; split at h
  · exact zn_bif h fun _ h => by cases h
  · cases h
theorem zn_newm (h : znewm pc ls st M = some (.inr q2)) : False := by
  unfold znewm at h; split at h
  · exact zn_bif h fun _ h => by cases h
  · cases h
theorem zn_inv (h : zinv pc a1 a2 ls st M = some (.inr q2)) : (a1 = 0 ∨ a1 = 6) ∧ zna a2 ≤ st.length ∧ zcats (st.drop (zna a2)) ≤ 8 ∧ zrcv M a2 (st.take (zna a2)).reverse = true ∧ q2 = .inl (a2, (st.take (zna a2)).reverse, st.drop (zna a2), pc + 3) := by
  unfold zinv at h; split at h
  · obtain ⟨h1, h⟩ := zbif h (by intro q; cases q)
    obtain ⟨h1, h3⟩ := zband h1
    obtain ⟨h1, h2⟩ := zband h1
    cases h
    exact ⟨Or.inl rfl, Nat.le_of_ble_eq_true h1, Nat.le_of_ble_eq_true h2, h3, rfl⟩
  · obtain ⟨h1, h⟩ := zbif h (by intro q; cases q)
    obtain ⟨h1, h3⟩ := zband h1
    obtain ⟨h1, h2⟩ := zband h1
    cases h
    exact ⟨Or.inr rfl, Nat.le_of_ble_eq_true h1, Nat.le_of_ble_eq_true h2, h3, rfl⟩
  · exfalso
    split at h
    · exact zn_bif h fun _ h => by cases h
    · cases h
  · exfalso
    split at h
    · exact zn_bif h fun _ h => by cases h
    · cases h
  · exfalso
    split at h
    · exact zn_bif h fun _ h => by cases h
    · cases h
  · exfalso
    unfold zcopy at h; split at h
    · refine zn_bif h fun _ h => ?_
      split at h
      · cases h
      · cases h
      · cases h
    · cases h
  · cases h
theorem zn_step (h : zstep X m pc ls st M = some (.inr q2)) : ∃ ins n a1 a2 ai, zcode m pc = some (ins, n, a1, a2, ai) ∧ (((∃ k, ins = .invokevirtual k ∨ ins = .invokestatic k ∨ ins = .invokespecial k) ∧ ∃ ls0, zinv pc a1 a2 ls0 st M = some (.inr q2)) ∨ (ins = .ireturn ∧ zret m st = some (.inr q2)) ∨ (ins = .lreturn ∧ zretl m st = some (.inr q2)) ∨ (ins = .return_ ∧ zretv m st = some (.inr q2))) := by
  unfold zstep at h
  split at h
  · rename_i en hz
    obtain ⟨ins, n, a1, a2, ai⟩ := en
    refine ⟨ins, n, a1, a2, ai, hz, ?_⟩
    generalize zmsk (zmk m pc) ls = ls at h
    unfold zins at h
    cases ins
    case aload_n => exact (zn_pushr h).elim
    case aload => exact (zn_pushr h).elim
    case iload_n => exact (zn_push1 h).elim
    case iload => exact (zn_push1 h).elim
    case lload_n => exact (zn_push2 h).elim
    case lload => exact (zn_push2 h).elim
    case istore_n => exact (zn_sti h).elim
    case istore => exact (zn_sti h).elim
    case astore_n => exact (zn_sta h).elim
    case astore => exact (zn_sta h).elim
    case lstore_n => exact (zn_stl h).elim
    case lstore => exact (zn_stl h).elim
    case iinc => exact (zn_iinc h).elim
    case getfield => exact (zn_get h).elim
    case putfield => exact (zn_put h).elim
    case iaload => exact (zn_ald h).elim
    case baload => exact (zn_ald h).elim
    case saload => exact (zn_ald h).elim
    case laload => exact (zn_lald h).elim
    case aaload => exact (zn_aald h).elim
    case iastore => exact (zn_ast h).elim
    case bastore => exact (zn_ast h).elim
    case sastore => exact (zn_ast h).elim
    case lastore => exact (zn_last h).elim
    case aastore => exact (zn_aast h).elim
    case arraylength => exact (zn_alen h).elim
    case newarray => exact (zn_newa h).elim
    case new => exact (zn_newo h).elim
    case anewarray => exact (zn_newq h).elim
    case multianewarray => exact (zn_newm h).elim
    case invokevirtual k => exact Or.inl ⟨⟨k, Or.inl rfl⟩, ls, h⟩
    case invokestatic k => exact Or.inl ⟨⟨k, Or.inr (Or.inl rfl)⟩, ls, h⟩
    case invokespecial k => exact Or.inl ⟨⟨k, Or.inr (Or.inr rfl)⟩, ls, h⟩
    case goto => exact (zn_jump h).elim
    case ifCond => exact (zn_if h).elim
    case if_icmp => exact (zn_icmp h).elim
    case iadd => exact (zn_op2 h).elim
    case isub => exact (zn_op2 h).elim
    case imul => exact (zn_op2 h).elim
    case iand => exact (zn_op2 h).elim
    case ixor => exact (zn_op2 h).elim
    case iushr => exact (zn_op2 h).elim
    case ishr => exact (zn_op2 h).elim
    case idiv => exact (zn_div h).elim
    case irem => exact (zn_div h).elim
    case ineg => exact (zn_op1 h).elim
    case i2b => exact (zn_op1 h).elim
    case i2s => exact (zn_op1 h).elim
    case i2c => exact (zn_op1 h).elim
    case ladd => exact (zn_lop2 h).elim
    case lmul => exact (zn_lop2 h).elim
    case land => exact (zn_lop2 h).elim
    case lor => exact (zn_lop2 h).elim
    case i2l => exact (zn_il h).elim
    case l2i => exact (zn_li h).elim
    case lshl => exact (zn_lshl h).elim
    case lcmp => exact (zn_lcmp h).elim
    case dup => exact (zn_dup h).elim
    case dup2 => exact (zn_dup2 h).elim
    case pop => exact (zn_pop h).elim
    case iconst => cases h
    case bipush => cases h
    case sipush => cases h
    case lconst => cases h
    case ldc_w => cases h
    case ldc2_w => cases h
    case ldc k =>
      have h : (bif Nat.beq a1 5 then zN (pc + 2) ls (.ref 1001 :: st) M else zN (pc + 2) ls (.int (Int32.ofInt ai) :: st) M) = some (.inr q2) := h
      cases g : Nat.beq a1 5 <;> rw [g] at h <;> cases h
    case getstatic k =>
      have h : (bif Nat.beq a2 0 then zN (pc + 3) ls (.ref 1002 :: st) M else zN (pc + 3) ls (.int 1 :: st) M) = some (.inr q2) := h
      cases g : Nat.beq a2 0 <;> rw [g] at h <;> cases h
    case tableswitch d lo hi os =>
      dsimp only at h
      split at h
      · exact (zn_tab _ _ h).elim
      · cases h
    case lookupswitch d ps =>
      dsimp only at h
      split at h
      · exact (zn_look _ h).elim
      · cases h
    case ireturn => exact Or.inr (Or.inl ⟨rfl, h⟩)
    case lreturn => exact Or.inr (Or.inr (Or.inl ⟨rfl, h⟩))
    case return_ => exact Or.inr (Or.inr (Or.inr ⟨rfl, h⟩))
    all_goals (cases h)
  · cases h
end ZNO
