section STEP
variable {l : Launch} {D : va_G} {ad : Nat → Nat} {aC : Nat → ClassId} {R : Room} {QQ : List Frame → Array Value → State → State → Prop} {M : MI} {pc k n : Nat} {ls ls' : List (Option Value)} {st st' rest : List Value} {h h' : HP}
theorem up2_inv {o : Option (List Value)} (hs : up2 ls o = some (ls', st')) : ls' = ls ∧ o = some st' := by
  cases o with
  | none => cases hs
  | some x => cases hs; exact ⟨rfl, rfl⟩
theorem sI2_inv {f : Int32 → Int32 → Int32} (hs : sI2 f st = some st') : ∃ y x r, st = .int y :: .int x :: r ∧ st' = .int (f x y) :: r := by
  unfold sI2 at hs
  split at hs
  · cases hs; exact ⟨_, _, _, rfl, rfl⟩
  · cases hs
theorem sD2_inv {f : Int32 → Int32 → Int32} (hs : sD2 f st = some st') : ∃ y x r, ¬ y = 0 ∧ st = .int y :: .int x :: r ∧ st' = .int (f x y) :: r := by
  unfold sD2 at hs
  split at hs
  · split at hs
    · cases hs
    · cases hs; exact ⟨_, _, _, by assumption, rfl, rfl⟩
  · cases hs
theorem sL2_inv {f : Int64 → Int64 → Int64} (hs : sL2 f st = some st') : ∃ y x r, st = .long y :: .long x :: r ∧ st' = .long (f x y) :: r := by
  unfold sL2 at hs
  split at hs
  · cases hs; exact ⟨_, _, _, rfl, rfl⟩
  · cases hs
theorem sM2_inv {f : Int64 → Int64 → Int64} (hs : sM2 f st = some st') : ∃ y x r, ¬ y = 0 ∧ st = .long y :: .long x :: r ∧ st' = .long (f x y) :: r := by
  unfold sM2 at hs
  split at hs
  · split at hs
    · cases hs
    · cases hs; exact ⟨_, _, _, by assumption, rfl, rfl⟩
  · cases hs
theorem ldI_inv {i : Nat} (hs : ldI ls i st = some (ls', st')) : ∃ x, ls[i]? = some (some (.int x)) ∧ ls' = ls ∧ st' = .int x :: st := by
  unfold ldI at hs
  split at hs
  · cases hs; exact ⟨_, by assumption, rfl, rfl⟩
  · cases hs
theorem ldL_inv {i : Nat} (hs : ldL ls i st = some (ls', st')) : ∃ x, ls[i]? = some (some (.long x)) ∧ ls' = ls ∧ st' = .long x :: st := by
  unfold ldL at hs
  split at hs
  · cases hs; exact ⟨_, by assumption, rfl, rfl⟩
  · cases hs
theorem ldA_inv {i : Nat} (hs : ldA ls i st = some (ls', st')) : ∃ x, ls[i]? = some (some (.ref x)) ∧ ls' = ls ∧ st' = .ref x :: st := by
  unfold ldA at hs
  split at hs
  · cases hs; exact ⟨_, by assumption, rfl, rfl⟩
  · cases hs
theorem stI_inv {i : Nat} (hs : stI ls i st = some (ls', st')) : ∃ x r, st = .int x :: r ∧ okS ls i = true ∧ ls' = ls.set i (some (.int x)) ∧ st' = r := by
  unfold stI at hs
  split at hs
  · split at hs
    · cases hs; exact ⟨_, _, rfl, by assumption, rfl, rfl⟩
    · cases hs
  · cases hs
theorem stA_inv {i : Nat} (hs : stA ls i st = some (ls', st')) : ∃ x r, st = .ref x :: r ∧ okS ls i = true ∧ ls' = ls.set i (some (.ref x)) ∧ st' = r := by
  unfold stA at hs
  split at hs
  · split at hs
    · cases hs; exact ⟨_, _, rfl, by assumption, rfl, rfl⟩
    · cases hs
  · cases hs
theorem stL_inv {i : Nat} (hs : stL ls i st = some (ls', st')) : ∃ x r, st = .long x :: r ∧ okS ls i = true ∧ i + 1 < ls.length ∧ ls' = (ls.set i (some (.long x))).set (i + 1) none ∧ st' = r := by
  unfold stL at hs
  split at hs
  · split at hs
    · split at hs
      · rename_i hb
        cases hs; exact ⟨_, _, rfl, by assumption, by simpa using hb, rfl, rfl⟩
      · cases hs
    · cases hs
  · cases hs
theorem inc_inv {i : Nat} {v : Int} (hs : inc ls i v st = some (ls', st')) : ∃ x, ls[i]? = some (some (.int x)) ∧ okS ls i = true ∧ ls' = ls.set i (some (.int (x + Int32.ofInt v))) ∧ st' = st := by
  unfold inc at hs
  split at hs
  · split at hs
    · cases hs; exact ⟨_, by assumption, by assumption, rfl, rfl⟩
    · cases hs
  · cases hs
theorem okS_lt {i : Nat} (ho : okS ls i = true) : i < ls.length := by
  simp only [okS, Bool.and_eq_true, Nat.blt_eq] at ho
  exact ho.1
theorem Go.stepS {i : Instr} (hs : sem1 i ls st = some (ls', st')) (hd : decode M.b pc = .ok (i, len1 i)) (g : Go l D ad aC R QQ M (pc + len1 i) ls' st' h k n) : Go l D ad aC R QQ M pc ls st h k n := by
  intro p e s m args below meth c H locs cs F hS hW hl
  have G := g p e s m args below meth c H locs
  obtain ⟨hx, hb, -⟩ := id F
  cases i <;> try (exfalso; simp [sem1] at hs; done)
  case iconst v =>
    simp only [sem1, Option.some.injEq, Prod.mk.injEq] at hs; obtain ⟨rfl, rfl⟩ := hs
    exact lv_iconst hx hb hd rfl (G cs F hS hW hl)
  case bipush v =>
    simp only [sem1, Option.some.injEq, Prod.mk.injEq] at hs; obtain ⟨rfl, rfl⟩ := hs
    exact lv_bipush hx hb hd rfl (G cs F hS hW hl)
  case sipush v =>
    simp only [sem1, Option.some.injEq, Prod.mk.injEq] at hs; obtain ⟨rfl, rfl⟩ := hs
    exact lv_sipush hx hb hd rfl (G cs F hS hW hl)
  case lconst v =>
    simp only [sem1, Option.some.injEq, Prod.mk.injEq] at hs; obtain ⟨rfl, rfl⟩ := hs
    exact lv_lconst hx hb hd rfl (G cs F hS hW hl)
  case iload_n j =>
    obtain ⟨x, hv, rfl, rfl⟩ := ldI_inv hs
    exact lv_iload_n hx hb hd rfl (hl.get hv) (G cs F hS hW hl)
  case iload j =>
    obtain ⟨x, hv, rfl, rfl⟩ := ldI_inv hs
    exact lv_iload hx hb hd (hl.get hv) (G cs F hS hW hl)
  case lload_n j =>
    obtain ⟨x, hv, rfl, rfl⟩ := ldL_inv hs
    exact lv_lload_n hx hb hd rfl (hl.get hv) (G cs F hS hW hl)
  case lload j =>
    obtain ⟨x, hv, rfl, rfl⟩ := ldL_inv hs
    exact lv_lload hx hb hd (hl.get hv) (G cs F hS hW hl)
  case aload_n j =>
    obtain ⟨x, hv, rfl, rfl⟩ := ldA_inv hs
    exact lv_aload_n hx hb hd rfl (hl.get hv) (G cs F hS hW hl)
  case aload j =>
    obtain ⟨x, hv, rfl, rfl⟩ := ldA_inv hs
    exact lv_aload hx hb hd (hl.get hv) (G cs F hS hW hl)
  case istore_n j =>
    obtain ⟨x, r, rfl, ho, rfl, rfl⟩ := stI_inv hs
    exact lv_istore_n hx hb hd rfl hl.2 (by rw [← hl.1]; exact okS_lt ho) rfl (fun cs' hl' => G cs' F hS hW (LV.set1 hl.1 ho hl'))
  case istore j =>
    obtain ⟨x, r, rfl, ho, rfl, rfl⟩ := stI_inv hs
    exact lv_istore hx hb hd hl.2 (by rw [← hl.1]; exact okS_lt ho) rfl (fun cs' hl' => G cs' F hS hW (LV.set1 hl.1 ho hl'))
  case lstore_n j =>
    obtain ⟨x, r, rfl, ho, h1, rfl, rfl⟩ := stL_inv hs
    exact lv_lstore_n hx hb hd rfl hl.2 (by rw [← hl.1]; exact h1) rfl (fun cs' hl' => G cs' F hS hW (LV.set2 (v := .long x) hl.1 ho hl'))
  case lstore j =>
    obtain ⟨x, r, rfl, ho, h1, rfl, rfl⟩ := stL_inv hs
    exact lv_lstore hx hb hd hl.2 (by rw [← hl.1]; exact h1) rfl (fun cs' hl' => G cs' F hS hW (LV.set2 (v := .long x) hl.1 ho hl'))
  case astore_n j =>
    obtain ⟨x, r, rfl, ho, rfl, rfl⟩ := stA_inv hs
    exact lv_astore_n hx hb hd rfl hl.2 (by rw [← hl.1]; exact okS_lt ho) rfl (fun cs' hl' => G cs' F hS hW (LV.set1 (v := .ref x) hl.1 ho hl'))
  case astore j =>
    obtain ⟨x, r, rfl, ho, rfl, rfl⟩ := stA_inv hs
    exact lv_astore hx hb hd hl.2 (by rw [← hl.1]; exact okS_lt ho) rfl (fun cs' hl' => G cs' F hS hW (LV.set1 (v := .ref x) hl.1 ho hl'))
  case iinc j v =>
    obtain ⟨x, hv, ho, rfl, rfl⟩ := inc_inv hs
    obtain ⟨kk, hkk⟩ := hl.ix hv
    exact lv_iinc hx hb hd hl.2 hkk rfl (by rw [← hl.1]; exact okS_lt ho) rfl (fun cs' hl' => G cs' F hS hW (LV.set1 (v := .int _) hl.1 ho hl'))
  case iadd =>
    obtain ⟨rfl, h2⟩ := up2_inv hs; obtain ⟨y, x, r, rfl, rfl⟩ := sI2_inv h2
    exact lv_iadd hx hb hd (G cs F hS hW hl)
  case ishr =>
    obtain ⟨rfl, h2⟩ := up2_inv hs; obtain ⟨y, x, r, rfl, rfl⟩ := sI2_inv h2
    exact lv_ishr hx hb hd (G cs F hS hW hl)
  case isub =>
    obtain ⟨rfl, h2⟩ := up2_inv hs; obtain ⟨y, x, r, rfl, rfl⟩ := sI2_inv h2
    exact lv_isub hx hb hd (G cs F hS hW hl)
  case imul =>
    obtain ⟨rfl, h2⟩ := up2_inv hs; obtain ⟨y, x, r, rfl, rfl⟩ := sI2_inv h2
    exact lv_imul hx hb hd (G cs F hS hW hl)
  case iand =>
    obtain ⟨rfl, h2⟩ := up2_inv hs; obtain ⟨y, x, r, rfl, rfl⟩ := sI2_inv h2
    exact lv_iand hx hb hd (G cs F hS hW hl)
  case ixor =>
    obtain ⟨rfl, h2⟩ := up2_inv hs; obtain ⟨y, x, r, rfl, rfl⟩ := sI2_inv h2
    exact lv_ixor hx hb hd (G cs F hS hW hl)
  case idiv =>
    obtain ⟨rfl, h2⟩ := up2_inv hs; obtain ⟨y, x, r, h0, rfl, rfl⟩ := sD2_inv h2
    exact lv_idiv hx hb hd h0 (G cs F hS hW hl)
  case irem =>
    obtain ⟨rfl, h2⟩ := up2_inv hs; obtain ⟨y, x, r, h0, rfl, rfl⟩ := sD2_inv h2
    exact lv_irem hx hb hd h0 (G cs F hS hW hl)
  case ladd =>
    obtain ⟨rfl, h2⟩ := up2_inv hs; obtain ⟨y, x, r, rfl, rfl⟩ := sL2_inv h2
    exact lv_ladd hx hb hd (G cs F hS hW hl)
  case lsub =>
    obtain ⟨rfl, h2⟩ := up2_inv hs; obtain ⟨y, x, r, rfl, rfl⟩ := sL2_inv h2
    exact lv_lsub hx hb hd (G cs F hS hW hl)
  case lmul =>
    obtain ⟨rfl, h2⟩ := up2_inv hs; obtain ⟨y, x, r, rfl, rfl⟩ := sL2_inv h2
    exact lv_lmul hx hb hd (G cs F hS hW hl)
  case land =>
    obtain ⟨rfl, h2⟩ := up2_inv hs; obtain ⟨y, x, r, rfl, rfl⟩ := sL2_inv h2
    exact lv_land hx hb hd (G cs F hS hW hl)
  case lor =>
    obtain ⟨rfl, h2⟩ := up2_inv hs; obtain ⟨y, x, r, rfl, rfl⟩ := sL2_inv h2
    exact lv_lor hx hb hd (G cs F hS hW hl)
  case ldiv =>
    obtain ⟨rfl, h2⟩ := up2_inv hs; obtain ⟨y, x, r, h0, rfl, rfl⟩ := sM2_inv h2
    exact lv_ldiv hx hb hd h0 (G cs F hS hW hl)
  case lrem =>
    obtain ⟨rfl, h2⟩ := up2_inv hs; obtain ⟨y, x, r, h0, rfl, rfl⟩ := sM2_inv h2
    exact lv_lrem hx hb hd h0 (G cs F hS hW hl)
  case i2l =>
    obtain ⟨rfl, h2⟩ := up2_inv hs; unfold sI2L at h2; split at h2 <;> cases h2
    exact lv_i2l hx hb hd rfl (G cs F hS hW hl)
  case l2i =>
    obtain ⟨rfl, h2⟩ := up2_inv hs; unfold sL2I at h2; split at h2 <;> cases h2
    exact lv_l2i hx hb hd rfl (G cs F hS hW hl)
  case i2c =>
    obtain ⟨rfl, h2⟩ := up2_inv hs; unfold sI2C at h2; split at h2 <;> cases h2
    exact lv_i2c hx hb hd rfl (G cs F hS hW hl)
  case lushr =>
    obtain ⟨rfl, h2⟩ := up2_inv hs; unfold sLush at h2; split at h2 <;> cases h2
    exact lv_lushr hx hb hd rfl (G cs F hS hW hl)
  case lshl =>
    obtain ⟨rfl, h2⟩ := up2_inv hs; unfold sLshl at h2; split at h2 <;> cases h2
    exact lv_lshl hx hb hd rfl (G cs F hS hW hl)
  case lcmp =>
    obtain ⟨rfl, h2⟩ := up2_inv hs; unfold sLcmp at h2; split at h2 <;> cases h2
    exact W.lcmp hx hb hd (G cs F hS hW hl)
  case dup =>
    obtain ⟨rfl, h2⟩ := up2_inv hs; unfold sDup at h2; split at h2
    · split at h2 <;> cases h2
      exact lv_dup hx hb hd (by rw [cv_cat]; assumption) (G cs F hS hW hl)
    · cases h2
  case dup2 =>
    obtain ⟨rfl, h2⟩ := up2_inv hs; unfold sDup2 at h2; split at h2
    · split at h2
      · split at h2 <;> cases h2
        exact lv_dup2_11 hx hb hd (by rw [cv_cat]; assumption) (by rw [cv_cat]; assumption) (G cs F hS hW hl)
      · cases h2
    · cases h2
  case pop =>
    obtain ⟨rfl, h2⟩ := up2_inv hs; unfold sPop at h2; split at h2
    · split at h2 <;> cases h2
      exact lv_pop hx hb hd (by rw [cv_cat]; assumption) (G cs F hS hW hl)
    · cases h2
/-- a run of simple instructions -/
def runS : List Instr → List (Option Value) → List Value → Option (List (Option Value) × List Value)
  | [], ls, st => some (ls, st)
  | i :: r, ls, st => match sem1 i ls st with
    | some (ls', st') => runS r ls' st'
    | none => none
def lenS : List Instr → Nat
  | [] => 0
  | i :: r => len1 i + lenS r
def decs (b : ByteArray) : Nat → List Instr → Bool
  | _, [] => true
  | pc, i :: r => decide (decode b pc = .ok (i, len1 i)) && decs b (pc + len1 i) r
theorem Go.runX : ∀ (is : List Instr) {pc : Nat} {ls : List (Option Value)} {st : List Value}, decs M.b pc is = true → runS is ls st = some (ls', st') → Go l D ad aC R QQ M (pc + lenS is) ls' st' h k n → Go l D ad aC R QQ M pc ls st h k n := by
  intro is
  induction is with
  | nil =>
    intro pc ls st _ hr g
    simp only [runS, Option.some.injEq, Prod.mk.injEq] at hr
    obtain ⟨rfl, rfl⟩ := hr
    exact g
  | cons i r ih =>
    intro pc ls st hd hr g
    simp only [decs, Bool.and_eq_true, decide_eq_true_eq] at hd
    simp only [runS] at hr
    split at hr
    · rename_i l1 s1 he
      refine Go.stepS he hd.1 (ih hd.2 hr ?_)
      rw [Nat.add_assoc]
      exact g
    · cases hr
theorem Go.run {pc' : Nat} (is : List Instr) (hd : decs M.b pc is = true) (hr : runS is ls st = some (ls', st')) (hp : pc + lenS is = pc') (g : Go l D ad aC R QQ M pc' ls' st' h k n) : Go l D ad aC R QQ M pc ls st h k n := by
  subst hp
  exact Go.runX is hd hr g
end STEP
