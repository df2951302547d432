/-! THE CONSTRUCTORS. Here the world is not complete: it is told as lists of cells (the kit's va_P), a constructor's own cells at a time. -/
section KSTEP
variable {p : Program} {l : Launch} {e : Env} {R : Room} {s : State} {m : MethodId} {args : Array Value} {below : List Frame} {meth : Method} {c : Code} {H : Heap} {locs : List Loc} {Q : State → Prop} {cc : ByteArray} {ad : Nat → Nat} {pc k n nL : Nat} {ls ls' : List (Option Value)} {st st' rest : List Value} {cs : Array Slot}
theorem k_step {i : Instr} (hx : p.tables.exec = Jvm.exec) (hb : c.code = cc) (hs : sem1 i ls st = some (ls', st')) (hd : decode cc pc = .ok (i, len1 i)) (hl : LV ad cs nL ls) (G : ∀ cs', LV ad cs' nL ls' → W p l e R s m args below meth c H locs k n Q (F0 m (pc + len1 i) cs' (st'.map (cv ad)))) : W p l e R s m args below meth c H locs k n Q (F0 m pc cs (st.map (cv ad))) := by
  cases i <;> try (exfalso; simp [sem1] at hs; done)
  case iconst v =>
    simp only [sem1, Option.some.injEq, Prod.mk.injEq] at hs; obtain ⟨rfl, rfl⟩ := hs
    exact lv_iconst hx hb hd rfl (G cs hl)
  case bipush v =>
    simp only [sem1, Option.some.injEq, Prod.mk.injEq] at hs; obtain ⟨rfl, rfl⟩ := hs
    exact lv_bipush hx hb hd rfl (G cs hl)
  case sipush v =>
    simp only [sem1, Option.some.injEq, Prod.mk.injEq] at hs; obtain ⟨rfl, rfl⟩ := hs
    exact lv_sipush hx hb hd rfl (G cs hl)
  case lconst v =>
    simp only [sem1, Option.some.injEq, Prod.mk.injEq] at hs; obtain ⟨rfl, rfl⟩ := hs
    exact lv_lconst hx hb hd rfl (G cs hl)
  case iload_n j =>
    obtain ⟨x, hv, rfl, rfl⟩ := ldI_inv hs
    exact lv_iload_n hx hb hd rfl (hl.get hv) (G cs hl)
  case iload j =>
    obtain ⟨x, hv, rfl, rfl⟩ := ldI_inv hs
    exact lv_iload hx hb hd (hl.get hv) (G cs hl)
  case lload_n j =>
    obtain ⟨x, hv, rfl, rfl⟩ := ldL_inv hs
    exact lv_lload_n hx hb hd rfl (hl.get hv) (G cs hl)
  case lload j =>
    obtain ⟨x, hv, rfl, rfl⟩ := ldL_inv hs
    exact lv_lload hx hb hd (hl.get hv) (G cs hl)
  case aload_n j =>
    obtain ⟨x, hv, rfl, rfl⟩ := ldA_inv hs
    exact lv_aload_n hx hb hd rfl (hl.get hv) (G cs hl)
  case aload j =>
    obtain ⟨x, hv, rfl, rfl⟩ := ldA_inv hs
    exact lv_aload hx hb hd (hl.get hv) (G cs hl)
  case istore_n j =>
    obtain ⟨x, r, rfl, ho, rfl, rfl⟩ := stI_inv hs
    exact lv_istore_n hx hb hd rfl hl.2 (by rw [← hl.1]; exact okS_lt ho) rfl (fun cs' hl' => G cs' (LV.set1 hl.1 ho hl'))
  case istore j =>
    obtain ⟨x, r, rfl, ho, rfl, rfl⟩ := stI_inv hs
    exact lv_istore hx hb hd hl.2 (by rw [← hl.1]; exact okS_lt ho) rfl (fun cs' hl' => G cs' (LV.set1 hl.1 ho hl'))
  case lstore_n j =>
    obtain ⟨x, r, rfl, ho, h1, rfl, rfl⟩ := stL_inv hs
    exact lv_lstore_n hx hb hd rfl hl.2 (by rw [← hl.1]; exact h1) rfl (fun cs' hl' => G cs' (LV.set2 (v := .long x) hl.1 ho hl'))
  case lstore j =>
    obtain ⟨x, r, rfl, ho, h1, rfl, rfl⟩ := stL_inv hs
    exact lv_lstore hx hb hd hl.2 (by rw [← hl.1]; exact h1) rfl (fun cs' hl' => G cs' (LV.set2 (v := .long x) hl.1 ho hl'))
  case astore_n j =>
    obtain ⟨x, r, rfl, ho, rfl, rfl⟩ := stA_inv hs
    exact lv_astore_n hx hb hd rfl hl.2 (by rw [← hl.1]; exact okS_lt ho) rfl (fun cs' hl' => G cs' (LV.set1 (v := .ref x) hl.1 ho hl'))
  case astore j =>
    obtain ⟨x, r, rfl, ho, rfl, rfl⟩ := stA_inv hs
    exact lv_astore hx hb hd hl.2 (by rw [← hl.1]; exact okS_lt ho) rfl (fun cs' hl' => G cs' (LV.set1 (v := .ref x) hl.1 ho hl'))
  case iinc j v =>
    obtain ⟨x, hv, ho, rfl, rfl⟩ := inc_inv hs
    obtain ⟨kk, hkk⟩ := hl.ix hv
    exact lv_iinc hx hb hd hl.2 hkk rfl (by rw [← hl.1]; exact okS_lt ho) rfl (fun cs' hl' => G cs' (LV.set1 (v := .int _) hl.1 ho hl'))
  case iadd =>
    obtain ⟨rfl, h2⟩ := up2_inv hs; obtain ⟨y, x, r, rfl, rfl⟩ := sI2_inv h2
    exact lv_iadd hx hb hd (G cs hl)
  case ishr =>
    obtain ⟨rfl, h2⟩ := up2_inv hs; obtain ⟨y, x, r, rfl, rfl⟩ := sI2_inv h2
    exact lv_ishr hx hb hd (G cs hl)
  case isub =>
    obtain ⟨rfl, h2⟩ := up2_inv hs; obtain ⟨y, x, r, rfl, rfl⟩ := sI2_inv h2
    exact lv_isub hx hb hd (G cs hl)
  case imul =>
    obtain ⟨rfl, h2⟩ := up2_inv hs; obtain ⟨y, x, r, rfl, rfl⟩ := sI2_inv h2
    exact lv_imul hx hb hd (G cs hl)
  case iand =>
    obtain ⟨rfl, h2⟩ := up2_inv hs; obtain ⟨y, x, r, rfl, rfl⟩ := sI2_inv h2
    exact lv_iand hx hb hd (G cs hl)
  case ixor =>
    obtain ⟨rfl, h2⟩ := up2_inv hs; obtain ⟨y, x, r, rfl, rfl⟩ := sI2_inv h2
    exact lv_ixor hx hb hd (G cs hl)
  case idiv =>
    obtain ⟨rfl, h2⟩ := up2_inv hs; obtain ⟨y, x, r, h0, rfl, rfl⟩ := sD2_inv h2
    exact lv_idiv hx hb hd h0 (G cs hl)
  case irem =>
    obtain ⟨rfl, h2⟩ := up2_inv hs; obtain ⟨y, x, r, h0, rfl, rfl⟩ := sD2_inv h2
    exact lv_irem hx hb hd h0 (G cs hl)
  case ladd =>
    obtain ⟨rfl, h2⟩ := up2_inv hs; obtain ⟨y, x, r, rfl, rfl⟩ := sL2_inv h2
    exact lv_ladd hx hb hd (G cs hl)
  case lsub =>
    obtain ⟨rfl, h2⟩ := up2_inv hs; obtain ⟨y, x, r, rfl, rfl⟩ := sL2_inv h2
    exact lv_lsub hx hb hd (G cs hl)
  case lmul =>
    obtain ⟨rfl, h2⟩ := up2_inv hs; obtain ⟨y, x, r, rfl, rfl⟩ := sL2_inv h2
    exact lv_lmul hx hb hd (G cs hl)
  case land =>
    obtain ⟨rfl, h2⟩ := up2_inv hs; obtain ⟨y, x, r, rfl, rfl⟩ := sL2_inv h2
    exact lv_land hx hb hd (G cs hl)
  case lor =>
    obtain ⟨rfl, h2⟩ := up2_inv hs; obtain ⟨y, x, r, rfl, rfl⟩ := sL2_inv h2
    exact lv_lor hx hb hd (G cs hl)
  case ldiv =>
    obtain ⟨rfl, h2⟩ := up2_inv hs; obtain ⟨y, x, r, h0, rfl, rfl⟩ := sM2_inv h2
    exact lv_ldiv hx hb hd h0 (G cs hl)
  case lrem =>
    obtain ⟨rfl, h2⟩ := up2_inv hs; obtain ⟨y, x, r, h0, rfl, rfl⟩ := sM2_inv h2
    exact lv_lrem hx hb hd h0 (G cs hl)
  case i2l =>
    obtain ⟨rfl, h2⟩ := up2_inv hs; unfold sI2L at h2; split at h2 <;> cases h2
    exact lv_i2l hx hb hd rfl (G cs hl)
  case l2i =>
    obtain ⟨rfl, h2⟩ := up2_inv hs; unfold sL2I at h2; split at h2 <;> cases h2
    exact lv_l2i hx hb hd rfl (G cs hl)
  case i2c =>
    obtain ⟨rfl, h2⟩ := up2_inv hs; unfold sI2C at h2; split at h2 <;> cases h2
    exact lv_i2c hx hb hd rfl (G cs hl)
  case lushr =>
    obtain ⟨rfl, h2⟩ := up2_inv hs; unfold sLush at h2; split at h2 <;> cases h2
    exact lv_lushr hx hb hd rfl (G cs hl)
  case lshl =>
    obtain ⟨rfl, h2⟩ := up2_inv hs; unfold sLshl at h2; split at h2 <;> cases h2
    exact lv_lshl hx hb hd rfl (G cs hl)
  case lcmp =>
    obtain ⟨rfl, h2⟩ := up2_inv hs; unfold sLcmp at h2; split at h2 <;> cases h2
    exact W.lcmp hx hb hd (G cs hl)
  case dup =>
    obtain ⟨rfl, h2⟩ := up2_inv hs; unfold sDup at h2; split at h2
    · split at h2 <;> cases h2
      exact lv_dup hx hb hd (by rw [cv_cat]; assumption) (G cs hl)
    · cases h2
  case dup2 =>
    obtain ⟨rfl, h2⟩ := up2_inv hs; unfold sDup2 at h2; split at h2
    · split at h2
      · split at h2 <;> cases h2
        exact lv_dup2_11 hx hb hd (by rw [cv_cat]; assumption) (by rw [cv_cat]; assumption) (G cs hl)
      · cases h2
    · cases h2
  case pop =>
    obtain ⟨rfl, h2⟩ := up2_inv hs; unfold sPop at h2; split at h2
    · split at h2 <;> cases h2
      exact lv_pop hx hb hd (by rw [cv_cat]; assumption) (G cs hl)
    · cases h2
theorem k_runX (hx : p.tables.exec = Jvm.exec) (hb : c.code = cc) : ∀ (is : List Instr) {pc : Nat} {ls : List (Option Value)} {st : List Value} {cs : Array Slot}, decs cc pc is = true → runS is ls st = some (ls', st') → LV ad cs nL ls → (∀ cs', LV ad cs' nL ls' → W p l e R s m args below meth c H locs k n Q (F0 m (pc + lenS is) cs' (st'.map (cv ad)))) → W p l e R s m args below meth c H locs k n Q (F0 m pc cs (st.map (cv ad))) := by
  intro is
  induction is with
  | nil =>
    intro pc ls st cs _ hr hl g
    simp only [runS, Option.some.injEq, Prod.mk.injEq] at hr
    obtain ⟨rfl, rfl⟩ := hr
    exact g cs hl
  | cons i r ih =>
    intro pc ls st cs hd hr hl g
    simp only [decs, Bool.and_eq_true, decide_eq_true_eq] at hd
    simp only [runS] at hr
    split at hr
    · rename_i l1 s1 he
      refine k_step hx hb he hd.1 hl (fun cs1 hl1 => ih hd.2 hr hl1 (fun cs2 hl2 => ?_))
      rw [Nat.add_assoc]
      exact g cs2 hl2
    · cases hr
def aid : Nat → Nat := fun x => x
theorem k_run {pc' : Nat} {stc : List Value} (is : List Instr) (hx : p.tables.exec = Jvm.exec) (hb : c.code = cc) (hd : decs cc pc is = true) (hr : runS is ls st = some (ls', st')) (hp : pc + lenS is = pc') (hl : LV aid cs nL ls) (hs : st.map (cv aid) = stc) (g : ∀ cs', LV aid cs' nL ls' → W p l e R s m args below meth c H locs k n Q (F0 m pc' cs' (st'.map (cv aid)))) : W p l e R s m args below meth c H locs k n Q (F0 m pc cs stc) := by
  subst hp
  subst hs
  exact k_runX hx hb is hd hr hl g
/-- a new array of zeros goes into a final field of the object at the head of the world -/
theorem k_newF {D : va_G} {A : Nat → Prop} {tys : List (ClassId × FieldType)} {own : String} {T : u_T} {N ci idx j h0 : Nat} {fs : List Value} {R0 : va_W} {at9 : ArrayType} {nn : Int32} {N' : Nat} {ty : FieldType}
    (hx : p.tables.exec = Jvm.exec) (hb : c.code = cc) (hts : ∀ w ∈ GT, w.before args s = true) (hin : ∀ w ∈ u_ws own T N, w ∈ GT) (ty0 : Nat → FieldType) (hty : ∀ k, k < N → parseFieldDescriptor (T k).2.2.1 = some (ty0 k)) (hnm : ∀ a, a < N → ∀ b, b < N → a ≠ b → (T a).2.1 ≠ (T b).2.1) (hown : s.vm.findClass own = some m.cls)
    (harr : Cond.arrayClass (newarray.typeOf at9) ∈ GT) (hat : newarray.typeOf at9 = ty) (hprim : ty = .int ∨ ty = .boolean ∨ ty = .char)
    (hK : va_K D clsL tys s) (hP : va_P D clsL ((h0, .inr (ci, fs)) :: R0) H) (hD : va_D A ((h0, .inr (ci, fs)) :: R0)) (hS : va_S A s.heap H locs) (hA : ∀ q, s.heap.size ≤ q → A q)
    (hc : clsL[ci]? = some (own, T, N)) (hj : j < N) (hlink : Cond.fieldLink own idx own (T j).2.1 (T j).2.2.1 ∈ GT) (hT1 : (T j).1 = own) (hfin : (T j).2.2.2 = true) (hin2 : meth.name = "<init>") (hfd : ty0 j = .array ty) (hlen : j < fs.length)
    (hn : ¬ nn < 0) (hN : nn.toNatClampNeg = N') (hN2 : N' ≤ 100000) (hcells : k + 1 ≤ R.cells) (hslots : n + N' ≤ R.slots)
    (dn : decode cc pc = .ok (.newarray at9, 2)) (df : decode cc (pc + 2) = .ok (.putfield idx, 3))
    (kk : ∀ (q : Nat) (cA : ClassId) (H1 : Heap) (locs1 : List Loc), va_K D clsL (tys ++ [(cA, ty)]) s → va_P D clsL ((h0, .inr (ci, fs.set j (.ref q))) :: (R0 ++ [(q, .inl (cA, N', .inl (fun _ => 0)))])) H1 → va_D A ((h0, .inr (ci, fs.set j (.ref q))) :: (R0 ++ [(q, .inl (cA, N', .inl (fun _ => 0)))])) → va_S A s.heap H1 locs1 →
      W p l e R s m args below meth c H1 locs1 (k + 1) (n + N') Q (F0 m (pc + 5) cs rest)) : W p l e R s m args below meth c H locs k n Q (F0 m pc cs (.int nn :: .ref h0 :: rest)) := by
  refine va_newa (atype := at9) (ty := ty) (N' := N') (a0 := (N', .inl (fun _ => 0))) hx hb (hts _ harr) hat hK hP hD hS hA (fun cA => ?_) hn hN ?_ hcells hslots dn (fun q cA H1 hK1 hP1 hD1 hS1 => ?_)
  · rcases hprim with rfl | rfl | rfl <;> rfl
  · have : componentBytes ty ≤ 8 := by rcases hprim with rfl | rfl | rfl <;> decide
    have h1 : N' * componentBytes ty ≤ N' * 8 := Nat.mul_le_mul_left _ this
    omega
  · refine va_putF (ref := own) (v := .ref q) (ty := .array ty) hx hb hts hin ty0 hty hnm hown hK1 hP1 hD1 hS1 0 rfl hc j hj (hts _ hlink) (fun x9 h9 => by rw [hT1] at h9; exact h9) hfin hin2 hT1 (by rw [← hfd]; exact hty j hj) rfl rfl hlen df (fun H2 locs2 hP2 hD2 hS2 => ?_)
    exact kk q cA H2 locs2 hK1 hP2 hD2 hS2
end KSTEP
