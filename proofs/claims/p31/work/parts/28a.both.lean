/-! a call on two objects that hold the same: the same answer, the same behind it -/
def Both (B B' : Int) (N' : Int) (A : AS) (f : HP → Option (Int64 × HP)) : Prop := ∃ (v : Int64) (A' : AS), XA N' A' ∧ ∀ h, CI B h A → ∃ h', f h = some (v, h') ∧ CI B' h' A'
def Ask (B : Int) (A : AS) (f : HP → Option (Int64 × HP)) : Prop := ∃ v : Int64, ∀ h, CI B h A → ∃ h', f h = some (v, h') ∧ CI B h' A
section BOTH
variable {B B' N N' : Int} {A : AS} {f g : HP → Option (Int64 × HP)}
theorem Both.mono {B2 : Int} {N2 : Int} (b : Both B B' N' A f) (h : B' ≤ B2) (hN : N' ≤ N2) : Both B B2 N2 A f := by
  obtain ⟨v, A', x, k⟩ := b
  exact ⟨v, A', x.mono hN, fun h0 I => by
    obtain ⟨h', e, J⟩ := k h0 I
    exact ⟨h', e, J.mono h⟩⟩
theorem Both.b (b : Both B B' N' A f) : Both B B' N' A (fun h => (f h).bind fun v => some (v.1, v.2)) := by
  obtain ⟨v, A', x, k⟩ := b
  exact ⟨v, A', x, fun h0 I => by
    obtain ⟨h', e, J⟩ := k h0 I
    exact ⟨h', by show (f h0).bind _ = _; rw [e, Option.bind_some], J⟩⟩
theorem Both.ite {c : Prop} [Decidable c] (a : Both B B' N' A f) (b : Both B B' N' A g) : Both B B' N' A (fun h => if c then f h else g h) := by
  by_cases q : c
  · simp only [if_pos q]; exact a
  · simp only [if_neg q]; exact b
theorem Both.no {v : Int64} (X : XA N A) (e : ∀ h, CI B h A → f h = some (v, h)) : Both B B N A f := ⟨v, A, X, fun h I => ⟨h, e h I, I⟩⟩
theorem b_wall (F : WF A.1) (X : XA N A) (x : Int32) : Both B (B + 42000) (N + 60) A (fun h => f_Q_wall h 180 x) := by
  refine Both.mono (B' := B) (N' := N) ?_ (by omega) (by omega)
  obtain ⟨v, hv, e⟩ := i32 x
  by_cases c : 4 ≤ v ∧ v ≤ 30
  · by_cases c4 : A.1 184 = 4
    · exact Both.no X (fun h I => w_wall_s (z := A.1) (A := A.2) I hv c c4 e)
    · exact ⟨_, _, X.push (X.2.1.wl F (by have := F.1; omega) c.1) (by omega), fun h I => w_wall (z := A.1) (A := A.2) I hv c c4 e⟩
  · exact Both.no X (fun h I => w_wall_a (z := A.1) (A := A.2) I hv c e)
theorem b_outlet (F : WF A.1) (X : XA N A) (x y v : Int32) : Both B (B + 42000) (N + 60) A (fun h => f_Q_outlet h 180 x y v) := by
  refine Both.mono (B' := B) (N' := N) ?_ (by omega) (by omega)
  obtain ⟨x, hx, ex⟩ := i32 x
  obtain ⟨y, hy, ey⟩ := i32 y
  obtain ⟨v, hv, ev⟩ := i32 v
  have hn := F.1
  by_cases cw : 0 ≤ x ∧ x < A.1 184 ∧ 0 ≤ y ∧ y < A.1 (31 * x.toNat)
  · have hL := F.2.2.2.1 x.toNat (by omega)
    by_cases c : 0 ≤ v ∧ v ≤ 4
    · exact ⟨_, _, X.push (X.2.1.u (by omega) (by omega)) (by omega), fun h I => w_outlet (z := A.1) (A := A.2) I hx hy hv cw c ex ey ev⟩
    · exact Both.no X (fun h I => w_outlet_a (z := A.1) (A := A.2) I hx hy hv cw c ex ey ev)
  · exact Both.no X (fun h I => w_outlet_i (z := A.1) (A := A.2) I hx hy hv cw ex ey ev)
theorem b_dealer (F : WF A.1) (X : XA N A) (x y v : Int32) : Both B (B + 42000) (N + 60) A (fun h => f_Q_dealer h 180 x y v) := by
  refine Both.mono (B' := B) (N' := N) ?_ (by omega) (by omega)
  obtain ⟨x, hx, ex⟩ := i32 x
  obtain ⟨y, hy, ey⟩ := i32 y
  obtain ⟨v, hv, ev⟩ := i32 v
  have hn := F.2.1
  by_cases c : kindP x y v
  · by_cases c4 : A.1 185 = 10
    · exact Both.no X (fun h I => w_dealer_s (z := A.1) (A := A.2) I hx hy hv c c4 ex ey ev)
    · exact ⟨_, _, X.push (X.2.1.dl F (by omega)) (by omega), fun h I => w_dealer (z := A.1) (A := A.2) I hx hy hv c c4 ex ey ev⟩
  · exact Both.no X (fun h I => w_dealer_a (z := A.1) (A := A.2) I hx hy hv c ex ey ev)
theorem b_place (F : WF A.1) (X : XA N A) (x y v : Int32) : Both B (B + 42000) (N + 60) A (fun h => f_Q_place h 180 x y v) := by
  refine Both.mono (B' := B) (N' := N) ?_ (by omega) (by omega)
  obtain ⟨x, hx, ex⟩ := i32 x
  obtain ⟨y, hy, ey⟩ := i32 y
  obtain ⟨v, hv, ev⟩ := i32 v
  have hn := F.2.1
  by_cases cd : 0 ≤ x ∧ x < A.1 185
  · by_cases cw : 0 ≤ y ∧ y < A.1 184 ∧ 0 ≤ v ∧ v < A.1 (31 * y.toNat)
    · refine ⟨_, _, X.push (z' := plcZ A.1 x.toNat y v) ?_ (Int.le_refl _), fun h I => w_place (z := A.1) (A := A.2) I hx hy hv cd cw ex ey ev⟩
      unfold plcZ
      split
      · exact X.2.1.st (by omega)
      · exact X.2.1.u (by omega) (by omega)
    · exact Both.no X (fun h I => w_place_i (z := A.1) (A := A.2) I hx hy hv cd cw ex ey ev)
  · exact Both.no X (fun h I => w_place_j (z := A.1) (A := A.2) I hx hy hv cd ex ey ev)
theorem b_leave (F : WF A.1) (X : XA N A) (x : Int32) : Both B (B + 42000) (N + 60) A (fun h => f_Q_leave h 180 x) := by
  refine Both.mono (B' := B) (N' := N) ?_ (by omega) (by omega)
  obtain ⟨x, hx, ex⟩ := i32 x
  have hn := F.2.1
  by_cases cd : 0 ≤ x ∧ x < A.1 185
  · by_cases c : A.1 (127 + 6 * x.toNat) = -1
    · exact Both.no X (fun h I => w_leave_s (z := A.1) (A := A.2) I hx cd c ex)
    · exact ⟨_, _, X.push (X.2.1.st (by omega)) (by omega), fun h I => w_leave (z := A.1) (A := A.2) I hx cd c ex⟩
  · exact Both.no X (fun h I => w_leave_i (z := A.1) (A := A.2) I hx cd ex)
theorem b_swap (F : WF A.1) (X : XA N A) (x y : Int32) : Both B (B + 42000) (N + 60) A (fun h => f_Q_swap h 180 x y) := by
  refine Both.mono (B' := B) (N' := N) ?_ (by omega) (by omega)
  obtain ⟨x, hx, ex⟩ := i32 x
  obtain ⟨y, hy, ey⟩ := i32 y
  have hn := F.2.1
  by_cases cd : 0 ≤ x ∧ x < A.1 185
  · by_cases ce : 0 ≤ y ∧ y < A.1 185
    · by_cases cxy : x = y
      · exact Both.no X (fun h I => w_swap_a (z := A.1) (A := A.2) I hx hy cd ce cxy ex ey)
      · refine ⟨_, _, X.push (z' := swpZ A.1 x.toNat y.toNat) ?_ (Int.le_refl _), fun h I => w_swap (z := A.1) (A := A.2) I hx hy cd ce cxy ex ey⟩
        unfold swpZ
        split
        · exact X.2.1.sw (by omega) (by omega)
        · exact X.2.1.u (by omega) (by omega)
    · exact Both.no X (fun h I => w_swap_j (z := A.1) (A := A.2) I hx hy cd ce ex ey)
  · exact Both.no X (fun h I => w_swap_i (z := A.1) (A := A.2) I hx hy cd ex ey)
theorem b_days (F : WF A.1) (X : XA N A) (x : Int32) : Both B (B + 42000) (N + 60) A (fun h => f_Q_days h 180 x) := by
  obtain ⟨v, hv, e⟩ := i32 x
  by_cases c : 1 ≤ v ∧ v ≤ 60
  · exact ⟨_, _, X.push (X.2.1.dy (by omega)) (by omega), fun h I => w_days (z := A.1) (A := A.2) I hv c e⟩
  · exact Both.mono (Both.no X (fun h I => w_days_a (z := A.1) (A := A.2) I hv c e)) (by omega) (by omega)
theorem b_set (F : WF A.1) (X : XA N A) (x v : Int32) : Both B (B + 42000) (N + 60) A (fun h => f_Q_set h 180 x v) := by
  refine Both.mono (B' := B) (N' := N) ?_ (by omega) (by omega)
  obtain ⟨x, hx, ex⟩ := i32 x
  obtain ⟨v, hv, ev⟩ := i32 v
  by_cases c : setP x v
  · exact ⟨_, _, X.push (X.2.1.u (by omega) (by omega)) (by omega), fun h I => w_set (z := A.1) (A := A.2) I hx hv c ex ev⟩
  · exact Both.no X (fun h I => w_set_a (z := A.1) (A := A.2) I hx hv c ex ev)
theorem b_undo (X : XA N A) : Both B (B + 42000) (N + 60) A (fun h => f_Q_undo h 180) := by
  refine Both.mono (B' := B) (N' := N) ?_ (by omega) (by omega)
  by_cases c0 : A.2.2.1 = 0
  · exact Both.no X (fun h I => w_undo_s (z := A.1) (ys := A.2.1) (c := A.2.2.1) (A3 := A.2.2.2) I c0)
  · exact ⟨_, (A.2.1 (A.2.2.1 - 1), A.2.1, A.2.2.1 - 1, A.2.2.2), ⟨by have := X.1; show A.2.2.1 - 1 ≤ 14; omega, X.2.2.1 _ (by omega), fun j hj => X.2.2.1 j (by have hj : j < A.2.2.1 - 1 := hj; omega), X.2.2.2⟩, fun h I => w_undo (z := A.1) (ys := A.2.1) (c := A.2.2.1) (A3 := A.2.2.2) I c0⟩
theorem b_save (X : XA N A) (x : Int32) : Both B (B + 42000) (N + 60) A (fun h => f_Q_save h 180 x) := by
  refine Both.mono (B' := B) (N' := N) ?_ (by omega) (by omega)
  obtain ⟨x, hx, ex⟩ := i32 x
  by_cases c : 0 ≤ x ∧ x ≤ 1
  · refine ⟨_, (A.1, A.2.1, A.2.2.1, (fun k => if k = x.toNat then true else A.2.2.2.1 k), (fun k => if k = x.toNat then A.1 else A.2.2.2.2.1 k), A.2.2.2.2.2.1, A.2.2.2.2.2.2), ⟨X.1, X.2.1, X.2.2.1, fun s hs q => ?_⟩, fun h I => w_save (z := A.1) (ys := A.2.1) (c := A.2.2.1) (kb := A.2.2.2.1) (ks := A.2.2.2.2.1) (t := A.2.2.2.2.2.1) (n := A.2.2.2.2.2.2) I (s := x.toNat) (by omega) (by rw [ex, show ((x.toNat : Nat) : Int) = x by omega])⟩
    have q : (if s = x.toNat then true else A.2.2.2.1 s) = true := q
    show DX N (if s = x.toNat then A.1 else A.2.2.2.2.1 s)
    by_cases e : s = x.toNat
    · rw [if_pos e]; exact X.2.1
    · rw [if_neg e] at q ⊢
      exact X.2.2.2 s hs q
  · exact Both.no X (fun h I => w_save_i (z := A.1) (A := A.2) I hx c ex)
theorem b_restore (X : XA N A) (x : Int32) : Both B (B + 42000) (N + 60) A (fun h => f_Q_restore h 180 x) := by
  refine Both.mono (B' := B) (N' := N) ?_ (by omega) (by omega)
  obtain ⟨x, hx, ex⟩ := i32 x
  by_cases c : 0 ≤ x ∧ x ≤ 1
  · have e2 : ∀ X0 : Int32, X0 = iI x → X0 = iI ((x.toNat : Nat) : Int) := fun X0 e => by rw [e, show ((x.toNat : Nat) : Int) = x by omega]
    by_cases c0 : A.2.2.2.1 x.toNat = true
    · exact ⟨_, (A.2.2.2.2.1 x.toNat, A.2.1, 0, A.2.2.2), ⟨by show 0 ≤ 14; omega, X.2.2.2 _ (by omega) c0, fun j hj => absurd hj (Nat.not_lt_zero j), X.2.2.2⟩, fun h I => w_restore (z := A.1) (ys := A.2.1) (c := A.2.2.1) (kb := A.2.2.2.1) (ks := A.2.2.2.2.1) (t := A.2.2.2.2.2.1) (n := A.2.2.2.2.2.2) I (s := x.toNat) (by omega) c0 (e2 _ ex)⟩
    · exact Both.no X (fun h I => w_restore_s (z := A.1) (ys := A.2.1) (c := A.2.2.1) (kb := A.2.2.2.1) (ks := A.2.2.2.2.1) (t := A.2.2.2.2.2.1) (n := A.2.2.2.2.2.2) I (s := x.toNat) (by omega) c0 (e2 _ ex))
  · exact Both.no X (fun h I => w_restore_i (z := A.1) (A := A.2) I hx c ex)
theorem b_load (hB : 5040000 ≤ B) (hN : 7200 ≤ N) (X : XA N A) : Both B B N A (fun h => f_Q_load h 180) := by
  by_cases c : errZ A.2.2.2.2.2.1 A.2.2.2.2.2.2 = -1
  · refine ⟨_, ((prs A.2.2.2.2.2.1 A.2.2.2.2.2.2 120 1 0 zini).2.2, A.2.1, 0, (fun _ => false), A.2.2.2.2.1, A.2.2.2.2.2.1, A.2.2.2.2.2.2), ⟨by show 0 ≤ 14; omega, (wx_prs 120 1 0 0 0 zini (zini_ok (Int.le_refl _)) DX.ini).mono (by omega), fun j hj => absurd hj (Nat.not_lt_zero j), fun s _ q => absurd q Bool.false_ne_true⟩, fun h I => w_load (z := A.1) (ys := A.2.1) (c := A.2.2.1) (kb := A.2.2.2.1) (ks := A.2.2.2.2.1) (t := A.2.2.2.2.2.1) (n := A.2.2.2.2.2.2) I hB c⟩
  · exact ⟨xST, A, X, fun h I => by
      obtain ⟨h1, g1, q1⟩ := w_load_s (z := A.1) (A := A.2) I c
      exact ⟨h1, g1, I.qf q1⟩⟩
theorem b_act (F : WF A.1) (X : XA N A) (x y : Int32) : Both B (B + 42000) (N + 60) A (fun h => f_Q_act h 180 x y) := by
  unfold f_Q_act
  refine Both.ite (b_wall F X _).b ?_
  refine Both.ite (b_outlet F X _ _ _).b ?_
  refine Both.ite (b_outlet F X _ _ _).b ?_
  refine Both.ite (b_outlet F X _ _ _).b ?_
  refine Both.ite (b_dealer F X _ _ _).b ?_
  refine Both.ite (b_dealer F X _ _ _).b ?_
  refine Both.ite (b_dealer F X _ _ _).b ?_
  refine Both.ite (b_place F X _ _ _).b ?_
  refine Both.ite (b_place F X _ _ _).b ?_
  refine Both.ite (b_place F X _ _ _).b ?_
  refine Both.ite (b_place F X _ _ _).b ?_
  refine Both.ite (b_place F X _ _ _).b ?_
  refine Both.ite (b_place F X _ _ _).b ?_
  refine Both.ite (b_leave F X _).b ?_
  refine Both.ite (b_swap F X _ _).b ?_
  refine Both.ite (b_swap F X _ _).b ?_
  refine Both.ite (b_swap F X _ _).b ?_
  refine Both.ite (b_days F X _).b ?_
  refine Both.ite (b_days F X _).b ?_
  refine Both.ite (b_set F X _ _).b ?_
  refine Both.ite (b_undo X).b ?_
  refine Both.ite (b_undo X).b ?_
  refine Both.ite (b_save X _).b ?_
  exact (b_restore X _).b
end BOTH
section ALIKE
variable {B : Int} {A : AS}
theorem Ask.no {v : Int64} {f : HP → Option (Int64 × HP)} (e : ∀ h, CI B h A → f h = some (v, h)) : Ask B A f := ⟨v, fun h I => ⟨h, e h I, I⟩⟩
theorem Ask.qf {v : Int64} {f : HP → Option (Int64 × HP)} (e : ∀ h, CI B h A → ∃ h1, f h = some (v, h1) ∧ QF h h1) : Ask B A f := ⟨v, fun h I => by
  obtain ⟨h1, g1, q1⟩ := e h I
  exact ⟨h1, g1, I.qf q1⟩⟩
theorem ask_best : Ask B A (fun h => f_Q_bestSwap h 180 1) := Ask.qf (fun h I => w_bestSwap (z := A.1) (A := A.2) I (v := 1) (inn (by omega) (by omega)) (by omega) lI1)
theorem ask_cheap (x : Int32) : Ask B A (fun h => f_Q_cheapest h 180 x 0) := by
  obtain ⟨x, hx, ex⟩ := i32 x
  by_cases cw : 0 ≤ x ∧ x < A.1 185
  · exact Ask.qf (fun h I => w_cheapest (z := A.1) (A := A.2) I hx (v := 0) (inn (by omega) (by omega)) cw (by omega) ex lI0)
  · exact Ask.no (fun h I => w_cheapest_i (z := A.1) (A := A.2) I hx (v := 0) (inn (by omega) (by omega)) cw ex lI0)
theorem ask_sim (hB : B < 2000000000) (x : Int64) : Ask B A (fun h => f_Q_simulate h 180 x 5) := Ask.qf (fun h I => w_simulate (z := A.1) (A := A.2) I hB (x := x) (v := 5) (inn (by omega) (by omega)) (by omega) lI5)
theorem ask_scr (hB : B < 2000000000) (x : Int64) : Ask B A (fun h => f_Q_script h 180 2 x) := by
  obtain ⟨s, hs1, hs2, rfl⟩ : ∃ s : Int, -9223372036854775808 ≤ s ∧ s < 9223372036854775808 ∧ x = i64 s := ⟨x.toInt, Int64.le_toInt x, Int64.toInt_lt x, i64_of x⟩
  by_cases c0 : s < 0
  · exact Ask.no (fun h I => w_runScript_c (z := A.1) (A := A.2) I hs1 hs2 (v := 2) (inn (by omega) (by omega)) (by omega) c0 lI2)
  · by_cases c1 : s < p5 2
    · exact Ask.qf (fun h I => w_runScript (z := A.1) (A := A.2) I hB hs1 hs2 (v := 2) (inn (by omega) (by omega)) (by omega) c0 c1 lI2)
    · exact Ask.qf (fun h I => w_runScript_a (z := A.1) (A := A.2) I hs1 hs2 (v := 2) (inn (by omega) (by omega)) (by omega) c0 c1 lI2)
theorem stpp {α : Type} {o1 o2 : Option (Int64 × HP)} {v : Int64} {h1 h2 : HP} {f g : Int64 × HP → Int64 × HP → Option α} {R : Option α} (e1 : o1 = some (v, h1)) (e2 : o2 = some (v, h2)) (k : f (v, h1) (v, h2) = R) : (o1.bind fun a => o2.bind fun b => if lg_cmp a.1 b.1 = 0 then f a b else g a b) = R := by
  rw [e1, Option.bind_some, e2, Option.bind_some]
  show (if lg_cmp v v = 0 then f (v, h1) (v, h2) else g (v, h1) (v, h2)) = R
  rw [if_pos (cmp_s v)]
  exact k
theorem stpe {α : Type} {o1 o2 : Option (Int32 × HP)} {v : Int32} {h1 h2 : HP} {f g : Int32 × HP → Int32 × HP → Option α} {R : Option α} (e1 : o1 = some (v, h1)) (e2 : o2 = some (v, h2)) (k : f (v, h1) (v, h2) = R) : (o1.bind fun a => o2.bind fun b => if a.1 = b.1 then f a b else g a b) = R := by
  rw [e1, Option.bind_some, e2, Option.bind_some]
  show (if v = v then f (v, h1) (v, h2) else g (v, h1) (v, h2)) = R
  rw [if_pos rfl]
  exact k
theorem w_alike {h1 h2 : HP} (I1 : CI B h1 A) (I2 : CI B h2 A) (hB : B < 2000000000) (x : Int32) : ∃ h1' h2', f_Q_alike (h1, h2) x = some (1, (h1', h2')) ∧ CI B h1' A ∧ CI B h2' A := by
  have n1 := w_now (z := A.1) (A := A.2) I1
  have n2 := w_now (z := A.1) (A := A.2) I2
  obtain ⟨a1, p1, q1⟩ := k_errPos I1.2.2.2
  obtain ⟨a2, p2, q2⟩ := k_errPos I2.2.2.2
  have J1 := I1.qf q1
  have J2 := I2.qf q2
  obtain ⟨vb, kb⟩ := ask_best (B := B) (A := A)
  obtain ⟨b1, r1, K1⟩ := kb a1 J1
  obtain ⟨b2, r2, K2⟩ := kb a2 J2
  obtain ⟨vc, kc⟩ := ask_cheap (B := B) (A := A) (x - x / (10 : Int32) * (10 : Int32))
  obtain ⟨c1, s1, L1⟩ := kc b1 K1
  obtain ⟨c2, s2, L2⟩ := kc b2 K2
  obtain ⟨vd, kd⟩ := ask_sim (A := A) hB x.toInt64
  obtain ⟨d1, t1, M1⟩ := kd c1 L1
  obtain ⟨d2, t2, M2⟩ := kd c2 L2
  obtain ⟨ve, ke⟩ := ask_scr (A := A) hB ((4000370000 : Int64) + ((x - x / (99 : Int32) * (99 : Int32)).toInt64))
  obtain ⟨e1, u1, O1⟩ := ke d1 M1
  obtain ⟨e2, u2, O2⟩ := ke d2 M2
  refine ⟨e1, e2, ?_, O1, O2⟩
  unfold f_Q_alike
  refine stpp n1 n2 ?_
  refine stpe p1 p2 ?_
  refine stpp r1 r2 ?_
  refine stpp s1 s2 ?_
  refine stpp t1 t2 ?_
  refine stpp u1 u2 ?_
  rfl
end ALIKE
