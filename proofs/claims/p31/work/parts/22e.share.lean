/-! the power: what share gives -/
def uI (f : Nat → Int) (k : Nat) (v : Int) : Nat → Int := fun j => if j = k then v else f j
theorem uI_s (f : Nat → Int) (k : Nat) (v : Int) : uI f k v k = v := if_pos rfl
theorem uI_n (f : Nat → Int) {k j : Nat} (v : Int) (h : j ≠ k) : uI f k v j = f j := if_neg h
theorem hset_s (h : HP) (a k : Nat) (v : Int32) : hset h a k v a = upd (h a) k v := if_pos rfl
theorem hset_n (h : HP) {a i : Nat} (k : Nat) (v : Int32) (n : i ≠ a) : hset h a k v i = h i := if_neg n
theorem upd_s (f : Nat → Int32) (k : Nat) (v : Int32) : upd f k v k = v := by unfold upd; rw [if_pos rfl]
theorem upd_n (f : Nat → Int32) {k j : Nat} (v : Int32) (n : j ≠ k) : upd f k v j = f j := by unfold upd; rw [if_neg n]
abbrev Pw : Type := (Nat → Int) × (Nat → Int) × (Nat → Int)
noncomputable def nearZ (z T : Nat → Int) (d : Nat) : Int := Classical.epsilon (fun r => IsNear z T d r)
theorem nearZ_eq {z T : Nat → Int} {d : Nat} {r : Int} (h : IsNear z T d r) : r = nearZ z T d := IsNear.eq h (Classical.epsilon_spec (p := fun r => IsNear z T d r) ⟨r, h⟩)
theorem nearZ_is {z T : Nat → Int} {d : Nat} {r : Int} (h : IsNear z T d r) : IsNear z T d (nearZ z T d) := by rw [← nearZ_eq h]; exact h
/-- one plug -/
noncomputable def plugZ (z : Nat → Int) (d : Nat) (s : Pw) : Pw :=
  (uI s.1 (30 * (z (127 + 6 * d)).toNat + (nearZ z s.1 d).toNat) (s.1 (30 * (z (127 + 6 * d)).toNat + (nearZ z s.1 d).toNat) + 1), uI s.2.1 d (s.2.1 d + 1), uI s.2.2 (3 * d + (s.2.1 d).toNat) (nearZ z s.1 d))
noncomputable def serveZ (z : Nat → Int) (d : Nat) : Nat → Pw → Pw
  | 0, s => s
  | n + 1, s => if nearZ z s.1 d = -1 then s else serveZ z d n (plugZ z d s)
noncomputable def shareTo (z : Nat → Int) : Nat → Pw
  | 0 => (fun _ => 0, fun _ => 0, fun _ => -1)
  | d + 1 => if z (127 + 6 * d) = -1 then shareTo z d else serveZ z d (z (126 + 6 * d)).toNat (shareTo z d)
noncomputable def shareZ (z : Nat → Int) : Pw := shareTo z (z 185).toNat
/-- taken at most k times -/
def TBk (k : Int) (s : Pw) : Prop := ∀ i : Nat, i < 120 → 0 ≤ s.1 i ∧ s.1 i ≤ k
theorem TBk.tb {k : Int} {s : Pw} (h : TBk k s) (hk : k ≤ 1000) : TB s.1 := fun i hi => ⟨(h i hi).1, by have := (h i hi).2; omega⟩
theorem TBk.plug {z : Nat → Int} {d : Nat} {k : Int} {s : Pw} (h : TBk k s) : TBk (k + 1) (plugZ z d s) := by
  intro i hi
  show 0 ≤ uI s.1 _ _ i ∧ uI s.1 _ _ i ≤ _
  have := h i hi
  unfold uI
  split
  · rename_i e
    rw [← e]
    omega
  · omega
def RepPw (h : HP) (p : Nat) (s : Pw) : Prop := (∀ i : Nat, i < 120 → h (p + 1) i = iI (s.1 i)) ∧ (∀ d : Nat, d < 10 → h (p + 3) d = iI (s.2.1 d)) ∧ (∀ d k : Nat, d < 10 → k < 3 → (k : Int) < s.2.1 d → h (p + 2) (3 * d + k) = iI (s.2.2 (3 * d + k)))
theorem RepS.fr {h h' : HP} {b : Nat} {z : Nat → Int} (R : RepS h b z) (e : ∀ i, b ≤ i → i < b + 10 → h' i = h i) : RepS h' b z := by
  obtain ⟨⟨r1, r2, r3, r4⟩, r5, r6, r7, r8⟩ := R
  have e0 := e b (by omega) (by omega)
  have e1 := e (b + 1) (by omega) (by omega)
  have e2 := e (b + 2) (by omega) (by omega)
  have e9 := e (b + 9) (by omega) (by omega)
  refine ⟨⟨by rw [e0]; exact r1, by rw [e0]; exact r2, by rw [e0]; exact r3, by rw [e0]; exact r4⟩, fun w hw => by rw [e1]; exact r5 w hw, fun w m hw hm => by rw [e2]; exact r6 w m hw hm, fun d k hd h2 hk => ?_, fun j hj => by rw [e9]; exact r8 j hj⟩
  rw [e (b + 3 + k) (by omega) (by omega)]
  exact r7 d k hd h2 hk
section SERVE
variable {b p : Nat} {z : Nat → Int}
theorem near_ok {T : Nat → Int} {d : Nat} {r : Int} (F : WF z) (hd : d < 10) (h2 : (d : Int) < z 185) (hst : z (127 + 6 * d) ≠ -1) (h : IsNear z T d r) : r = -1 ∨ (0 ≤ r ∧ r < z (31 * (z (127 + 6 * d)).toNat) ∧ r < 30) := by
  have hW := F.wall hd h2
  have hL := F.2.2.2.1 (z (127 + 6 * d)).toNat (by omega)
  rcases h with ⟨h1, -⟩ | ⟨h1, -⟩
  · exact Or.inl h1
  · have := h1.1
    have := h1.2.1
    right; omega
theorem w_serve1 (B : BS b) (F : WF z) (P : PS p) {d : Nat} (hd : d < 10) (h2 : (d : Int) < z 185) (hst : z (127 + 6 * d) ≠ -1) : ∀ (n : Nat) (x k : Int) (fu : Nat) (s : Pw) (h : HP), x + n = z (126 + 6 * d) → n < fu → 0 ≤ x → s.2.1 d = x → RepS h b z → RepPw h p s → TBk k s → k + n ≤ 100 →
    ∃ h' : HP, f_W_serve_10 fu p b (iI d) (iI (z (127 + 6 * d))) (iI x) h = some h' ∧ RepPw h' p (serveZ z d n s) ∧ TBk (k + n) (serveZ z d n s) ∧ (∀ e : Nat, e ≠ d → (serveZ z d n s).2.1 e = s.2.1 e) ∧ (x ≤ (serveZ z d n s).2.1 d ∧ (serveZ z d n s).2.1 d ≤ x + n) ∧ ∀ i, i ≠ p + 1 → i ≠ p + 2 → i ≠ p + 3 → h' i = h i := by
  have hW := F.wall hd h2
  have hD := F.2.2.2.2.2.1 d hd
  have hS := F.2.2.2.2.2.2.1 d hd h2
  have hL := F.2.2.2.1 (z (127 + 6 * d)).toNat (by omega)
  have e1 : (iI (d : Int)).toNatClampNeg = d := by rw [iI_cl (by omega) (by omega)]; omega
  have e2 : ib (iI (d : Int)) 10 = true := iI_ib (by omega) (by omega) (by omega)
  intro n
  induction n with
  | zero =>
    intro x k fu s h hx hfu h0 hs R RP HT hk
    obtain ⟨fu, rfl⟩ : ∃ k, fu = k + 1 := ⟨fu - 1, by omega⟩
    have a4 : h (b + 1 + 4) d = iI (z (126 + 6 * d)) := by
      rw [show b + 1 + 4 = b + 3 + 2 by omega, R.dl 2 hd h2 (by decide)]
      congr 2; omega
    refine ⟨h, ?_, RP, fun i hi => by have := HT i hi; show 0 ≤ s.1 i ∧ s.1 i ≤ _; omega, fun e _ => rfl, by show x ≤ s.2.1 d ∧ s.2.1 d ≤ _; omega, fun i _ _ _ => rfl⟩
    rw [f_W_serve_10, e2, if_pos rfl, e1, B.fld, a4, tLe (by omega) (by omega) (by omega) (by omega), if_pos (by omega)]
  | succ n ih =>
    intro x k fu s h hx hfu h0 hs R RP HT hk
    obtain ⟨fu, rfl⟩ : ∃ k, fu = k + 1 := ⟨fu - 1, by omega⟩
    have a4 : h (b + 1 + 4) d = iI (z (126 + 6 * d)) := by
      rw [show b + 1 + 4 = b + 3 + 2 by omega, R.dl 2 hd h2 (by decide)]
      congr 2; omega
    obtain ⟨r, hr, hN⟩ := w_nearest R B F P RP.1 (HT.tb (by omega)) hd h2 hst
    have er := nearZ_eq hN
    have hrr := near_ok F hd h2 hst hN
    rw [f_W_serve_10, e2, if_pos rfl, e1, B.fld, a4, tLe (by omega) (by omega) (by omega) (by omega), if_neg (by omega), lI3, tLe (by omega) (by omega) (by omega) (by omega), if_neg (by omega), hr, Option.bind_some, s_hasMetre R B F ⟨by omega, by omega⟩ ⟨by omega, by omega⟩, Option.bind_some]
    by_cases c : r = -1
    · have nM : ¬ (0 ≤ z (127 + 6 * d) ∧ z (127 + 6 * d) < z 184 ∧ 0 ≤ r ∧ r < z (31 * (z (127 + 6 * d)).toNat)) := by omega
      rw [if_neg nM, if_pos rfl]
      have es : serveZ z d (n + 1) s = s := by
        rw [serveZ, if_pos (by rw [← er]; exact c)]
      rw [es]
      exact ⟨h, rfl, RP, fun i hi => by have := HT i hi; omega, fun e _ => rfl, by omega, fun i _ _ _ => rfl⟩
    · have nM : (0 ≤ z (127 + 6 * d) ∧ z (127 + 6 * d) < z 184 ∧ 0 ≤ r ∧ r < z (31 * (z (127 + 6 * d)).toNat)) := by omega
      rw [if_pos nM, if_neg (by decide)]
      have e3 : (iI (z (127 + 6 * d) * 30 + r)).toNatClampNeg = 30 * (z (127 + 6 * d)).toNat + r.toNat := by
        rw [iI_cl (by omega) (by omega)]
        omega
      have e4 : ib (iI (z (127 + 6 * d) * 30 + r)) 120 = true := iI_ib (by omega) (by omega) (by omega)
      have e5 : (iI ((d : Int) * 3 + x)).toNatClampNeg = 3 * d + x.toNat := by
        rw [iI_cl (by omega) (by omega)]
        omega
      have e6 : ib (iI ((d : Int) * 3 + x)) 30 = true := iI_ib (by omega) (by omega) (by omega)
      have es : serveZ z d (n + 1) s = serveZ z d n (plugZ z d s) := by
        rw [serveZ, if_neg (by rw [← er]; exact c)]
      rw [es, lI30, iI_mul, iI_add, e4, if_pos rfl, if_pos rfl, Option.bind_some, iI_mul, iI_add, e6, if_pos rfl, Option.bind_some, if_pos rfl, Option.bind_some, e3, e5, P.f0, P.f1, P.f2, lI1, iI_add, RP.1 _ (by omega), iI_add]
      have hRP : RepPw (hset (hset (hset h (p + 1) (30 * (z (127 + 6 * d)).toNat + r.toNat) (iI (s.1 (30 * (z (127 + 6 * d)).toNat + r.toNat) + 1))) (p + 2) (3 * d + x.toNat) (iI r)) (p + 3) d (iI (x + 1))) p (plugZ z d s) := by
        refine ⟨fun i hi => ?_, fun e he => ?_, fun e j he hj hlt => ?_⟩
        · rw [hset_n _ _ _ (by omega), hset_n _ _ _ (by omega), hset_s]
          show _ = iI (uI s.1 (30 * (z (127 + 6 * d)).toNat + (nearZ z s.1 d).toNat) (s.1 (30 * (z (127 + 6 * d)).toNat + (nearZ z s.1 d).toNat) + 1) i)
          rw [← er]
          by_cases q : i = 30 * (z (127 + 6 * d)).toNat + r.toNat
          · rw [q, upd_s, uI_s]
          · rw [upd_n _ _ q, uI_n _ _ q]
            exact RP.1 i hi
        · rw [hset_s]
          show _ = iI (uI s.2.1 d (s.2.1 d + 1) e)
          by_cases q : e = d
          · rw [q, upd_s, uI_s, hs]
          · rw [upd_n _ _ q, uI_n _ _ q, hset_n _ _ _ (by omega), hset_n _ _ _ (by omega)]
            exact RP.2.1 e he
        · rw [hset_n _ _ _ (by omega), hset_s]
          have hlt2 : (j : Int) < uI s.2.1 d (s.2.1 d + 1) e := hlt
          show _ = iI (uI s.2.2 (3 * d + (s.2.1 d).toNat) (nearZ z s.1 d) (3 * e + j))
          rw [← er, hs]
          by_cases q : 3 * e + j = 3 * d + x.toNat
          · rw [q, upd_s, uI_s]
          · rw [upd_n _ _ q, uI_n _ _ q, hset_n _ _ _ (by omega)]
            refine RP.2.2 e j he hj ?_
            by_cases q2 : e = d
            · rw [q2, uI_s] at hlt2
              rw [q2] at q ⊢
              omega
            · rw [uI_n _ _ q2] at hlt2
              exact hlt2
      obtain ⟨h', g1, g2, g3, g4, g5, g6⟩ := ih (x + 1) (k + 1) fu (plugZ z d s) (hset (hset (hset h (p + 1) (30 * (z (127 + 6 * d)).toNat + r.toNat) (iI (s.1 (30 * (z (127 + 6 * d)).toNat + r.toNat) + 1))) (p + 2) (3 * d + x.toNat) (iI r)) (p + 3) d (iI (x + 1))) (by omega) (by omega) (by omega) (by show uI s.2.1 d (s.2.1 d + 1) d = _; rw [uI_s, hs]) (R.fr (fun i i1 i2 => by
        have hp : p = 184 ∨ p = 188 := P
        have hb := B.1
        have hb2 := B.2
        rw [hset_n _ _ _ (by omega), hset_n _ _ _ (by omega), hset_n _ _ _ (by omega)])) hRP HT.plug (by omega)
      refine ⟨h', g1, g2, fun i hi => by have := g3 i hi; omega, fun e he => ?_, by omega, fun i i1 i2 i3 => ?_⟩
      · rw [g4 e he]
        exact uI_n _ _ he
      · rw [g6 i i1 i2 i3, hset_n _ _ _ i3, hset_n _ _ _ i2, hset_n _ _ _ i1]
end SERVE
