/-! what holds between calls, and what a call answers on both sides -/
def nImp (i : Nat) : Prop := (10 ≤ i ∧ i < 20) ∨ (189 ≤ i ∧ i ≤ 191) ∨ i = 181 ∨ i = 199 ∨ i = 202 ∨ i = 203 ∨ i = 207 ∨ i = 208 ∨ i = 209 ∨ i = 211
def QF (h h' : HP) : Prop := (∀ i, ¬ nImp i → i ≠ 200 → i ≠ 197 → h' i = h i) ∧ (∀ k, k ≠ 3 → k ≠ 4 → h' 197 k = h 197 k) ∧ ∀ k, k ≠ 0 → k ≠ 13 → k ≠ 14 → k ≠ 15 → h' 200 k = h 200 k
section INVS
variable {h h' g : HP} {a b p : Nat} {z : Nat → Int} {B : Int}
theorem RepPw.fr {s : Pw} (R : RepPw h p s) (e1 : h' (p + 1) = h (p + 1)) (e2 : h' (p + 2) = h (p + 2)) (e3 : h' (p + 3) = h (p + 3)) : RepPw h' p s := ⟨fun i hi => by rw [e1]; exact R.1 i hi, fun d hd => by rw [e3]; exact R.2.1 d hd, fun d k hd hk hlt => by rw [e2]; exact R.2.2 d k hd hk hlt⟩
theorem RepA.fr (RA : RepA h a b p z) (e : ∀ i, own b p i → h' i = h i) : RepA h' a b p z := by
  obtain ⟨S, R, RP, F⟩ := RA
  exact ⟨S, R.fr (fun i i1 i2 => e i (Or.inl ⟨i1, i2⟩)), RP.fr (e _ (Or.inr (by omega))) (e _ (Or.inr (by omega))) (e _ (Or.inr (by omega))), F⟩
theorem QF.refl (h : HP) : QF h h := ⟨fun _ _ _ _ => rfl, fun _ _ _ => rfl, fun _ _ _ _ _ => rfl⟩
theorem QF.trans (q : QF h g) (r : QF g h') : QF h h' := ⟨fun i n1 n2 n3 => by rw [r.1 i n1 n2 n3, q.1 i n1 n2 n3], fun k n1 n2 => by rw [r.2.1 k n1 n2, q.2.1 k n1 n2], fun k n1 n2 n3 n4 => by rw [r.2.2 k n1 n2 n3 n4, q.2.2 k n1 n2 n3 n4]⟩
theorem QF.of (e : ∀ i, ¬ nImp i → h' i = h i) : QF h h' := ⟨fun i n _ _ => e i n, fun k _ _ => by rw [e 197 (by unfold nImp; omega)], fun k _ _ _ _ => by rw [e 200 (by unfold nImp; omega)]⟩
theorem QF.s0 (h : HP) (v : Int32) : QF h (hset h 200 0 v) := ⟨fun i _ n _ => hset_n _ _ _ n, fun k _ _ => by rw [hset_n _ _ _ (by decide)], fun k n _ _ _ => by rw [hset_s, upd_n _ _ n]⟩
theorem QF.out (h : HP) (v : Int32) : QF h (hset h 211 0 v) := QF.of (fun i hi => hset_n _ _ _ (fun q => hi (by unfold nImp; omega)))
end INVS
