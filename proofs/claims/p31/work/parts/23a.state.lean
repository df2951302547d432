/-! one object: what it holds (its row, its past, its slots, its text), and that the world holds it -/
abbrev AS : Type := (Nat → Int) × (Nat → Nat → Int) × Nat × (Nat → Bool) × (Nat → Nat → Int) × (Nat → Int) × Nat
def MnC (B : Int) (h : HP) (z : Nat → Int) : Prop := RepA h 182 0 184 z ∧ h 0 13 = iI (z 188) ∧ OKz B z
def PsC (B : Int) (h : HP) (ys : Nat → Nat → Int) (c : Nat) : Prop := (∃ x, PastC h ys c x) ∧ ∀ j : Nat, j < c → OKz B (ys j)
def SlC (B : Int) (h : HP) (kb : Nat → Bool) (ks : Nat → Nat → Int) : Prop := ∀ s : Nat, s < 2 → h 196 s = (if kb s = true then 1 else 0) ∧ (kb s = true → OKz B (ks s) ∧ RepS h (160 + 10 * s) (ks s) ∧ h (160 + 10 * s) 13 = iI (ks s 188))
def CI (B : Int) (h : HP) (A : AS) : Prop := MnC B h A.1 ∧ PsC B h A.2.1 A.2.2.1 ∧ SlC B h A.2.2.2.1 A.2.2.2.2.1 ∧ TxC h A.2.2.2.2.2.1 A.2.2.2.2.2.2
/-- an action that is remembered -/
def pushA (A : AS) (z' : Nat → Int) : AS := (z', ysN A.2.1 A.2.2.1 A.1, cN A.2.2.1, A.2.2.2)
section STATE
variable {h h' g : HP} {A : AS} {B B' : Int} {z : Nat → Int} {t : Nat → Int} {n c : Nat} {ys ks : Nat → Nat → Int} {kb : Nat → Bool}
theorem MnC.fr (I : MnC B h z) (e : ∀ i, (i < 10 ∨ (185 ≤ i ∧ i ≤ 187)) → h' i = h i) : MnC B h' z :=
  ⟨I.1.fr (fun i hi => e i (by unfold own at hi; omega)), by rw [e 0 (by omega)]; exact I.2.1, I.2.2⟩
theorem MnC.mono (I : MnC B h z) (hB : B ≤ B') : MnC B' h z := ⟨I.1, I.2.1, I.2.2.mono hB⟩
theorem PsC.fr (I : PsC B h ys c) (e : ∀ i, ((20 ≤ i ∧ i < 160) ∨ i = 192) → h' i = h i) : PsC B h' ys c := by
  obtain ⟨⟨x, i1⟩, i2⟩ := I
  exact ⟨⟨x, i1.fr e⟩, i2⟩
theorem PsC.mono (I : PsC B h ys c) (hB : B ≤ B') : PsC B' h ys c := ⟨I.1, fun j hj => (I.2 j hj).mono hB⟩
theorem SlC.fr (I : SlC B h kb ks) (e : ∀ i, ((160 ≤ i ∧ i < 180) ∨ i = 196) → h' i = h i) : SlC B h' kb ks := by
  intro s hs
  obtain ⟨j1, j2⟩ := I s hs
  refine ⟨by rw [e 196 (by omega)]; exact j1, fun q => ?_⟩
  obtain ⟨k1, k2, k3⟩ := j2 q
  refine ⟨k1, k2.fr (fun i a1 a2 => e i (by omega)), ?_⟩
  rw [e _ (by omega)]
  exact k3
theorem SlC.mono (I : SlC B h kb ks) (hB : B ≤ B') : SlC B' h kb ks := fun s hs => ⟨(I s hs).1, fun q => ⟨((I s hs).2 q).1.mono hB, ((I s hs).2 q).2⟩⟩
theorem CI.mono (I : CI B h A) (hB : B ≤ B') : CI B' h A := ⟨I.1.mono hB, I.2.1.mono hB, I.2.2.1.mono hB, I.2.2.2⟩
theorem CI.qf (I : CI B h A) (q : QF h h') : CI B h' A :=
  ⟨I.1.fr (fun i hi => q.1 i (by unfold nImp; omega) (by omega) (by omega)), I.2.1.fr (fun i hi => q.1 i (by unfold nImp; omega) (by omega) (by omega)), I.2.2.1.fr (fun i hi => q.1 i (by unfold nImp; omega) (by omega) (by omega)), I.2.2.2.fr (q.2.1 2 (by decide) (by decide)) (q.1 198 (by unfold nImp; omega) (by omega) (by omega))⟩
theorem nown9 : ∀ i, ¬ i < 10 → ¬ (185 ≤ i ∧ i ≤ 187) → ¬ own 0 184 i := fun i n1 n2 q => by unfold own at q; omega
/-- an action: the state is remembered, then the fair changes its own cells alone -/
theorem actC (I : CI B h A) (hB : B ≤ B') : ∃ h1, f_P_remember h 192 0 = some h1 ∧ RepA h1 182 0 184 A.1 ∧ h1 0 13 = iI (A.1 188) ∧ ∀ z' h2, RepA h2 182 0 184 z' → h2 0 13 = iI (z' 188) → (∀ i, ¬ own 0 184 i → h2 i = h1 i) → OKz B' z' → CI B' h2 (pushA A z') := by
  obtain ⟨⟨RA, h13, K⟩, ⟨⟨x, PC⟩, PO⟩, SI, TI⟩ := I
  obtain ⟨h1, g1, g2, g3⟩ := c_remember PC RA.2.1 h13
  refine ⟨h1, g1, RA.fr (fun i hi => g3 i (by unfold own at hi; omega) (by unfold own at hi; omega)), by rw [g3 0 (by omega) (by omega)]; exact h13, fun z' h2 RA2 e13 fr2 K2 => ?_⟩
  have f2 : ∀ i, ¬ i < 10 → ¬ (185 ≤ i ∧ i ≤ 187) → h2 i = h1 i := fun i n1 n2 => fr2 i (nown9 i n1 n2)
  have f3 : ∀ i, ¬ i < 10 → ¬ (185 ≤ i ∧ i ≤ 187) → ¬ (20 ≤ i ∧ i < 160) → i ≠ 192 → h2 i = h i := fun i n1 n2 n3 n4 => by rw [f2 i n1 n2, g3 i n3 n4]
  exact ⟨⟨RA2, e13, K2⟩, ⟨⟨_, g2.fr (fun i hi => f2 i (by omega) (by omega))⟩, fun j hj => (ysN_ok PO PC.1 K j hj).mono hB⟩, (SI.mono hB).fr (fun i hi => f3 i (by omega) (by omega) (by omega) (by omega)), TI.fr (by rw [f3 197 (by omega) (by omega) (by omega) (by omega)]) (f3 198 (by omega) (by omega) (by omega) (by omega))⟩
end STATE
