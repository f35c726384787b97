/-! the state, and how class and reference hold it -/
/-- a LETTER: LINES, KINDS, WEEKS, TEMPER, SENDER, OPEN, HOT -/
abbrev zL : Type := Nat × (Nat → Nat) × (Nat → Int32) × Int32 × Int32 × Bool × Bool
/-- THE LAW: LINES, from, to, ends of the conditions, codes, how many, whether told -/
abbrev zLw : Type := Nat × (Nat → Nat) × (Nat → Nat) × (Nat → Nat) × (Nat → Nat) × Nat × Bool
/-- LETTERS, they, WEEK, SEED, came -/
abbrev zB' : Type := Nat × (Nat → zL) × Int32 × Int32 × Int32
/-- LETTERS .., THE LAW, WORDS, PROMISES, firsts, seconds, SLIP, texts -/
abbrev zWd : Type := zB' × zLw × (Nat → Int32) × Nat × (Nat → Int32) × (Nat → Int32) × Int32 × Nat
/-- TAPE, fault, now, whether an IMAGE, it, acts, they -/
abbrev zS : Type := Nat × (Nat → Nat) × Int32 × zWd × Bool × zWd × Nat × (Nat → zB')
def zCM (g : zM) (h : Nat) (L : zL) : Prop := g h 2 = nI L.1 ∧ (∀ i, i < L.1 → g (h + 1) i = nI (L.2.1 i)) ∧ (∀ i, i < L.1 → g (h + 2) i = L.2.2.1 i) ∧ g h 3 = L.2.2.2.1 ∧ g h 4 = L.2.2.2.2.1 ∧ g h 5 = zbi L.2.2.2.2.2.1 ∧ g h 6 = zbi L.2.2.2.2.2.2
def zRM (g : zM) (a o : Nat) (L : zL) : Prop := g a o = nI L.1 ∧ (∀ i, i < L.1 → g a (o + 5 + i) = nI (L.2.1 i)) ∧ (∀ i, i < L.1 → g a (o + 29 + i) = L.2.2.1 i) ∧ g a (o + 1) = L.2.2.2.1 ∧ g a (o + 2) = L.2.2.2.2.1 ∧ g a (o + 3) = zbi L.2.2.2.2.2.1 ∧ g a (o + 4) = zbi L.2.2.2.2.2.2
def zLW (L : zL) : Prop := 1 ≤ L.1 ∧ L.1 ≤ 24 ∧ ∀ i, i < L.1 → L.2.1 i < 12
def zCB (g : zM) (h : Nat) (B : zB') : Prop := g h 1 = nI B.1 ∧ (∀ l, l < B.1 → zCM g (h + 1 + 1 + 3 * l) (B.2.1 l)) ∧ g h 2 = B.2.2.1 ∧ g h 3 = B.2.2.2.1 ∧ g h 4 = B.2.2.2.2
def zRB (g : zM) (a o : Nat) (B : zB') : Prop := g a o = nI B.1 ∧ (∀ l, l < B.1 → zRM g a (o + 36 + 53 * l) (B.2.1 l)) ∧ g a (o + 4) = B.2.2.1 ∧ g a (o + 7) = B.2.2.2.1 ∧ g a (o + 6) = B.2.2.2.2
def zBW (B : zB') : Prop := B.1 ≤ 8 ∧ ∀ l, l < B.1 → zLW (B.2.1 l)
/-- where the condition of a LINE of THE LAW begins -/
def zbg (W : zLw) (i : Nat) : Nat := if i = 0 then 0 else W.2.2.2.1 (i - 1)
def zCL (g : zM) (h : Nat) (W : zLw) : Prop := g h 7 = nI W.1 ∧ (∀ i, i < W.1 → g (h + 1) i = nI (W.2.1 i) ∧ g (h + 2) i = nI (W.2.2.1 i) ∧ g (h + 3) i = nI (W.2.2.2.1 i)) ∧ (∀ j, j < W.2.2.2.2.2.1 → g (h + 4) j = nI (W.2.2.2.2.1 j)) ∧ g h 6 = nI W.2.2.2.2.2.1 ∧ g h 8 = zbi W.2.2.2.2.2.2
/-- the reference's step for a code, and its number -/
def zen (c : Nat) : Nat := if c < 1000 then 8 else if c = 1000 then 6 else if c = 1001 then 7 else if c < 1008 then c - 1002 else if c = 1008 then 12 else if c = 1009 then 13 else if c = 1010 then 14 else if c = 1143 then 9 else if c = 1160 then 10 else 11
def zem (c : Nat) : Nat := if c < 1000 then c else 0
def zRL (g : zM) (a : Nat) (W : zLw) : Prop := g a 3 = zbi W.2.2.2.2.2.2 ∧ (W.2.2.2.2.2.2 = true → g a 460 = nI W.1) ∧ (∀ i, i < W.1 → g a (461 + 4 * i) = nI (W.2.1 i) ∧ g a (461 + 4 * i + 1) = nI (W.2.2.1 i) ∧ g a (461 + 4 * i + 2) = nI (zbg W i) ∧ g a (461 + 4 * i + 3) = nI (W.2.2.2.1 i)) ∧ (∀ j, j < W.2.2.2.2.2.1 → g a (509 + 2 * j) = nI (zen (W.2.2.2.2.1 j)) ∧ g a (509 + 2 * j + 1) = nI (zem (W.2.2.2.2.1 j)))
/-- codes from b on, d of them -/
def zcl (f : Nat → Nat) : Nat → Nat → List Nat
  | 0, _ => []
  | d + 1, b => f b :: zcl f d (b + 1)
/-- what a code makes of the kinds of things that lie on the stack (true: a truth) -/
def ztc1 (c : Nat) (s : List Bool) : Option (List Bool) :=
  if c ≤ 1007 then some (decide (c = 1000 ∨ c = 1001) :: s)
  else match s with
    | [] => none
    | a :: r =>
      if c = 1008 then (if a = true then some s else none)
      else match r with
        | [] => none
        | b :: q =>
          if c = 1009 ∨ c = 1010 then (if a = true ∧ b = true then some (true :: q) else none)
          else if c = 1143 then (if a = false ∧ b = false then some (false :: q) else none)
          else if c = 1160 ∨ c = 1162 then (if a = false ∧ b = false then some (true :: q) else none)
          else none
def ztc : List Nat → List Bool → Option (List Bool)
  | [], s => some s
  | c :: r, s => match ztc1 c s with
    | none => none
    | some s' => ztc r s'
def zCok (W : zLw) (i : Nat) : Prop := zbg W i ≤ W.2.2.2.1 i ∧ W.2.2.2.1 i ≤ W.2.2.2.2.2.1 ∧ (zbg W i < W.2.2.2.1 i → ztc (zcl W.2.2.2.2.1 (W.2.2.2.1 i - zbg W i) (zbg W i)) [] = some [true])
def zWW (W : zLw) : Prop := W.1 ≤ 12 ∧ W.2.2.2.2.2.1 ≤ 400 ∧ (∀ i, i < W.1 → W.2.1 i < 12 ∧ W.2.2.1 i < 12 ∧ zCok W i) ∧ (W.2.2.2.2.2.2 = false → W.1 = 0)
def zCW (g : zM) (h : Nat) (V : zWd) : Prop := zCB g (h + 1) V.1 ∧ zCL g (h + 27) V.2.1 ∧ (∀ k, k < 12 → g (h + 34) k = V.2.2.1 k) ∧ g h 5 = nI V.2.2.2.1 ∧ (∀ p, p < V.2.2.2.1 → g (h + 35) p = V.2.2.2.2.1 p ∧ g (h + 36) p = V.2.2.2.2.2.1 p) ∧ g h 6 = V.2.2.2.2.2.2.1 ∧ g h 7 = nI V.2.2.2.2.2.2.2
def zRW (g : zM) (a : Nat) (V : zWd) : Prop := zRB g a 0 V.1 ∧ zRL g a V.2.1 ∧ (∀ k, k < 12 → g a (8 + k) = V.2.2.1 k) ∧ g a 1 = nI V.2.2.2.1 ∧ (∀ p, p < V.2.2.2.1 → g a (20 + 2 * p) = V.2.2.2.2.1 p ∧ g a (20 + 2 * p + 1) = V.2.2.2.2.2.1 p) ∧ g a 5 = V.2.2.2.2.2.2.1 ∧ g a 2 = nI V.2.2.2.2.2.2.2
def zVW (V : zWd) : Prop := zBW V.1 ∧ zWW V.2.1 ∧ V.2.2.2.1 ≤ 8 ∧ V.2.2.2.2.2.2.2 ≤ 12
/-- a byte as the reference's tape holds it -/
def zsb (b : Nat) : Int32 := (nI b).toInt8.toInt32
def zCI (S : zS) (g : zM) : Prop := g 0 1 = nI S.1 ∧ (∀ i, i < S.1 → g 1 i = nI (S.2.1 i)) ∧ g 0 2 = S.2.2.1 ∧ zCW g 2 S.2.2.2.1 ∧ g 0 5 = zbi S.2.2.2.2.1 ∧ (S.2.2.2.2.1 = true → zCW g 39 S.2.2.2.2.2.1) ∧ (∃ p, p < 12 ∧ g 76 1 = nI p ∧ ∀ j, j < S.2.2.2.2.2.2.1 → zCB g (77 + 1 + 26 * ((p + 12 - S.2.2.2.2.2.2.1 + j) % 12)) (S.2.2.2.2.2.2.2 j)) ∧ g 76 2 = nI S.2.2.2.2.2.2.1 ∧ g 481 0 = 0 ∧ g 482 0 = 0
def zRI (S : zS) (g : zM) : Prop := g 493 9 = nI S.1 ∧ (∀ i, i < S.1 → g 499 i = zsb (S.2.1 i)) ∧ g 493 14 = S.2.2.1 ∧ zRW g 494 S.2.2.2.1 ∧ g 493 6 = zbi S.2.2.2.2.1 ∧ (S.2.2.2.2.1 = true → zRW g 495 S.2.2.2.2.2.1) ∧ g 493 7 = nI S.2.2.2.2.2.2.1 ∧ (∀ j, j < S.2.2.2.2.2.2.1 → zRB g 498 (460 * j) (S.2.2.2.2.2.2.2 j) ∧ ∀ c, c < 36 → c ≠ 0 → c ≠ 4 → c ≠ 6 → c ≠ 7 → g 498 (460 * j + c) = g 494 c)
def zSW (S : zS) : Prop := S.1 ≤ 400 ∧ (∀ i, i < S.1 → S.2.1 i < 256) ∧ zVW S.2.2.2.1 ∧ (S.2.2.2.2.1 = true → zVW S.2.2.2.2.2.1) ∧ S.2.2.2.2.2.2.1 ≤ 12 ∧ ∀ j, j < S.2.2.2.2.2.2.1 → zBW (S.2.2.2.2.2.2.2 j)
/-! frames -/
theorem zCM.fr {g g1 : zM} {h : Nat} {L : zL} (e : zCM g h L) (f0 : g1 h = g h) (f1 : g1 (h + 1) = g (h + 1)) (f2 : g1 (h + 2) = g (h + 2)) : zCM g1 h L := by
  unfold zCM at e ⊢
  rw [f0, f1, f2]
  exact e
theorem zRM.fr {g g1 : zM} {a o : Nat} {L : zL} (e : zRM g a o L) (f : ∀ k, o ≤ k → k < o + 53 → g1 a k = g a k) (hL : L.1 ≤ 24) : zRM g1 a o L := by
  obtain ⟨e1, e2, e3, e4, e5, e6, e7⟩ := e
  refine ⟨?_, fun i hi => ?_, fun i hi => ?_, ?_, ?_, ?_, ?_⟩ <;> rw [f _ (by omega) (by omega)] <;> first | assumption | exact e2 i hi | exact e3 i hi
theorem zCB.fr {g g1 : zM} {h : Nat} {B : zB'} (e : zCB g h B) (hB : B.1 ≤ 8) (f : ∀ c, h ≤ c → c < h + 26 → g1 c = g c) : zCB g1 h B := by
  obtain ⟨e1, e2, e3, e4, e5⟩ := e
  have f0 := f h (by omega) (by omega)
  refine ⟨?_, fun l hl => (e2 l hl).fr (f _ (by omega) (by omega)) (f _ (by omega) (by omega)) (f _ (by omega) (by omega)), ?_, ?_, ?_⟩ <;> rw [f0] <;> assumption
theorem zRB.fr {g g1 : zM} {a o : Nat} {B : zB'} (e : zRB g a o B) (hB : zBW B) (f : ∀ k, o ≤ k → k < o + 460 → g1 a k = g a k) : zRB g1 a o B := by
  obtain ⟨e1, e2, e3, e4, e5⟩ := e
  have h8 := hB.1
  refine ⟨?_, fun l hl => (e2 l hl).fr (fun k hk hk2 => f k (by omega) (by omega)) (hB.2 l hl).2.1, ?_, ?_, ?_⟩ <;> rw [f _ (by omega) (by omega)] <;> assumption
theorem zCL.fr {g g1 : zM} {h : Nat} {W : zLw} (e : zCL g h W) (f : ∀ c, h ≤ c → c < h + 5 → g1 c = g c) : zCL g1 h W := by
  obtain ⟨e1, e2, e3, e4, e5⟩ := e
  refine ⟨by rw [f h (by omega) (by omega)]; exact e1, fun i hi => ?_, fun j hj => ?_, by rw [f h (by omega) (by omega)]; exact e4, by rw [f h (by omega) (by omega)]; exact e5⟩
  · rw [f (h + 1) (by omega) (by omega), f (h + 2) (by omega) (by omega), f (h + 3) (by omega) (by omega)]; exact e2 i hi
  · rw [f (h + 4) (by omega) (by omega)]; exact e3 j hj
theorem zRL.fr {g g1 : zM} {a : Nat} {W : zLw} (e : zRL g a W) (hW : zWW W) (f : ∀ k, k = 3 ∨ 460 ≤ k ∧ k < 1309 → g1 a k = g a k) : zRL g1 a W := by
  obtain ⟨e1, e2, e3, e4⟩ := e
  have h1 := hW.1
  have h2 := hW.2.1
  refine ⟨by rw [f _ (by omega)]; exact e1, fun q => by rw [f _ (by omega)]; exact e2 q, fun i hi => ?_, fun j hj => ?_⟩
  · rw [f _ (by omega), f _ (by omega), f _ (by omega), f _ (by omega)]; exact e3 i hi
  · rw [f _ (by omega), f _ (by omega)]; exact e4 j hj
theorem zCW.fr {g g1 : zM} {h : Nat} {V : zWd} (e : zCW g h V) (hV : zVW V) (f : ∀ c, h ≤ c → c < h + 37 → c ≠ h + 32 → c ≠ h + 33 → g1 c = g c) : zCW g1 h V := by
  obtain ⟨e1, e2, e3, e4, e5, e6, e7⟩ := e
  have f0 := f h (by omega) (by omega) (by omega) (by omega)
  refine ⟨e1.fr hV.1.1 (fun c h1 h2 => f c (by omega) (by omega) (by omega) (by omega)), e2.fr (fun c h1 h2 => f c (by omega) (by omega) (by omega) (by omega)), fun k hk => ?_, by rw [f0]; exact e4, fun p hp => ?_, by rw [f0]; exact e6, by rw [f0]; exact e7⟩
  · rw [f (h + 34) (by omega) (by omega) (by omega) (by omega)]; exact e3 k hk
  · rw [f (h + 35) (by omega) (by omega) (by omega) (by omega), f (h + 36) (by omega) (by omega) (by omega) (by omega)]; exact e5 p hp
theorem zRW.fr {g g1 : zM} {a : Nat} {V : zWd} (e : zRW g a V) (hV : zVW V) (f : ∀ k, k < 1309 → g1 a k = g a k) : zRW g1 a V := by
  obtain ⟨e1, e2, e3, e4, e5, e6, e7⟩ := e
  have h8 := hV.2.2.1
  refine ⟨e1.fr hV.1 (fun k _ h => f k (by omega)), e2.fr hV.2.1 (fun k h => f k (by omega)), fun k hk => ?_, by rw [f _ (by omega)]; exact e4, fun p hp => ?_, by rw [f _ (by omega)]; exact e6, by rw [f _ (by omega)]; exact e7⟩
  · rw [f _ (by omega)]; exact e3 k hk
  · rw [f _ (by omega), f _ (by omega)]; exact e5 p hp
/-- what a call of the class that asks leaves alone -/
def zFC (g g1 : zM) : Prop := (∀ c, c ≠ 34 → c ≠ 35 → (c < 390 ∨ 493 ≤ c) → g1 c = g c) ∧ g1 481 0 = g 481 0 ∧ g1 482 0 = g 482 0
/-- what a call of the reference that asks leaves alone -/
def zFR (g g1 : zM) : Prop := (∀ c, c < 493 → g1 c = g c) ∧ (∀ k, k < 1309 → g1 494 k = g 494 k) ∧ g1 495 = g 495 ∧ g1 498 = g 498 ∧ g1 499 = g 499 ∧ g1 508 = g 508 ∧ g1 493 6 = g 493 6 ∧ g1 493 7 = g 493 7 ∧ g1 493 9 = g 493 9 ∧ g1 493 14 = g 493 14
theorem zFC.refl {g : zM} : zFC g g := ⟨fun _ _ _ _ => rfl, rfl, rfl⟩
theorem zFC.trans {g g1 g2 : zM} (a : zFC g g1) (b : zFC g1 g2) : zFC g g2 := ⟨fun c h1 h2 h3 => (b.1 c h1 h2 h3).trans (a.1 c h1 h2 h3), b.2.1.trans a.2.1, b.2.2.trans a.2.2⟩
theorem zFR.refl {g : zM} : zFR g g := ⟨fun _ _ => rfl, fun _ _ => rfl, rfl, rfl, rfl, rfl, rfl, rfl, rfl, rfl⟩
theorem zFR.trans {g g1 g2 : zM} (a : zFR g g1) (b : zFR g1 g2) : zFR g g2 := by
  obtain ⟨a1, a2, a3, a4, a5, a6, a7, a8, a9, a0⟩ := a
  obtain ⟨b1, b2, b3, b4, b5, b6, b7, b8, b9, b0⟩ := b
  exact ⟨fun c h => (b1 c h).trans (a1 c h), fun k h => (b2 k h).trans (a2 k h), b3.trans a3, b4.trans a4, b5.trans a5, b6.trans a6, b7.trans a7, b8.trans a8, b9.trans a9, b0.trans a0⟩
theorem zCI.fr' {S : zS} {g g1 : zM} (e : zCI S g) (hS : zSW S) (f : ∀ c, c ≠ 34 → c ≠ 35 → c < 390 → g1 c = g c) (h1 : g1 481 0 = g 481 0) (h2 : g1 482 0 = g 482 0) : zCI S g1 := by
  obtain ⟨e1, e2, e3, e4, e5, e6, ⟨p, hp, e7, e8⟩, e9, e10, e11⟩ := e
  have f0 := f 0 (by omega) (by omega) (by omega)
  have f1 := f 1 (by omega) (by omega) (by omega)
  have f76 := f 76 (by omega) (by omega) (by omega)
  refine ⟨by rw [f0]; exact e1, fun i hi => by rw [f1]; exact e2 i hi, by rw [f0]; exact e3, e4.fr hS.2.2.1 (fun c _ _ _ _ => f c (by omega) (by omega) (by omega)), by rw [f0]; exact e5, fun q => (e6 q).fr (hS.2.2.2.1 q) (fun c _ _ _ _ => f c (by omega) (by omega) (by omega)), ⟨p, hp, by rw [f76]; exact e7, fun j hj => (e8 j hj).fr (hS.2.2.2.2.2 j hj).1 (fun c h1 h2 => f c (by omega) (by omega) (by omega))⟩, by rw [f76]; exact e9, by rw [h1]; exact e10, by rw [h2]; exact e11⟩
theorem zCI.fr {S : zS} {g g1 : zM} (e : zCI S g) (hS : zSW S) (f : zFC g g1) : zCI S g1 := e.fr' hS (fun c h1 h2 h3 => f.1 c h1 h2 (Or.inl h3)) f.2.1 f.2.2
theorem zRI.fr {S : zS} {g g1 : zM} (e : zRI S g) (hS : zSW S) (f : zFR g g1) : zRI S g1 := by
  obtain ⟨e1, e2, e3, e4, e5, e6, e7, e8⟩ := e
  obtain ⟨a1, a2, a3, a4, a5, a6, a7, a8, a9, a0⟩ := f
  refine ⟨by rw [a9]; exact e1, fun i hi => by rw [a5]; exact e2 i hi, by rw [a0]; exact e3, e4.fr hS.2.2.1 a2, by rw [a7]; exact e5, fun q => (e6 q).fr (hS.2.2.2.1 q) (fun k _ => by rw [a3]), by rw [a8]; exact e7, fun j hj => ⟨(e8 j hj).1.fr (hS.2.2.2.2.2 j hj) (fun k _ _ => by rw [a4]), fun c h1 h2 h3 h4 h5 => ?_⟩⟩
  rw [a4, a2 c (by omega)]
  exact (e8 j hj).2 c h1 h2 h3 h4 h5
/-- the class's own calls leave the reference's cells alone, and the other way -/
theorem zRI.fc {S : zS} {g g1 : zM} (e : zRI S g) (f : ∀ c, 493 ≤ c → g1 c = g c) : zRI S g1 := by
  have e' := e
  unfold zRI zRW zRB zRL zRM at e' ⊢
  simp only [f 493 (by omega), f 494 (by omega), f 495 (by omega), f 498 (by omega), f 499 (by omega)]
  exact e'
theorem zCI.fc {S : zS} {g g1 : zM} (e : zCI S g) (hS : zSW S) (f : ∀ c, c < 493 → g1 c = g c) : zCI S g1 := e.fr' hS (fun c _ _ h => f c (by omega)) (by rw [f 481 (by omega)]) (by rw [f 482 (by omega)])
