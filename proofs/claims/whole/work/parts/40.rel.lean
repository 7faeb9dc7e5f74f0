/-! What both sides are read as: a court C (the numbers told, as the reference lists them), deeds done m, E; lives. -/
def OKC (C : Nat → Nat) : Prop := 2 ≤ C 0 ∧ C 0 ≤ 16 ∧ C 1 ≤ 6 ∧ C 2 ≤ 5 ∧ C 3 ≤ 3 ∧ 1 ≤ C 4 ∧ C 4 ≤ 9 ∧ C 5 ≤ 4 ∧ (∀ s, s < C 1 → C (8 + 5 * s) ≤ 18 ∧ C (9 + 5 * s) ≤ 1 ∧ ∀ v, v < 3 → C (10 + 5 * s + v) ≤ 5) ∧ (∀ t, t < C 3 → C (38 + 3 * t) < C (39 + 3 * t) ∧ C (39 + 3 * t) ≤ C (40 + 3 * t) ∧ C (40 + 3 * t) < C 0) ∧ (∀ t, t + 1 < C 3 → C (38 + 3 * t) < C (41 + 3 * t)) ∧ (∀ k, k < C 5 → C (47 + 2 * k) ≤ 5 ∧ C (48 + 2 * k) ≤ 5)
def OKE (C : Nat → Nat) (m : Nat) (E : Nat → Nat) : Prop := ∀ i, i < m → E (2 * i) < C 0 ∧ E (2 * i + 1) < C 5
def cBec (C : Nat → Nat) (s v : Nat) : Nat := if C (10 + 5 * s + v) < C 1 then C (10 + 5 * s + v) else s
def cDee (C E : Nat → Nat) (y : Nat) : Nat → Nat → Nat
  | 0, s => s
  | k + 1, s => if E (2 * k) = y ∧ C (47 + 2 * E (2 * k + 1)) = cDee C E y k s ∧ C (48 + 2 * E (2 * k + 1)) < C 1 then C (48 + 2 * E (2 * k + 1)) else cDee C E y k s
def cFig (v t T : Nat) : Nat := v / 3 ^ (T - 1 - t) % 3
def cVy (C : Nat → Nat) (v y : Nat) : Nat → Nat
  | 0 => 0
  | t + 1 => if C (38 + 3 * t) = y then cFig v t (C 3) else cVy C v y t
def cSelf (C : Nat → Nat) (m : Nat) (E : Nat → Nat) (v a : Nat) : Nat → Nat
  | 0 => cDee C E 0 m a
  | y + 1 => cDee C E (y + 1) m (cBec C (cSelf C m E v a y) (cVy C v y (C 3)))
def cCnt (C S : Nat → Nat) (a : Nat) : Nat → Nat
  | 0 => 0
  | k + 1 => if C (9 + 5 * S (a + k)) = 0 then cCnt C S a k + 1 else cCnt C S a k
def cSum (C S : Nat → Nat) (a : Nat) : Nat → Int
  | 0 => 0
  | k + 1 => if C (9 + 5 * S (a + k)) = 0 then cSum C S a k + ((C (8 + 5 * S (a + k)) : Int) - 9) else cSum C S a k
def cWord (C S : Nat → Nat) (q t : Nat) : Nat := if cCnt C S (C (39 + 3 * t)) (C (40 + 3 * t) + 1 - C (39 + 3 * t)) < q then 0 else if 0 ≤ cSum C S (C (39 + 3 * t)) (C (40 + 3 * t) + 1 - C (39 + 3 * t)) then 2 else 1
def cWords (C S : Nat → Nat) (q : Nat) : Nat → Nat
  | 0 => 0
  | t + 1 => 3 * cWords C S q t + cWord C S q t
def cRows (C : Nat → Nat) : Nat := if C 1 = 0 then 0 else 3 ^ C 3
def cLife (C : Nat → Nat) (m : Nat) (E : Nat → Nat) (a q v : Nat) : Prop := cWords C (cSelf C m E v a) q (C 3) = v
def cBeg (C : Nat → Nat) : Nat := if C 2 < C 1 then C 2 else 0
/-- in all lives from a (there are some) the trial t is acquitted -/
def cAcq (C : Nat → Nat) (m : Nat) (E : Nat → Nat) (a t : Nat) : Prop := (∃ v, v < cRows C ∧ cLife C m E a (C 4) v) ∧ ∀ v, v < cRows C → cLife C m E a (C 4) v → cFig v t (C 3) = 2
def cAdd (m : Nat) (E : Nat → Nat) (y d : Nat) : Nat → Nat := fun i => if i = 2 * m then y else if i = 2 * m + 1 then d else E i
/-- the contents of text, told, deeds, images, what was seen, the helper's memory, on both sides -/
def IT (jl : Int32) (jt : Nat → Int32) (gs : Int32) (gx : Nat → Int32) : Prop := jl = gs ∧ ∃ n : Nat, n ≤ 200 ∧ gs = nI n ∧ ∀ i, i < n → jt i = gx i ∧ ∃ c : Nat, c < 256 ∧ gx i = nI c
def IC (C : Nat → Nat) (ty ts tb tt td tq : Int32) (tl tz tc tY tA tB tF tG : Nat → Int32) (gl : Nat → Int32) : Prop := OKC C ∧ (∀ i, i < 55 → gl i = nI (C i)) ∧ ty = nI (C 0) ∧ ts = nI (C 1) ∧ tb = nI (C 2) ∧ tt = nI (C 3) ∧ td = nI (C 5) ∧ tq = nI (C 4) ∧ (∀ s, s < C 1 → tl s = nI (C (8 + 5 * s)) - 9 ∧ tz s = nI (C (9 + 5 * s)) ∧ ∀ v, v < 3 → tc (3 * s + v) = nI (C (10 + 5 * s + v))) ∧ (∀ t, t < C 3 → tY t = nI (C (38 + 3 * t)) ∧ tA t = nI (C (39 + 3 * t)) ∧ tB t = nI (C (40 + 3 * t))) ∧ (∀ k, k < C 5 → tF k = nI (C (47 + 2 * k)) ∧ tG k = nI (C (48 + 2 * k)))
def HN (C : Nat → Nat) (m : Nat) (E : Nat → Nat) (ds : Int32) (dy dk : Nat → Int32) (gn : Int32) (gd : Nat → Int32) : Prop := m ≤ 6 ∧ OKE C m E ∧ ds = nI m ∧ gn = nI m ∧ (∀ i, i < m → dy i = nI (E (2 * i)) ∧ dk i = nI (E (2 * i + 1))) ∧ ∀ i, i < 2 * m → gd i = nI (E i)
def HU (C : Nat → Nat) (hk : Int32) (pS : Nat → Int32) (pR pD : Nat → Nat → Int32) (gu : Int32) (ge : Nat → Int32) : Prop := hk = gu ∧ ∃ u : Nat, u ≤ 10 ∧ gu = nI u ∧ ∀ j, j < u → ∃ (m : Nat) (E : Nat → Nat), HN C m E (pS j) (pR j) (pD j) (ge (13 * j)) (fun i => ge (13 * j + 1 + i))
def IM (C : Nat → Nat) (fl : Int32) (mk ms : Int32) (my mq : Nat → Int32) (pS : Nat → Int32) (pR pD : Nat → Nat → Int32) (kp : Nat → Int32) (o : Nat) : Prop := (fl = 0 ↔ kp o = 0) ∧ (¬ fl = 0 → (∃ (m : Nat) (E : Nat → Nat), HN C m E ms my mq (kp (o + 1)) (fun i => kp (o + 3 + i))) ∧ HU C mk pS pR pD (kp (o + 2)) (fun i => kp (o + 15 + i)))
def SR (C : Nat → Nat) (js : Int32) (jy jz : Nat → Int32) (gs : Int32) (gy gz : Nat → Int32) : Prop := js = gs ∧ ∃ k : Nat, k ≤ 6 ∧ gs = nI k ∧ ∀ i, i < k → ∃ y z : Nat, y < C 0 ∧ z < C 1 ∧ jy i = nI y ∧ gy i = nI y ∧ jz i = nI z ∧ gz i = nI z
/-- a row of help: none needed, one, two; the first row that helps -/
def hCode (C : Nat → Nat) (a : Nat) : Int32 := 10 * nI (a / C 5) + nI (a % C 5)
def hOne (C : Nat → Nat) (m : Nat) (E : Nat → Nat) (t a : Nat) : Prop := cAcq C (m + 1) (cAdd m E (a / C 5) (a % C 5)) (cBeg C) t
def hTwo (C : Nat → Nat) (m : Nat) (E : Nat → Nat) (t a b : Nat) : Prop := cAcq C (m + 2) (cAdd (m + 1) (cAdd m E (a / C 5) (a % C 5)) (b / C 5) (b % C 5)) (cBeg C) t
def hFirst (C : Nat → Nat) (P : Nat → Prop) (a : Nat) : Prop := a < C 0 * C 5 ∧ P a ∧ ∀ z, z < a → ¬ P z
def HL (C : Nat → Nat) (m : Nat) (E : Nat → Nat) (t : Nat) (h0 h1 h2 : Int32) : Prop :=
  (cAcq C m E (cBeg C) t ∧ h0 = 0 ∧ h1 = -5 ∧ h2 = -5) ∨
  (¬ cAcq C m E (cBeg C) t ∧ ((∃ a, hFirst C (hOne C m E t) a ∧ h0 = 1 ∧ h1 = hCode C a ∧ h2 = -5) ∨
    ((∀ a, a < C 0 * C 5 → ¬ hOne C m E t a) ∧ ((∃ a b, hFirst C (fun a => ∃ b, b < C 0 * C 5 ∧ hTwo C m E t a b) a ∧ hFirst C (hTwo C m E t a) b ∧ h0 = 2 ∧ h1 = hCode C a ∧ h2 = hCode C b) ∨
      ((∀ a b, a < C 0 * C 5 → b < C 0 * C 5 → ¬ hTwo C m E t a b) ∧ h0 = -9 ∧ h1 = -9 ∧ h2 = -9)))))
def CH (C : Nat → Nat) (m : Nat) (E : Nat → Nat) (kn kh kf ks : Nat → Int32) : Prop := ∀ t, t < C 3 → ¬ kn t = 0 → HL C m E t (kh t) (kf t) (ks t)
