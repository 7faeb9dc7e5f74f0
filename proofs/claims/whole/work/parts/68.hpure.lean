/-! help: deeds added; who is reached; deeds that change nobody; deeds of different years. -/
theorem cDee_old {C E : Nat → Nat} {m y d z s : Nat} : ∀ k, k ≤ m → cDee C (cAdd m E y d) z k s = cDee C E z k s
  | 0, _ => rfl
  | k + 1, hk => by
    have ih := cDee_old (C := C) (E := E) (m := m) (y := y) (d := d) (z := z) (s := s) k (by omega)
    have e1 : cAdd m E y d (2 * k) = E (2 * k) := by unfold cAdd; rw [if_neg (by omega), if_neg (by omega)]
    have e2 : cAdd m E y d (2 * k + 1) = E (2 * k + 1) := by unfold cAdd; rw [if_neg (by omega), if_neg (by omega)]
    unfold cDee
    rw [e1, e2, ih]
theorem cDee_new {C E : Nat → Nat} {m y d z s : Nat} : cDee C (cAdd m E y d) z (m + 1) s = if y = z ∧ C (47 + 2 * d) = cDee C E z m s ∧ C (48 + 2 * d) < C 1 then C (48 + 2 * d) else cDee C E z m s := by
  have e1 : cAdd m E y d (2 * m) = y := by unfold cAdd; rw [if_pos rfl]
  have e2 : cAdd m E y d (2 * m + 1) = d := by unfold cAdd; rw [if_neg (by omega), if_pos rfl]
  have e3 := cDee_old (C := C) (E := E) (m := m) (y := y) (d := d) (z := z) (s := s) m (Nat.le_refl _)
  rw [show cDee C (cAdd m E y d) z (m + 1) s = if cAdd m E y d (2 * m) = z ∧ C (47 + 2 * cAdd m E y d (2 * m + 1)) = cDee C (cAdd m E y d) z m s ∧ C (48 + 2 * cAdd m E y d (2 * m + 1)) < C 1 then C (48 + 2 * cAdd m E y d (2 * m + 1)) else cDee C (cAdd m E y d) z m s from rfl, e1, e2, e3]
theorem cDee_far {C E : Nat → Nat} {m y d z s : Nat} (h : y ≠ z) : cDee C (cAdd m E y d) z (m + 1) s = cDee C E z m s := by
  rw [cDee_new, if_neg (fun hh => h hh.1)]
theorem OKE.add {C : Nat → Nat} {m : Nat} {E : Nat → Nat} {y d : Nat} (h : OKE C m E) (hy : y < C 0) (hd : d < C 5) : OKE C (m + 1) (cAdd m E y d) := by
  intro i hi
  unfold cAdd
  by_cases c : i = m
  · subst c
    rw [if_pos rfl, if_neg (by omega), if_pos rfl]
    exact ⟨hy, hd⟩
  · rw [if_neg (by omega), if_neg (by omega), if_neg (by omega), if_neg (by omega)]
    exact h i (by omega)
/-- who can be reached, by any verdicts -/
def cRe (C : Nat → Nat) (m : Nat) (E : Nat → Nat) (a : Nat) : Nat → Nat → Prop
  | 0, x => 0 < C 1 ∧ x = cDee C E 0 m a
  | y + 1, x => ∃ s v, cRe C m E a y s ∧ v < 3 ∧ (v = 0 ∨ ∃ t, t < C 3 ∧ C (38 + 3 * t) = y) ∧ x = cDee C E (y + 1) m (cBec C s v)
theorem cRe_self {C : Nat → Nat} {m : Nat} {E : Nat → Nat} {v a : Nat} (hp : 0 < C 1) : ∀ y, cRe C m E a y (cSelf C m E v a y)
  | 0 => ⟨hp, rfl⟩
  | y + 1 => by
    refine ⟨cSelf C m E v a y, cVy C v y (C 3), cRe_self hp y, cVy_lt _, ?_, rfl⟩
    by_cases c : ∃ t, t < C 3 ∧ C (38 + 3 * t) = y
    · exact Or.inr c
    · exact Or.inl (cVy_miss _ (fun t ht e => c ⟨t, ht, e⟩))
theorem cRe_lt {C : Nat → Nat} {m : Nat} {E : Nat → Nat} {a : Nat} (ha : 0 < C 1 → a < C 1) : ∀ y x, cRe C m E a y x → x < C 1
  | 0, x, h => by
    obtain ⟨h1, rfl⟩ := h
    exact cDee_lt (ha h1) m
  | y + 1, x, h => by
    obtain ⟨s, v, h1, -, -, rfl⟩ := h
    exact cDee_lt (cBec_lt (cRe_lt ha y s h1)) m
/-- the deed changes somebody who is reached -/
def cEff (C : Nat → Nat) (m : Nat) (E : Nat → Nat) (a y d : Nat) : Prop := C (47 + 2 * d) ≠ C (48 + 2 * d) ∧ C (48 + 2 * d) < C 1 ∧ cRe C m E a y (C (47 + 2 * d))
theorem cDee_idle {C : Nat → Nat} {m : Nat} {E : Nat → Nat} {a y d s z : Nat} (h : ¬ cEff C m E a y d) (hr : y = z → cRe C m E a y (cDee C E z m s)) : cDee C (cAdd m E y d) z (m + 1) s = cDee C E z m s := by
  rw [cDee_new]
  by_cases c : y = z ∧ C (47 + 2 * d) = cDee C E z m s ∧ C (48 + 2 * d) < C 1
  · rw [if_pos c]
    by_cases c2 : C (47 + 2 * d) = C (48 + 2 * d)
    · rw [← c2]; exact c.2.1
    · exact (h ⟨c2, c.2.2, by rw [c.2.1]; exact hr c.1⟩).elim
  · rw [if_neg c]
theorem cSelf_idle {C : Nat → Nat} {m : Nat} {E : Nat → Nat} {a y d v : Nat} (hp : 0 < C 1) (h : ¬ cEff C m E a y d) : ∀ z, cSelf C (m + 1) (cAdd m E y d) v a z = cSelf C m E v a z
  | 0 => by
    show cDee C (cAdd m E y d) 0 (m + 1) a = cDee C E 0 m a
    exact cDee_idle h (fun e => by subst e; exact cRe_self (v := v) hp 0)
  | z + 1 => by
    have ih := cSelf_idle (v := v) hp h z
    show cDee C (cAdd m E y d) (z + 1) (m + 1) (cBec C (cSelf C (m + 1) (cAdd m E y d) v a z) (cVy C v z (C 3))) = cDee C E (z + 1) m (cBec C (cSelf C m E v a z) (cVy C v z (C 3)))
    rw [ih]
    exact cDee_idle h (fun e => by subst e; exact cRe_self (v := v) hp (z + 1))
theorem cSum_same {C S S' : Nat → Nat} (h : ∀ y, S y = S' y) : S = S' := funext h
theorem cAcq_same {C : Nat → Nat} {m m' : Nat} {E E' : Nat → Nat} {a t : Nat} (h : ∀ v z, cSelf C m E v a z = cSelf C m' E' v a z) : cAcq C m E a t ↔ cAcq C m' E' a t := by
  have hl : ∀ v, cLife C m E a (C 4) v ↔ cLife C m' E' a (C 4) v := by
    intro v
    unfold cLife
    rw [show cSelf C m E v a = cSelf C m' E' v a from funext (h v)]
  unfold cAcq
  constructor
  · intro ⟨⟨v, h1, h2⟩, h3⟩
    exact ⟨⟨v, h1, (hl v).mp h2⟩, fun v hv hh => h3 v hv ((hl v).mpr hh)⟩
  · intro ⟨⟨v, h1, h2⟩, h3⟩
    exact ⟨⟨v, h1, (hl v).mpr h2⟩, fun v hv hh => h3 v hv ((hl v).mp hh)⟩
theorem cAcq_pos {C : Nat → Nat} {m : Nat} {E : Nat → Nat} {a t : Nat} (h : cAcq C m E a t) : 0 < C 1 := by
  obtain ⟨⟨v, h1, -⟩, -⟩ := h
  exact zz_pos h1
theorem cAcq_idle {C : Nat → Nat} {m : Nat} {E : Nat → Nat} {a y d t : Nat} (h : ¬ cEff C m E a y d) (hh : cAcq C (m + 1) (cAdd m E y d) a t) : cAcq C m E a t := (cAcq_same (fun v z => cSelf_idle (cAcq_pos hh) h z)).mp hh
/-- an idle deed ahead of a later one stays idle -/
theorem cSelf_idle2 {C : Nat → Nat} {m : Nat} {E : Nat → Nat} {a y d y' d' v : Nat} (hp : 0 < C 1) (h : ¬ cEff C m E a y d) (hy : y ≤ y') : ∀ z, cSelf C (m + 1 + 1) (cAdd (m + 1) (cAdd m E y d) y' d') v a z = cSelf C (m + 1) (cAdd m E y' d') v a z ∧ (z < y → cSelf C (m + 1) (cAdd m E y' d') v a z = cSelf C m E v a z) := by
  have key : ∀ z s, (y = z → cRe C m E a y (cDee C E z m s)) → cDee C (cAdd (m + 1) (cAdd m E y d) y' d') z (m + 1 + 1) s = cDee C (cAdd m E y' d') z (m + 1) s := by
    intro z s hr
    rw [cDee_new (m := m + 1), cDee_idle h hr, cDee_new]
  intro z
  induction z with
  | zero =>
    refine ⟨?_, fun h0 => ?_⟩
    · show cDee C (cAdd (m + 1) (cAdd m E y d) y' d') 0 (m + 1 + 1) a = cDee C (cAdd m E y' d') 0 (m + 1) a
      exact key 0 a (fun e => by subst e; exact cRe_self (v := v) hp 0)
    · show cDee C (cAdd m E y' d') 0 (m + 1) a = cDee C E 0 m a
      exact cDee_far (by omega)
  | succ z ih =>
    obtain ⟨i1, i2⟩ := ih
    refine ⟨?_, fun h0 => ?_⟩
    · show cDee C (cAdd (m + 1) (cAdd m E y d) y' d') (z + 1) (m + 1 + 1) (cBec C (cSelf C (m + 1 + 1) (cAdd (m + 1) (cAdd m E y d) y' d') v a z) (cVy C v z (C 3))) = cDee C (cAdd m E y' d') (z + 1) (m + 1) (cBec C (cSelf C (m + 1) (cAdd m E y' d') v a z) (cVy C v z (C 3)))
      rw [i1]
      refine key (z + 1) _ (fun e => ?_)
      subst e
      rw [i2 (by omega)]
      exact cRe_self (v := v) hp (z + 1)
    · show cDee C (cAdd m E y' d') (z + 1) (m + 1) (cBec C (cSelf C (m + 1) (cAdd m E y' d') v a z) (cVy C v z (C 3))) = cDee C E (z + 1) m (cBec C (cSelf C m E v a z) (cVy C v z (C 3)))
      rw [i2 (by omega)]
      exact cDee_far (by omega)
theorem cAcq_idle2 {C : Nat → Nat} {m : Nat} {E : Nat → Nat} {a y d y' d' t : Nat} (h : ¬ cEff C m E a y d) (hy : y ≤ y') (hh : cAcq C (m + 1 + 1) (cAdd (m + 1) (cAdd m E y d) y' d') a t) : cAcq C (m + 1) (cAdd m E y' d') a t := (cAcq_same (fun v z => (cSelf_idle2 (cAcq_pos hh) h hy z).1)).mp hh
theorem cDee_swap {C : Nat → Nat} {m : Nat} {E : Nat → Nat} {y d y' d' z s : Nat} (hy : y ≠ y') : cDee C (cAdd (m + 1) (cAdd m E y d) y' d') z (m + 1 + 1) s = cDee C (cAdd (m + 1) (cAdd m E y' d') y d) z (m + 1 + 1) s := by
  by_cases c : y = z
  · have c' : y' ≠ z := fun e => hy (by omega)
    rw [cDee_far (m := m + 1) c', cDee_new, cDee_new (m := m + 1), cDee_far c']
  · rw [cDee_far (m := m + 1) c, cDee_new (m := m + 1), cDee_far c, cDee_new]
theorem cSelf_swap {C : Nat → Nat} {m : Nat} {E : Nat → Nat} {a y d y' d' v : Nat} (hy : y ≠ y') : ∀ z, cSelf C (m + 1 + 1) (cAdd (m + 1) (cAdd m E y d) y' d') v a z = cSelf C (m + 1 + 1) (cAdd (m + 1) (cAdd m E y' d') y d) v a z
  | 0 => cDee_swap hy
  | z + 1 => by
    have ih := cSelf_swap (C := C) (m := m) (E := E) (a := a) (d := d) (d' := d') (v := v) hy z
    show cDee C (cAdd (m + 1) (cAdd m E y d) y' d') (z + 1) (m + 1 + 1) (cBec C (cSelf C (m + 1 + 1) (cAdd (m + 1) (cAdd m E y d) y' d') v a z) (cVy C v z (C 3))) = cDee C (cAdd (m + 1) (cAdd m E y' d') y d) (z + 1) (m + 1 + 1) (cBec C (cSelf C (m + 1 + 1) (cAdd (m + 1) (cAdd m E y' d') y d) v a z) (cVy C v z (C 3)))
    rw [ih]
    exact cDee_swap hy
theorem hTwo_swap {C : Nat → Nat} {m : Nat} {E : Nat → Nat} {t a b : Nat} (h : a / C 5 ≠ b / C 5) (hh : hTwo C m E t a b) : hTwo C m E t b a := (cAcq_same (fun _ z => cSelf_swap h z)).mp hh
/-- the class tries a second deed only in the first one's year or behind it -/
def hSec (C : Nat → Nat) (m : Nat) (E : Nat → Nat) (t a b : Nat) : Prop := a / C 5 ≤ b / C 5 ∧ hTwo C m E t a b
theorem hTwo_none {C : Nat → Nat} {m : Nat} {E : Nat → Nat} {t N : Nat} (h : ∀ a, a < N → ∀ b, b < N → ¬ hSec C m E t a b) : ∀ a b, a < N → b < N → ¬ hTwo C m E t a b := by
  intro a b ha hb hh
  by_cases c : a / C 5 ≤ b / C 5
  · exact h a ha b hb ⟨c, hh⟩
  · exact h b hb a ha ⟨by omega, hTwo_swap (by omega) hh⟩
theorem div_lt_of {a b n : Nat} (h : b / n < a / n) : b < a := by
  rcases Nat.lt_or_ge b a with c | c
  · exact c
  · have := Nat.div_le_div_right (c := n) c
    omega
theorem hTwo_first {C : Nat → Nat} {m : Nat} {E : Nat → Nat} {t a b : Nat} (hN : b < C 0 * C 5) (hA : a < C 0 * C 5) (h1 : ∀ z, z < a → ∀ b', b' < C 0 * C 5 → ¬ hSec C m E t z b') (h2 : hSec C m E t a b) (h3 : ∀ z, z < b → ¬ hSec C m E t a z) : hFirst C (fun a => ∃ b, b < C 0 * C 5 ∧ hTwo C m E t a b) a ∧ hFirst C (hTwo C m E t a) b := by
  refine ⟨⟨hA, ⟨b, hN, h2.2⟩, fun z hz ⟨b', hb', hh⟩ => ?_⟩, hN, h2.2, fun z hz hh => ?_⟩
  · by_cases c : z / C 5 ≤ b' / C 5
    · exact h1 z hz b' hb' ⟨c, hh⟩
    · have hlt := div_lt_of (a := z) (b := b') (n := C 5) (by omega)
      exact h1 b' (by omega) z (by omega) ⟨by omega, hTwo_swap (by omega) hh⟩
  · by_cases c : a / C 5 ≤ z / C 5
    · exact h3 z hz ⟨c, hh⟩
    · have hlt := div_lt_of (a := a) (b := z) (n := C 5) (by omega)
      exact h1 z hlt a hA ⟨by omega, hTwo_swap (by omega) hh⟩
/-- help's answer is one -/
theorem hFirst_uniq {C : Nat → Nat} {P : Nat → Prop} {a b : Nat} (h1 : hFirst C P a) (h2 : hFirst C P b) : a = b := by
  rcases Nat.lt_trichotomy a b with c | c | c
  · exact (h2.2.2 a c h1.2.1).elim
  · exact c
  · exact (h1.2.2 b c h2.2.1).elim
theorem HL_uniq {C : Nat → Nat} {m : Nat} {E : Nat → Nat} {t : Nat} {x0 x1 x2 y0 y1 y2 : Int32} (h : HL C m E t x0 x1 x2) (h' : HL C m E t y0 y1 y2) : x0 = y0 ∧ x1 = y1 ∧ x2 = y2 := by
  rcases h with ⟨h, rfl, rfl, rfl⟩ | ⟨h, h1⟩
  · rcases h' with ⟨-, rfl, rfl, rfl⟩ | ⟨h', -⟩
    · exact ⟨rfl, rfl, rfl⟩
    · exact (h' h).elim
  · rcases h' with ⟨h', -⟩ | ⟨-, h1'⟩
    · exact (h h').elim
    · rcases h1 with ⟨a, ha, rfl, rfl, rfl⟩ | ⟨ha, h2⟩
      · rcases h1' with ⟨a', ha', rfl, rfl, rfl⟩ | ⟨ha', -⟩
        · obtain rfl := hFirst_uniq ha ha'
          exact ⟨rfl, rfl, rfl⟩
        · exact (ha' a ha.1 ha.2.1).elim
      · rcases h1' with ⟨a', ha', -⟩ | ⟨-, h2'⟩
        · exact (ha a' ha'.1 ha'.2.1).elim
        · rcases h2 with ⟨a, b, ga, gb, rfl, rfl, rfl⟩ | ⟨g, rfl, rfl, rfl⟩
          · rcases h2' with ⟨a', b', ga', gb', rfl, rfl, rfl⟩ | ⟨g', -⟩
            · obtain rfl := hFirst_uniq ga ga'
              obtain rfl := hFirst_uniq gb gb'
              exact ⟨rfl, rfl, rfl⟩
            · exact (g' a b ga.1 gb.1 gb.2.1).elim
          · rcases h2' with ⟨a', b', ga', gb', -⟩ | ⟨-, rfl, rfl, rfl⟩
            · exact (g a' b' ga'.1 gb'.1 gb'.2.1).elim
            · exact ⟨rfl, rfl, rfl⟩
