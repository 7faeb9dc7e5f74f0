/-! surely acquitted. -/
theorem cSr_is {C : Nat → Nat} {m : Nat} {E : Nat → Nat} {a q t : Nat} : ∀ k, (cSr C m E a q t k = -9 ∧ ∀ v, v < k → ¬ cLife C m E a q v) ∨ (∃ f, f < 3 ∧ cSr C m E a q t k = nI f ∧ (∃ v, v < k ∧ cLife C m E a q v) ∧ ∀ v, v < k → cLife C m E a q v → cFig v t (C 3) = f) ∨ (cSr C m E a q t k = -5 ∧ ∃ v v', v < k ∧ v' < k ∧ cLife C m E a q v ∧ cLife C m E a q v' ∧ cFig v t (C 3) ≠ cFig v' t (C 3))
  | 0 => Or.inl ⟨rfl, fun v h => absurd h (Nat.not_lt_zero v)⟩
  | k + 1 => by
    have ih := cSr_is (C := C) (m := m) (E := E) (a := a) (q := q) (t := t) k
    have es : cSr C m E a q t (k + 1) = if cWords C (cSelf C m E k a) q (C 3) = k then (if cSr C m E a q t k = -9 then nI (cFig k t (C 3)) else if cSr C m E a q t k = nI (cFig k t (C 3)) then nI (cFig k t (C 3)) else -5) else cSr C m E a q t k := rfl
    have fl := cFig_lt k t (C 3)
    by_cases hL : cLife C m E a q k
    · rw [if_pos (show cWords C (cSelf C m E k a) q (C 3) = k from hL)] at es
      rcases ih with ⟨h1, h2⟩ | ⟨f, h0, h1, h2, h3⟩ | ⟨h1, v, v', h2, h3, h4, h5, h6⟩
      · rw [if_pos h1] at es
        refine Or.inr (Or.inl ⟨_, fl, es, ⟨k, by omega, hL⟩, fun v hv hl => ?_⟩)
        by_cases c : v = k
        · subst c; rfl
        · exact (h2 v (by omega) hl).elim
      · rw [if_neg (by rw [h1]; exact (zz_f5 h0).2)] at es
        by_cases c : f = cFig k t (C 3)
        · rw [if_pos (by rw [h1, c])] at es
          refine Or.inr (Or.inl ⟨_, fl, es, ⟨k, by omega, hL⟩, fun v hv hl => ?_⟩)
          by_cases c2 : v = k
          · subst c2; rfl
          · rw [h3 v (by omega) hl, c]
        · rw [if_neg (by rw [h1, zz_eq (by omega) (by omega)]; exact c)] at es
          obtain ⟨v, hv, hl⟩ := h2
          exact Or.inr (Or.inr ⟨es, v, k, by omega, by omega, hl, hL, by rw [h3 v hv hl]; exact c⟩)
      · have n5 : ¬ (-5 : Int32) = -9 := by decide
        rw [h1, if_neg n5, if_neg (zz_f5 fl).1] at es
        exact Or.inr (Or.inr ⟨es, v, v', by omega, by omega, h4, h5, h6⟩)
    · rw [if_neg (show ¬ cWords C (cSelf C m E k a) q (C 3) = k from hL)] at es
      rw [es]
      rcases ih with ⟨h1, h2⟩ | ⟨f, h0, h1, ⟨v, hv, hl⟩, h3⟩ | ⟨h1, v, v', h2, h3, h4, h5, h6⟩
      · refine Or.inl ⟨h1, fun v hv hl => ?_⟩
        by_cases c : v = k
        · subst c; exact hL hl
        · exact h2 v (by omega) hl
      · refine Or.inr (Or.inl ⟨f, h0, h1, ⟨v, by omega, hl⟩, fun v hv hl => ?_⟩)
        by_cases c : v = k
        · subst c; exact (hL hl).elim
        · exact h3 v (by omega) hl
      · exact Or.inr (Or.inr ⟨h1, v, v', by omega, by omega, h4, h5, h6⟩)
theorem cSr_acq {C : Nat → Nat} {m : Nat} {E : Nat → Nat} {a t : Nat} : cSr C m E a (C 4) t (cRows C) = 2 ↔ cAcq C m E a t := by
  have e2 : (2 : Int32) = nI 2 := rfl
  rcases cSr_is (C := C) (m := m) (E := E) (a := a) (q := C 4) (t := t) (cRows C) with ⟨h1, h2⟩ | ⟨f, h0, h1, h2, h3⟩ | ⟨h1, v, v', h2, h3, h4, h5, h6⟩
  · constructor
    · intro h; rw [h1] at h; exact absurd h (by decide)
    · intro ⟨⟨v, hv, hl⟩, _⟩; exact (h2 v hv hl).elim
  · constructor
    · intro h
      rw [h1, e2, zz_eq (by omega) (by omega)] at h
      subst h
      exact ⟨h2, h3⟩
    · intro ⟨⟨v, hv, hl⟩, h⟩
      rw [h1, e2, ← h v hv hl, h3 v hv hl]
  · constructor
    · intro h; rw [h1] at h; exact absurd h (by decide)
    · intro ⟨_, h⟩; exact (h6 (by rw [h v h2 h4, h v' h3 h5])).elim
theorem zz_some {C : Nat → Nat} {m : Nat} {E : Nat → Nat} {ty ts tb tt td tq : Int32} {tl tz tc tY tA tB tF tG gl f g sel ver : Nat → Int32} {a q t : Nat} (fl : Bool) (h : IC C ty ts tb tt td tq tl tz tc tY tA tB tF tG gl) (hf : tabY C f) (hg : tabD C m E g) (ha : 0 < C 1 → a < C 1) (hq : q < 1000) (ht : t < C 3) : ∃ (b : Bool) (w u : Nat → Int32), fX3_someLife (nI t) (bI fl) (nI a) (nI q) f g sel ver ty ts tt tl tz tY tA tB = some (b, w, u) ∧ (b = true ↔ ∃ v, v < cRows C ∧ cLife C m E a q v ∧ decide (cFig v t (C 3) = 2) = fl) := by
  obtain ⟨hr1, hr2⟩ := cRows_le h.1
  have hT : C 3 ≤ 3 := h.1.2.2.2.2.1
  have ett : tt = nI (C 3) := h.2.2.2.2.2.1
  have ci : inb (nI t) 3 = true := by rw [zz_inbt (by omega)]; omega
  unfold fX3_someLife
  rw [zz_rows h, Option.bind_some]
  have l : ∃ e : ((Nat → Int32) × (Nat → Int32)) ⊕ ((Nat → Int32) × (Nat → Int32)), lpd (fun s2 => sX3_someLife_8 (nI t) (bI fl) (nI (cRows C)) (nI a) (nI q) f g ty tt tl tz tY tA tB s2.1 s2.2.1 s2.2.2) FU (0, sel, ver) = some e ∧ ((∃ x, e = Sum.inl x ∧ ∃ v, v < cRows C ∧ cLife C m E a q v ∧ decide (cFig v t (C 3) = 2) = fl) ∨ (∃ x, e = Sum.inr x ∧ ∀ v, v < cRows C → cLife C m E a q v → ¬ decide (cFig v t (C 3) = 2) = fl)) := by
    refine lpd_ex2 (fun (k : Nat) (s : Int32 × (Nat → Int32) × (Nat → Int32)) => s.1 = nI k ∧ ∀ v, v < k → cLife C m E a q v → ¬ decide (cFig v t (C 3) = 2) = fl) (cRows C) (by omega) _ ⟨rfl, fun v hv => absurd hv (Nat.not_lt_zero v)⟩ (fun k s hk hI => ?_) (fun s hI => ?_)
    · obtain ⟨i1, i2⟩ := hI
      have c1 : ¬ nI (cRows C) ≤ nI k := by rw [zz_le (by omega) (by omega)]; omega
      have en : nI k + 1 = nI (k + 1) := by rw [zz_1, zz_add]
      obtain ⟨u, eu, hu⟩ := zz_give (v := k) (by omega) hT s.2.2
      obtain ⟨b, w, e, hb, hw⟩ := zz_holds (sel := s.2.1) (v := k) h hf hg hu (ha (zz_pos hk)) hq (by omega)
      rw [← ett] at eu
      have fl3 := cFig_lt k t (C 3)
      have ef : (nI (cFig k t (C 3)) = 2) = (cFig k t (C 3) = 2) := by rw [zz_2, zz_eq (by omega) (by omega)]
      by_cases x : decide (cFig k t (C 3) = 2) = fl
      · have x6 : (if cFig k t (C 3) = 2 then (1 : Int32) else 0) = bI fl := by
          rw [← x]
          by_cases c : cFig k t (C 3) = 2
          · rw [if_pos c, decide_eq_true c]; rfl
          · rw [if_neg c, decide_eq_false c]; rfl
        cases b with
        | true =>
          have hL : cLife C m E a q k := hb.mp rfl
          refine Or.inr ⟨Sum.inl (w, u), ?_, Or.inl ⟨(w, u), rfl, k, hk, hL, x⟩⟩
          unfold sX3_someLife_8 jn
          simp only [i1, c1, eu, ci, zz_cl (show t < 2147483648 by omega), hu t ht, ef, Option.bind_some, ↓reduceIte]
          by_cases c : cFig k t (C 3) = 2
          · rw [if_pos c] at x6
            rw [if_pos c, if_pos x6, e]
            rfl
          · rw [if_neg c] at x6
            rw [if_neg c, if_pos x6, e]
            rfl
        | false =>
          have hL : ¬ cLife C m E a q k := fun h => by cases hb.mpr h
          refine Or.inl ⟨(nI (k + 1), w, u), ?_, rfl, fun v hv hl => ?_⟩
          · unfold sX3_someLife_8 jn
            simp only [i1, c1, eu, ci, zz_cl (show t < 2147483648 by omega), hu t ht, ef, en, Option.bind_some, ↓reduceIte]
            by_cases c : cFig k t (C 3) = 2
            · rw [if_pos c] at x6
              rw [if_pos c, if_pos x6, e]
              rfl
            · rw [if_neg c] at x6
              rw [if_neg c, if_pos x6, e]
              rfl
          · by_cases c : v = k
            · subst c; exact (hL hl).elim
            · exact i2 v (by omega) hl
      · have x6 : ¬ (if cFig k t (C 3) = 2 then (1 : Int32) else 0) = bI fl := by
          by_cases c : cFig k t (C 3) = 2
          · rw [if_pos c]
            rw [decide_eq_true c] at x
            cases fl
            · decide
            · exact (x rfl).elim
          · rw [if_neg c]
            rw [decide_eq_false c] at x
            cases fl
            · exact (x rfl).elim
            · decide
        refine Or.inl ⟨(nI (k + 1), s.2.1, u), ?_, rfl, fun v hv hl => ?_⟩
        · unfold sX3_someLife_8 jn
          simp only [i1, c1, eu, ci, zz_cl (show t < 2147483648 by omega), hu t ht, ef, en, Option.bind_some, ↓reduceIte]
          by_cases c : cFig k t (C 3) = 2
          · rw [if_pos c] at x6
            rw [if_pos c, if_neg x6]
          · rw [if_neg c] at x6
            rw [if_neg c, if_neg x6]
        · by_cases c : v = k
          · subst c; exact x
          · exact i2 v (by omega) hl
    · obtain ⟨i1, i2⟩ := hI
      have c1 : nI (cRows C) ≤ nI (cRows C) := by rw [zz_le (by omega) (by omega)]; omega
      refine ⟨Sum.inr s.2, ?_, Or.inr ⟨_, rfl, i2⟩⟩
      unfold sX3_someLife_8
      simp only [i1, c1, ↓reduceIte]
  obtain ⟨e, el, he⟩ := l
  rw [el, Option.bind_some]
  rcases he with ⟨x, rfl, hx⟩ | ⟨x, rfl, hx⟩
  · exact ⟨true, x.1, x.2, rfl, fun _ => hx, fun _ => rfl⟩
  · exact ⟨false, x.1, x.2, rfl, fun h => (by cases h), fun ⟨v, h1, h2, h3⟩ => (hx v h1 h2 h3).elim⟩
theorem zz_surely {C : Nat → Nat} {m : Nat} {E : Nat → Nat} {ty ts tb tt td tq : Int32} {tl tz tc tY tA tB tF tG gl f g sel ver : Nat → Int32} {a t : Nat} (h : IC C ty ts tb tt td tq tl tz tc tY tA tB tF tG gl) (hf : tabY C f) (hg : tabD C m E g) (ha : 0 < C 1 → a < C 1) (ht : t < C 3) : ∃ (b : Bool) (w u : Nat → Int32), fX3_surelyAcquitted (nI t) (nI a) (nI (C 4)) f g sel ver ty ts tt tl tz tY tA tB = some (b, w, u) ∧ (b = true ↔ cAcq C m E a t) := by
  have h4 : C 4 ≤ 9 := h.1.2.2.2.2.2.2.1
  obtain ⟨b1, w1, u1, e1, x1⟩ := zz_some (sel := sel) (ver := ver) (q := C 4) true h hf hg ha (by omega) ht
  obtain ⟨b2, w2, u2, e2, x2⟩ := zz_some (sel := w1) (ver := u1) (q := C 4) false h hf hg ha (by omega) ht
  have t1 : bI true = 1 := rfl
  have t0 : bI false = 0 := rfl
  rw [t1] at e1
  rw [t0] at e2
  unfold fX3_surelyAcquitted
  rw [e1, Option.bind_some]
  cases b1 with
  | false =>
    refine ⟨false, w1, u1, rfl, fun h => (by cases h), fun ⟨⟨v, hv, hl⟩, hall⟩ => ?_⟩
    exact x1.mpr ⟨v, hv, hl, decide_eq_true (hall v hv hl)⟩
  | true =>
    obtain ⟨v, hv, hl, -⟩ := x1.mp rfl
    show ∃ (b : Bool) (w u : Nat → Int32), ((fX3_someLife (nI t) 0 (nI a) (nI (C 4)) f g w1 u1 ty ts tt tl tz tY tA tB).bind _) = some (b, w, u) ∧ _
    rw [e2, Option.bind_some]
    cases b2 with
    | true =>
      obtain ⟨v', hv', hl', hd'⟩ := x2.mp rfl
      refine ⟨false, w2, u2, rfl, fun h => (by cases h), fun ⟨_, hall⟩ => ?_⟩
      rw [decide_eq_true (hall v' hv' hl')] at hd'
      exact hd'.symm
    | false =>
      refine ⟨true, w2, u2, rfl, fun _ => ⟨⟨v, hv, hl⟩, fun v' hv' hl' => ?_⟩, fun _ => rfl⟩
      by_cases c : cFig v' t (C 3) = 2
      · exact c
      · have := x2.mpr ⟨v', hv', hl', decide_eq_false c⟩
        cases this
