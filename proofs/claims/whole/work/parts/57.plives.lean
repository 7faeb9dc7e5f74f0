/-! lives and quorum alike on both sides. -/
theorem zz_mmany {C : Nat → Nat} {m : Nat} {E : Nat → Nat} {gl gd sel : Nat → Int32} {a q : Nat} (h : MC C m E gl gd) (ha : 0 < C 1 → a < C 1) (hq : q < 1000) : ∃ w, fX7_livesFrom (nI a) (nI q) (nI m) gl gd sel = some (nI (cNum C m E a q (cRows C)), w) := by
  obtain ⟨hr1, hr2⟩ := cRows_le h.1
  have hrows := zz_mrows h.1 h.2.1
  unfold fX7_livesFrom
  have l : ∃ e : Int32 × (Nat → Int32), lpd (fun s1 => sX7_livesFrom_5 (nI a) (nI q) (nI m) gl gd s1.1 s1.2.1 s1.2.2) FU (0, 0, sel) = some e ∧ e.1 = nI (cNum C m E a q (cRows C)) := by
    refine lpd_ex (fun (k : Nat) (s : Int32 × Int32 × (Nat → Int32)) => s.1 = nI (cNum C m E a q k) ∧ s.2.1 = nI k) (cRows C) (by omega) _ ⟨rfl, rfl⟩ (fun k s hk hI => ?_) (fun s hI => ?_)
    · obtain ⟨i1, i2⟩ := hI
      have hpos : 0 < C 1 := by
        rcases Nat.eq_zero_or_pos (C 1) with h0 | h0
        · unfold cRows at hk; rw [if_pos h0] at hk; omega
        · exact h0
      obtain ⟨b, hb, e⟩ := zz_mlife (sel := s.2.2) (v := k) h (by omega) (ha hpos) hq
      have c1 : ¬ nI (cRows C) ≤ nI k := by rw [zz_le (by omega) (by omega)]; omega
      refine ⟨(nI (cNum C m E a q (k + 1)), nI (k + 1), cpTo s.2.2 (fun i => nI (cSelf C m E k a i)) (C 0)), ?_, rfl, rfl⟩
      unfold sX7_livesFrom_5
      simp only [hrows, i1, i2, c1, e, Option.bind_some, ↓reduceIte]
      rw [show cNum C m E a q (k + 1) = if cWords C (cSelf C m E k a) q (C 3) = k then cNum C m E a q k + 1 else cNum C m E a q k from rfl]
      cases b with
      | true =>
        have hL : cWords C (cSelf C m E k a) q (C 3) = k := hb.mp rfl
        simp only [hL, zz_bt, ↓reduceIte]
        rw [zz_1, zz_add, zz_add]
      | false =>
        have hL : ¬ cWords C (cSelf C m E k a) q (C 3) = k := fun h => by cases hb.mpr h
        simp only [hL, zz_bf, ↓reduceIte]
        rw [zz_1, zz_add, Int32.add_zero]
    · obtain ⟨i1, i2⟩ := hI
      have c1 : nI (cRows C) ≤ nI (cRows C) := by rw [zz_le (by omega) (by omega)]; omega
      refine ⟨(s.1, s.2.2), ?_, i1⟩
      unfold sX7_livesFrom_5
      simp only [hrows, i2, c1, Option.bind_some, ↓reduceIte]
  obtain ⟨e, el, he⟩ := l
  exact ⟨e.2, by rw [el, Option.bind_some, he]⟩
theorem MC.of {C : Nat → Nat} {m : Nat} {E : Nat → Nat} {ty ts tb tt td tq ds gn : Int32} {tl tz tc tY tA tB tF tG gl dy dk gd : Nat → Int32} (h : IC C ty ts tb tt td tq tl tz tc tY tA tB tF tG gl) (hN : HN C m E ds dy dk gn gd) : MC C m E gl gd := ⟨h.1, h.2.1, by have := hN.1; omega, hN.2.1, hN.2.2.2.2.2⟩
theorem cBeg_lt {C : Nat → Nat} (h : 0 < C 1) : cBeg C < C 1 := by
  unfold cBeg
  by_cases h1 : C 2 < C 1
  · rw [if_pos h1]; exact h1
  · rw [if_neg h1]; exact h
