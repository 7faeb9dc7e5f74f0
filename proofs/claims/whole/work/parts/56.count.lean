/-! lives, quorum: how many. -/
theorem zz_rows {C : Nat → Nat} {ty ts tb tt td tq : Int32} {tl tz tc tY tA tB tF tG gl : Nat → Int32} (h : IC C ty ts tb tt td tq tl tz tc tY tA tB tF tG gl) : fX3_rows ts tt = some (nI (cRows C)) := by
  have hT3 : C 3 ≤ 3 := h.1.2.2.2.2.1
  have hS6 : C 1 ≤ 6 := h.1.2.2.1
  have ets : ts = nI (C 1) := h.2.2.2.1
  have ett : tt = nI (C 3) := h.2.2.2.2.2.1
  unfold fX3_rows cRows
  have ez : (nI (C 1) = 0) = (C 1 = 0) := by rw [zz_0, zz_eq (by omega) (by omega)]
  have c2 : inb (nI (C 3)) 4 = true := by rw [zz_inbt (by omega)]; omega
  simp only [ets, ett, ez, c2, zz_cl (show C 3 < 2147483648 by omega), ↓reduceIte]
  by_cases h : C 1 = 0
  · simp only [h, ↓reduceIte]; rfl
  · simp only [h, ↓reduceIte]
    have hc : C 3 = 0 ∨ C 3 = 1 ∨ C 3 = 2 ∨ C 3 = 3 := by omega
    rcases hc with e | e | e | e <;> rw [e] <;> rfl

def cNum (C : Nat → Nat) (m : Nat) (E : Nat → Nat) (a q : Nat) : Nat → Nat
  | 0 => 0
  | k + 1 => if cWords C (cSelf C m E k a) q (C 3) = k then cNum C m E a q k + 1 else cNum C m E a q k
theorem cNum_le {C : Nat → Nat} {m : Nat} {E : Nat → Nat} {a q : Nat} : ∀ k, cNum C m E a q k ≤ k
  | 0 => by unfold cNum; omega
  | k + 1 => by
    have ih := cNum_le (C := C) (m := m) (E := E) (a := a) (q := q) k
    unfold cNum
    by_cases h : cWords C (cSelf C m E k a) q (C 3) = k
    · rw [if_pos h]; omega
    · rw [if_neg h]; omega
theorem cRows_le {C : Nat → Nat} (hO : OKC C) : cRows C ≤ 3 ^ C 3 ∧ 3 ^ C 3 ≤ 27 := by
  have hp := zz_p3 hO.2.2.2.2.1
  unfold cRows
  by_cases h : C 1 = 0
  · rw [if_pos h]; exact ⟨Nat.zero_le _, hp⟩
  · rw [if_neg h]; exact ⟨Nat.le_refl _, hp⟩
theorem zz_many {C : Nat → Nat} {m : Nat} {E : Nat → Nat} {ty ts tb tt td tq : Int32} {tl tz tc tY tA tB tF tG gl f g sel ver : Nat → Int32} {a q : Nat} (h : IC C ty ts tb tt td tq tl tz tc tY tA tB tF tG gl) (hf : tabY C f) (hg : tabD C m E g) (ha : 0 < C 1 → a < C 1) (hq : q < 1000) : ∃ w u, fX3_howMany (nI a) (nI q) f g sel ver ty ts tt tl tz tY tA tB = some (nI (cNum C m E a q (cRows C)), w, u) := by
  obtain ⟨hr1, hr2⟩ := cRows_le h.1
  unfold fX3_howMany
  rw [zz_rows h, Option.bind_some]
  have l : ∃ e : Int32 × (Nat → Int32) × (Nat → Int32), lpd (fun s2 => sX3_howMany_9 (nI (cRows C)) (nI a) (nI q) f g ty tt tl tz tY tA tB s2.1 s2.2.1 s2.2.2.1 s2.2.2.2) FU (0, 0, sel, ver) = some e ∧ e.1 = nI (cNum C m E a q (cRows C)) := by
    refine lpd_ex (fun (k : Nat) (s : Int32 × Int32 × (Nat → Int32) × (Nat → Int32)) => s.1 = nI (cNum C m E a q k) ∧ s.2.1 = nI k) (cRows C) (by omega) _ ⟨rfl, rfl⟩ (fun k s hk hI => ?_) (fun s hI => ?_)
    · obtain ⟨i1, i2⟩ := hI
      have hpos : 0 < C 1 := by
        rcases Nat.eq_zero_or_pos (C 1) with h0 | h0
        · unfold cRows at hk; rw [if_pos h0] at hk; omega
        · exact h0
      obtain ⟨b, w, u, e, hb, -, -⟩ := zz_life (sel := s.2.2.1) (ver := s.2.2.2) (v := k) h hf hg (ha hpos) hq (by omega)
      have c1 : ¬ nI (cRows C) ≤ nI k := by rw [zz_le (by omega) (by omega)]; omega
      refine ⟨(nI (cNum C m E a q (k + 1)), nI (k + 1), w, u), ?_, rfl, rfl⟩
      unfold sX3_howMany_9
      simp only [i1, i2, c1, e, Option.bind_some, ↓reduceIte]
      rw [show cNum C m E a q (k + 1) = if cWords C (cSelf C m E k a) q (C 3) = k then cNum C m E a q k + 1 else cNum C m E a q k from rfl]
      cases b with
      | true =>
        have hL : cWords C (cSelf C m E k a) q (C 3) = k := hb.mp rfl
        simp only [hL, zz_bt, ↓reduceIte]
        rw [zz_1, zz_add, zz_add]
      | false =>
        have hL : ¬ cWords C (cSelf C m E k a) q (C 3) = k := fun h => by cases hb.mpr h
        simp only [hL, zz_bf, ↓reduceIte]
        rw [zz_1, zz_add]
    · obtain ⟨i1, i2⟩ := hI
      have c1 : nI (cRows C) ≤ nI (cRows C) := by rw [zz_le (by omega) (by omega)]; omega
      refine ⟨(s.1, s.2.2.1, s.2.2.2), ?_, i1⟩
      unfold sX3_howMany_9
      simp only [i2, c1, ↓reduceIte]
  obtain ⟨e, el, he⟩ := l
  exact ⟨e.2.1, e.2.2, by rw [el, Option.bind_some, he]⟩
