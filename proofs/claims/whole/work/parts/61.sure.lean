/-! sure. -/
def cSr (C : Nat → Nat) (m : Nat) (E : Nat → Nat) (a q t : Nat) : Nat → Int32
  | 0 => -9
  | k + 1 => if cWords C (cSelf C m E k a) q (C 3) = k then (if cSr C m E a q t k = -9 then nI (cFig k t (C 3)) else if cSr C m E a q t k = nI (cFig k t (C 3)) then nI (cFig k t (C 3)) else -5) else cSr C m E a q t k
theorem zz_f5 {f : Nat} (h : f < 3) : ¬ (-5 : Int32) = nI f ∧ ¬ nI f = (-9 : Int32) := by
  rcases (show f = 0 ∨ f = 1 ∨ f = 2 by omega) with rfl | rfl | rfl <;> decide
theorem cSr_5 {C : Nat → Nat} {m : Nat} {E : Nat → Nat} {a q t k : Nat} (h : cSr C m E a q t k = -5) : ∀ d, cSr C m E a q t (k + d) = -5
  | 0 => h
  | d + 1 => by
    have ih := cSr_5 h d
    rw [show k + (d + 1) = (k + d) + 1 from rfl]
    have n5 : ¬ (-5 : Int32) = -9 := by decide
    unfold cSr
    rw [ih, if_neg n5, if_neg (zz_f5 (cFig_lt _ _ _)).1]
    by_cases hc : cWords C (cSelf C m E (k + d) a) q (C 3) = k + d
    · rw [if_pos hc]
    · rw [if_neg hc]
theorem zz_sureM {C : Nat → Nat} {m : Nat} {E : Nat → Nat} {gl gd sel : Nat → Int32} {a t : Nat} (h : MC C m E gl gd) (ha : 0 < C 1 → a < C 1) (ht : t < C 3) : ∃ w, fX7_sureFrom (nI t) (nI a) (nI m) gl gd sel = some (cSr C m E a (C 4) t (cRows C), w) := by
  obtain ⟨hr1, hr2⟩ := cRows_le h.1
  have hrows := zz_mrows h.1 h.2.1
  have h4 : C 4 ≤ 9 := h.1.2.2.2.2.2.2.1
  have hT : C 3 ≤ 3 := h.1.2.2.2.2.1
  have hgl := h.2.1 4 (by omega)
  have hgl3 := h.2.1 3 (by omega)
  have hi : inb 4 55 = true := by decide
  have hi3 : inb 3 55 = true := by decide
  unfold fX7_sureFrom
  have l : ∃ e : Int32 × (Nat → Int32), lpd (fun s1 => sX7_sureFrom_6 (nI t) (nI a) (nI m) gl gd s1.1 s1.2.1 s1.2.2) FU (-9, 0, sel) = some e ∧ e.1 = cSr C m E a (C 4) t (cRows C) := by
    refine lpd_ex (fun (k : Nat) (s : Int32 × Int32 × (Nat → Int32)) => s.1 = cSr C m E a (C 4) t k ∧ s.2.1 = nI k) (cRows C) (by omega) _ ⟨rfl, rfl⟩ (fun k s hk hI => ?_) (fun s hI => ?_)
    · obtain ⟨i1, i2⟩ := hI
      have hpos : 0 < C 1 := by
        rcases Nat.eq_zero_or_pos (C 1) with h0 | h0
        · unfold cRows at hk; rw [if_pos h0] at hk; omega
        · exact h0
      obtain ⟨b, hb, e⟩ := zz_mlife (sel := s.2.2) (v := k) (q := C 4) h (by omega) (ha hpos) (by omega)
      have c1 : ¬ nI (cRows C) ≤ nI k := by rw [zz_le (by omega) (by omega)]; omega
      refine ⟨(cSr C m E a (C 4) t (k + 1), nI (k + 1), cpTo s.2.2 (fun i => nI (cSelf C m E k a i)) (C 0)), ?_, rfl, rfl⟩
      unfold sX7_sureFrom_6
      rw [show cSr C m E a (C 4) t (k + 1) = if cWords C (cSelf C m E k a) (C 4) (C 3) = k then (if cSr C m E a (C 4) t k = -9 then nI (cFig k t (C 3)) else if cSr C m E a (C 4) t k = nI (cFig k t (C 3)) then nI (cFig k t (C 3)) else -5) else cSr C m E a (C 4) t k from rfl]
      simp only [hrows, i1, i2, c1, hi, hi3, zz_c3, zz_c4, hgl, hgl3, e, zz_figure (v := k) (by omega) ht hT, Option.bind_some, ↓reduceIte]
      rw [show nI k + 1 = nI (k + 1) from by rw [zz_1, zz_add]]
      cases b with
      | true =>
        have hL : cWords C (cSelf C m E k a) (C 4) (C 3) = k := hb.mp rfl
        simp only [hL, zz_bt, ↓reduceIte]
        by_cases c2 : cSr C m E a (C 4) t k = -9
        · simp only [c2, ↓reduceIte]
        · by_cases c3 : cSr C m E a (C 4) t k = nI (cFig k t (C 3))
          · rw [if_neg c2, if_pos c3, if_neg c2, if_pos c3]
          · rw [if_neg c2, if_neg c3, if_neg c2, if_neg c3]
      | false =>
        have hL : ¬ cWords C (cSelf C m E k a) (C 4) (C 3) = k := fun h => by cases hb.mpr h
        simp only [hL, zz_bf, ↓reduceIte]
    · obtain ⟨i1, i2⟩ := hI
      have c1 : nI (cRows C) ≤ nI (cRows C) := by rw [zz_le (by omega) (by omega)]; omega
      refine ⟨(s.1, s.2.2), ?_, i1⟩
      unfold sX7_sureFrom_6
      simp only [hrows, i2, c1, Option.bind_some, ↓reduceIte]
  obtain ⟨e, el, he⟩ := l
  exact ⟨e.2, by rw [el, Option.bind_some, he]⟩
theorem zz_sureC {C : Nat → Nat} {m : Nat} {E : Nat → Nat} {ty ts tb tt td tq : Int32} {tl tz tc tY tA tB tF tG gl f g sel ver : Nat → Int32} {a q t : Nat} (h : IC C ty ts tb tt td tq tl tz tc tY tA tB tF tG gl) (hf : tabY C f) (hg : tabD C m E g) (ha : 0 < C 1 → a < C 1) (hq : q < 1000) (ht : t < C 3) : ∃ w u, fX3_sureVerdict (nI t) (nI a) (nI q) f g sel ver ty ts tt tl tz tY tA tB = some (cSr C m E a q t (cRows C), w, u) := by
  obtain ⟨hr1, hr2⟩ := cRows_le h.1
  have hT : C 3 ≤ 3 := h.1.2.2.2.2.1
  have ci : inb (nI t) 3 = true := by rw [zz_inbt (by omega)]; omega
  unfold fX3_sureVerdict
  rw [zz_rows h, Option.bind_some]
  have l : ∃ e : ((Nat → Int32) × (Nat → Int32)) ⊕ (Int32 × (Nat → Int32) × (Nat → Int32)), lpd (fun s2 => sX3_sureVerdict_11 (nI t) (nI (cRows C)) (nI a) (nI q) f g ty tt tl tz tY tA tB s2.1 s2.2.1 s2.2.2.1 s2.2.2.2) FU (-9, 0, sel, ver) = some e ∧ ((∃ x, e = Sum.inl x ∧ cSr C m E a q t (cRows C) = -5) ∨ (∃ x, e = Sum.inr (cSr C m E a q t (cRows C), x))) := by
    refine lpd_ex2 (fun (k : Nat) (s : Int32 × Int32 × (Nat → Int32) × (Nat → Int32)) => s.1 = cSr C m E a q t k ∧ s.2.1 = nI k) (cRows C) (by omega) _ ⟨rfl, rfl⟩ (fun k s hk hI => ?_) (fun s hI => ?_)
    · obtain ⟨i1, i2⟩ := hI
      have hpos : 0 < C 1 := by
        rcases Nat.eq_zero_or_pos (C 1) with h0 | h0
        · unfold cRows at hk; rw [if_pos h0] at hk; omega
        · exact h0
      obtain ⟨b, w, u, e, hb, hw, hu⟩ := zz_life (sel := s.2.2.1) (ver := s.2.2.2) (v := k) h hf hg (ha hpos) hq (by omega)
      have c1 : ¬ nI (cRows C) ≤ nI k := by rw [zz_le (by omega) (by omega)]; omega
      have es : cSr C m E a q t (k + 1) = if cWords C (cSelf C m E k a) q (C 3) = k then (if cSr C m E a q t k = -9 then nI (cFig k t (C 3)) else if cSr C m E a q t k = nI (cFig k t (C 3)) then nI (cFig k t (C 3)) else -5) else cSr C m E a q t k := rfl
      have en : nI k + 1 = nI (k + 1) := by rw [zz_1, zz_add]
      cases b with
      | true =>
        have hL : cWords C (cSelf C m E k a) q (C 3) = k := hb.mp rfl
        rw [if_pos hL] at es
        by_cases c2 : cSr C m E a q t k = -9
        · rw [if_pos c2] at es
          refine Or.inl ⟨(cSr C m E a q t (k + 1), nI (k + 1), w, u), ?_, rfl, rfl⟩
          unfold sX3_sureVerdict_11 jn
          simp only [i1, i2, c1, e, c2, ci, zz_bt, zz_cl (show t < 2147483648 by omega), hu t ht, Option.bind_some, ↓reduceIte, es, en]
        · rw [if_neg c2] at es
          by_cases c3 : cSr C m E a q t k = nI (cFig k t (C 3))
          · rw [if_pos c3] at es
            rw [c3] at c2
            refine Or.inl ⟨(cSr C m E a q t (k + 1), nI (k + 1), w, u), ?_, rfl, rfl⟩
            unfold sX3_sureVerdict_11 jn
            simp only [i1, i2, c1, e, c2, c3, ci, zz_bt, zz_cl (show t < 2147483648 by omega), hu t ht, Option.bind_some, ↓reduceIte, es, en]
          · rw [if_neg c3] at es
            refine Or.inr ⟨Sum.inl (w, u), ?_, Or.inl ⟨(w, u), rfl, ?_⟩⟩
            · unfold sX3_sureVerdict_11 jn
              simp only [i1, i2, c1, e, c2, c3, ci, zz_bt, zz_cl (show t < 2147483648 by omega), hu t ht, Option.bind_some, ↓reduceIte]
            · have := cSr_5 es (cRows C - (k + 1))
              rw [show k + 1 + (cRows C - (k + 1)) = cRows C from by omega] at this
              exact this
      | false =>
        have hL : ¬ cWords C (cSelf C m E k a) q (C 3) = k := fun h => by cases hb.mpr h
        rw [if_neg hL] at es
        refine Or.inl ⟨(cSr C m E a q t (k + 1), nI (k + 1), w, u), ?_, rfl, rfl⟩
        unfold sX3_sureVerdict_11
        simp only [i1, i2, c1, e, zz_bf, Option.bind_some, ↓reduceIte, es, en]
    · obtain ⟨i1, i2⟩ := hI
      have c1 : nI (cRows C) ≤ nI (cRows C) := by rw [zz_le (by omega) (by omega)]; omega
      refine ⟨Sum.inr (cSr C m E a q t (cRows C), s.2.2), ?_, Or.inr ⟨s.2.2, rfl⟩⟩
      unfold sX3_sureVerdict_11
      simp only [i1, i2, c1, ↓reduceIte]
  obtain ⟨e, el, he⟩ := l
  rw [el, Option.bind_some]
  rcases he with ⟨x, rfl, hx⟩ | ⟨x, rfl⟩
  · exact ⟨x.1, x.2, by rw [hx]; rfl⟩
  · exact ⟨x.1, x.2, rfl⟩
theorem p_sure {C : Nat → Nat} {m : Nat} {E : Nat → Nat} {ty ts tb tt td tq ds gn a1 : Int32} {tl tz tc tY tA tB tF tG gl dy dk gd : Nat → Int32} (h : IC C ty ts tb tt td tq tl tz tc tY tA tB tF tG gl) (hN : HN C m E ds dy dk gn gd) (vt qt : Nat) (v5 v6 : Int32) (v1 v2 v3 v4 sel : Nat → Int32) : ∃ o1 o2, fX6_sure a1 ty ts tb tt tq tl tz tc tY tA tB tF tG vt v5 v6 v1 v2 v3 v4 ds dy dk qt = some o1 ∧ fX7_sure a1 gn gl gd sel = some o2 ∧ o1.1 = o2.1 := by
  have hT : C 3 ≤ 3 := h.1.2.2.2.2.1
  have h4 : C 4 ≤ 9 := h.1.2.2.2.2.2.2.1
  have htt : tt = nI (C 3) := h.2.2.2.2.2.1
  have hgn : gn = nI m := hN.2.2.2.1
  unfold fX6_sure fX7_sure
  rw [htt, zz_isT (by omega), zz_mT h.2.1 hT]
  rcases zz_cs a1 (C 3) (by omega) with ⟨t, ht, rfl, d, -, -, -⟩ | ⟨d, -⟩
  · obtain ⟨f, g, e1, hf, hg⟩ := zz_prep h hN v1 v2
    obtain ⟨w, u, e2⟩ := zz_sureC (sel := v3) (ver := v4) h hf hg (fun hp => cBeg_lt hp) (q := C 4) (by omega) ht
    obtain ⟨w', e3⟩ := zz_sureM (sel := sel) (MC.of h hN) (fun hp => cBeg_lt hp) ht
    rw [htt] at e2
    simp only [d, zz_bt, e1, e2, e3, hgn, zz_begM h.1 h.2.1, Option.bind_some, ↓reduceIte]
    exact ⟨_, _, rfl, rfl, rfl⟩
  · simp only [d, zz_bf, Option.bind_some, ↓reduceIte]
    exact ⟨_, _, rfl, rfl, rfl⟩
