/-! the i-th life: verdict, self. -/
/-- the life v is the one with so many ahead of it -/
def isN (C : Nat → Nat) (m : Nat) (E : Nat → Nat) (a q v : Nat) (x : Int32) : Prop := v < cRows C ∧ cLife C m E a q v ∧ nI (cNum C m E a q v) = x
theorem cNum_mono {C : Nat → Nat} {m : Nat} {E : Nat → Nat} {a q u : Nat} : ∀ d, cNum C m E a q u ≤ cNum C m E a q (u + d)
  | 0 => Nat.le_refl _
  | d + 1 => by
    have ih := cNum_mono (C := C) (m := m) (E := E) (a := a) (q := q) (u := u) d
    rw [show u + (d + 1) = (u + d) + 1 from rfl]
    rw [show cNum C m E a q ((u + d) + 1) = if cWords C (cSelf C m E (u + d) a) q (C 3) = u + d then cNum C m E a q (u + d) + 1 else cNum C m E a q (u + d) from rfl]
    by_cases hc : cWords C (cSelf C m E (u + d) a) q (C 3) = u + d
    · rw [if_pos hc]; omega
    · rw [if_neg hc]; omega
theorem cNum_life {C : Nat → Nat} {m : Nat} {E : Nat → Nat} {a q u : Nat} (h : cLife C m E a q u) : cNum C m E a q (u + 1) = cNum C m E a q u + 1 := by
  rw [show cNum C m E a q (u + 1) = if cWords C (cSelf C m E u a) q (C 3) = u then cNum C m E a q u + 1 else cNum C m E a q u from rfl]
  exact if_pos h
theorem cNum_not {C : Nat → Nat} {m : Nat} {E : Nat → Nat} {a q u : Nat} (h : ¬ cLife C m E a q u) : cNum C m E a q (u + 1) = cNum C m E a q u := by
  rw [show cNum C m E a q (u + 1) = if cWords C (cSelf C m E u a) q (C 3) = u then cNum C m E a q u + 1 else cNum C m E a q u from rfl]
  exact if_neg h
theorem isN_uniq {C : Nat → Nat} {m : Nat} {E : Nat → Nat} {a q u v : Nat} {x : Int32} (hO : OKC C) (h1 : isN C m E a q u x) (h2 : isN C m E a q v x) : u = v := by
  obtain ⟨r1, r2⟩ := cRows_le hO
  have key : ∀ u v, u < v → isN C m E a q u x → isN C m E a q v x → False := by
    intro u v huv h1 h2
    have n1 := cNum_life h1.2.1
    have n2 := cNum_mono (C := C) (m := m) (E := E) (a := a) (q := q) (u := u + 1) (v - (u + 1))
    rw [show u + 1 + (v - (u + 1)) = v from by omega] at n2
    have b1 := cNum_le (C := C) (m := m) (E := E) (a := a) (q := q) u
    have b2 := cNum_le (C := C) (m := m) (E := E) (a := a) (q := q) v
    have l1 := h1.1
    have l2 := h2.1
    have e : nI (cNum C m E a q u) = nI (cNum C m E a q v) := by rw [h1.2.2, h2.2.2]
    rw [zz_eq (by omega) (by omega)] at e
    omega
  rcases Nat.lt_trichotomy u v with h | h | h
  · exact (key u v h h1 h2).elim
  · exact h
  · exact (key v u h h2 h1).elim
theorem zz_find {C : Nat → Nat} {m : Nat} {E : Nat → Nat} {ty ts tb tt td tq a1 : Int32} {tl tz tc tY tA tB tF tG gl f g sel ver : Nat → Int32} {a q : Nat} (h : IC C ty ts tb tt td tq tl tz tc tY tA tB tF tG gl) (hf : tabY C f) (hg : tabD C m E g) (ha : 0 < C 1 → a < C 1) (hq : q < 1000) : ∃ (b : Bool) (w u : Nat → Int32), fX3_find a1 (nI a) (nI q) f g sel ver ty ts tt tl tz tY tA tB = some (b, w, u) ∧ ((b = false ∧ ∀ v, ¬ isN C m E a q v a1) ∨ (b = true ∧ ∃ v, isN C m E a q v a1 ∧ (∀ y, y < C 0 → w y = nI (cSelf C m E v a y)) ∧ ∀ t, t < C 3 → u t = nI (cFig v t (C 3)))) := by
  obtain ⟨hr1, hr2⟩ := cRows_le h.1
  unfold fX3_find
  rw [zz_rows h, Option.bind_some]
  have l : ∃ e : ((Nat → Int32) × (Nat → Int32)) ⊕ ((Nat → Int32) × (Nat → Int32)), lpd (fun s2 => sX3_find_10 a1 (nI (cRows C)) (nI a) (nI q) f g ty tt tl tz tY tA tB s2.1 s2.2.1 s2.2.2.1 s2.2.2.2) FU (0, 0, sel, ver) = some e ∧ ((∃ x, e = Sum.inr x ∧ ∀ v, ¬ isN C m E a q v a1) ∨ (∃ w u, e = Sum.inl (w, u) ∧ ∃ v, isN C m E a q v a1 ∧ (∀ y, y < C 0 → w y = nI (cSelf C m E v a y)) ∧ ∀ t, t < C 3 → u t = nI (cFig v t (C 3)))) := by
    refine lpd_ex2 (fun (k : Nat) (s : Int32 × Int32 × (Nat → Int32) × (Nat → Int32)) => s.1 = nI (cNum C m E a q k) ∧ s.2.1 = nI k ∧ ∀ v, v < k → ¬ isN C m E a q v a1) (cRows C) (by omega) _ ⟨rfl, rfl, fun v hv => by omega⟩ (fun k s hk hI => ?_) (fun s hI => ?_)
    · obtain ⟨i1, i2, i3⟩ := hI
      have hpos : 0 < C 1 := by
        rcases Nat.eq_zero_or_pos (C 1) with h0 | h0
        · unfold cRows at hk; rw [if_pos h0] at hk; omega
        · exact h0
      obtain ⟨b, w, u, e, hb, hw, hu⟩ := zz_life (sel := s.2.2.1) (ver := s.2.2.2) (v := k) h hf hg (ha hpos) hq (by omega)
      have c1 : ¬ nI (cRows C) ≤ nI k := by rw [zz_le (by omega) (by omega)]; omega
      cases b with
      | true =>
        have hL : cLife C m E a q k := hb.mp rfl
        by_cases c2 : nI (cNum C m E a q k) = a1
        · refine Or.inr ⟨Sum.inl (w, u), ?_, Or.inr ⟨w, u, rfl, k, ⟨hk, hL, c2⟩, hw, hu⟩⟩
          unfold sX3_find_10
          simp only [i1, i2, c1, e, c2, zz_bt, Option.bind_some, ↓reduceIte]
        · refine Or.inl ⟨(nI (cNum C m E a q (k + 1)), nI (k + 1), w, u), ?_, rfl, rfl, fun v hv => ?_⟩
          · unfold sX3_find_10
            simp only [i1, i2, c1, e, c2, zz_bt, Option.bind_some, ↓reduceIte, cNum_life hL]
            rw [zz_1, zz_add, zz_add]
          · by_cases hvk : v = k
            · subst hvk; exact fun hh => c2 hh.2.2
            · exact i3 v (by omega)
      | false =>
        have hL : ¬ cLife C m E a q k := fun h => by cases hb.mpr h
        refine Or.inl ⟨(nI (cNum C m E a q (k + 1)), nI (k + 1), w, u), ?_, rfl, rfl, fun v hv => ?_⟩
        · unfold sX3_find_10
          simp only [i1, i2, c1, e, zz_bf, Option.bind_some, ↓reduceIte, cNum_not hL]
          rw [zz_1, zz_add]
        · by_cases hvk : v = k
          · subst hvk; exact fun hh => hL hh.2.1
          · exact i3 v (by omega)
    · obtain ⟨i1, i2, i3⟩ := hI
      have c1 : nI (cRows C) ≤ nI (cRows C) := by rw [zz_le (by omega) (by omega)]; omega
      refine ⟨Sum.inr s.2.2, ?_, Or.inl ⟨s.2.2, rfl, fun v hv => ?_⟩⟩
      · unfold sX3_find_10
        simp only [i2, c1, ↓reduceIte]
      · exact i3 v hv.1 hv
  obtain ⟨e, el, he⟩ := l
  rw [el, Option.bind_some]
  rcases he with ⟨x, rfl, hx⟩ | ⟨w, u, rfl, hv⟩
  · exact ⟨false, x.1, x.2, rfl, Or.inl ⟨rfl, hx⟩⟩
  · exact ⟨true, w, u, rfl, Or.inr ⟨rfl, hv⟩⟩
theorem zz_gone {C : Nat → Nat} {m : Nat} {E : Nat → Nat} {gl gd sel : Nat → Int32} {a1 : Int32} (h : MC C m E gl gd) : ∃ (r : Int32) (w : Nat → Int32), fX7_gone a1 (nI m) gl gd sel = some (r, w) ∧ ((r = -1 ∧ ∀ v, ¬ isN C m E (cBeg C) (C 4) v a1) ∨ ∃ v, isN C m E (cBeg C) (C 4) v a1 ∧ r = nI v ∧ ∀ y, y < C 0 → w y = nI (cSelf C m E v (cBeg C) y)) := by
  obtain ⟨hr1, hr2⟩ := cRows_le h.1
  have hrows := zz_mrows h.1 h.2.1
  have hbeg := zz_begM h.1 h.2.1
  have h4 : C 4 ≤ 9 := h.1.2.2.2.2.2.2.1
  have hgl := h.2.1 4 (by omega)
  have hi : inb 4 55 = true := by decide
  unfold fX7_gone
  have l : ∃ e : (Int32 × (Nat → Int32)) ⊕ (Nat → Int32), lpd (fun s1 => sX7_gone_4 a1 (nI m) gl gd s1.1 s1.2.1 s1.2.2) FU (0, 0, sel) = some e ∧ ((∃ x, e = Sum.inr x ∧ ∀ v, ¬ isN C m E (cBeg C) (C 4) v a1) ∨ (∃ w v, e = Sum.inl (nI v, w) ∧ isN C m E (cBeg C) (C 4) v a1 ∧ ∀ y, y < C 0 → w y = nI (cSelf C m E v (cBeg C) y))) := by
    refine lpd_ex2 (fun (k : Nat) (s : Int32 × Int32 × (Nat → Int32)) => s.1 = nI (cNum C m E (cBeg C) (C 4) k) ∧ s.2.1 = nI k ∧ ∀ v, v < k → ¬ isN C m E (cBeg C) (C 4) v a1) (cRows C) (by omega) _ ⟨rfl, rfl, fun v hv => by omega⟩ (fun k s hk hI => ?_) (fun s hI => ?_)
    · obtain ⟨i1, i2, i3⟩ := hI
      have hpos : 0 < C 1 := by
        rcases Nat.eq_zero_or_pos (C 1) with h0 | h0
        · unfold cRows at hk; rw [if_pos h0] at hk; omega
        · exact h0
      obtain ⟨b, hb, e⟩ := zz_mlife (sel := s.2.2) (v := k) (q := C 4) h (by omega) (cBeg_lt hpos) (by omega)
      have c1 : ¬ nI (cRows C) ≤ nI k := by rw [zz_le (by omega) (by omega)]; omega
      have hw : ∀ y, y < C 0 → cpTo s.2.2 (fun i => nI (cSelf C m E k (cBeg C) i)) (C 0) y = nI (cSelf C m E k (cBeg C) y) := fun y hy => by
        unfold cpTo; rw [if_pos hy]
      cases b with
      | true =>
        have hL : cLife C m E (cBeg C) (C 4) k := hb.mp rfl
        by_cases c2 : nI (cNum C m E (cBeg C) (C 4) k) = a1
        · refine Or.inr ⟨Sum.inl (nI k, _), ?_, Or.inr ⟨_, k, rfl, ⟨hk, hL, c2⟩, hw⟩⟩
          unfold sX7_gone_4
          simp only [hrows, hbeg, hi, zz_c4, hgl, i1, i2, c1, e, c2, zz_bt, Option.bind_some, ↓reduceIte]
        · refine Or.inl ⟨(nI (cNum C m E (cBeg C) (C 4) (k + 1)), nI (k + 1), cpTo s.2.2 (fun i => nI (cSelf C m E k (cBeg C) i)) (C 0)), ?_, rfl, rfl, fun v hv => ?_⟩
          · unfold sX7_gone_4
            simp only [hrows, hbeg, hi, zz_c4, hgl, i1, i2, c1, e, c2, zz_bt, Option.bind_some, ↓reduceIte, cNum_life hL]
            rw [zz_1, zz_add, zz_add]
          · by_cases hvk : v = k
            · subst hvk; exact fun hh => c2 hh.2.2
            · exact i3 v (by omega)
      | false =>
        have hL : ¬ cLife C m E (cBeg C) (C 4) k := fun h => by cases hb.mpr h
        refine Or.inl ⟨(nI (cNum C m E (cBeg C) (C 4) (k + 1)), nI (k + 1), cpTo s.2.2 (fun i => nI (cSelf C m E k (cBeg C) i)) (C 0)), ?_, rfl, rfl, fun v hv => ?_⟩
        · unfold sX7_gone_4
          simp only [hrows, hbeg, hi, zz_c4, hgl, i1, i2, c1, e, zz_bf, Option.bind_some, ↓reduceIte, cNum_not hL]
          rw [zz_1, zz_add]
        · by_cases hvk : v = k
          · subst hvk; exact fun hh => hL hh.2.1
          · exact i3 v (by omega)
    · obtain ⟨i1, i2, i3⟩ := hI
      have c1 : nI (cRows C) ≤ nI (cRows C) := by rw [zz_le (by omega) (by omega)]; omega
      refine ⟨Sum.inr s.2.2, ?_, Or.inl ⟨s.2.2, rfl, fun v hv => ?_⟩⟩
      · unfold sX7_gone_4
        simp only [hrows, i2, c1, Option.bind_some, ↓reduceIte]
      · exact i3 v hv.1 hv
  obtain ⟨e, el, he⟩ := l
  rw [el, Option.bind_some]
  rcases he with ⟨x, rfl, hx⟩ | ⟨w, v, rfl, hv, hw⟩
  · exact ⟨-1, x, rfl, Or.inl ⟨rfl, hx⟩⟩
  · exact ⟨nI v, w, rfl, Or.inr ⟨v, hv, rfl, hw⟩⟩
