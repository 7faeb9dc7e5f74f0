/-! who. -/
def cWh (C : Nat → Nat) (m : Nat) (E : Nat → Nat) (a q y : Nat) : Nat → Int32
  | 0 => 0
  | k + 1 => if cWords C (cSelf C m E k a) q (C 3) = k then cWh C m E a q y k ||| (1 <<< ((nI (cSelf C m E k a y)) &&& 31)) else cWh C m E a q y k
theorem zz_pos {C : Nat → Nat} {k : Nat} (hk : k < cRows C) : 0 < C 1 := by
  rcases Nat.eq_zero_or_pos (C 1) with h0 | h0
  · unfold cRows at hk; rw [if_pos h0] at hk; omega
  · exact h0
theorem zz_or0 (a : Int32) : a ||| 0 = a := by
  apply Int32.toBitVec_inj.mp
  simp
theorem zz_whoC {C : Nat → Nat} {m : Nat} {E : Nat → Nat} {ty ts tb tt td tq : Int32} {tl tz tc tY tA tB tF tG gl f g sel ver : Nat → Int32} {a q y : Nat} (h : IC C ty ts tb tt td tq tl tz tc tY tA tB tF tG gl) (hf : tabY C f) (hg : tabD C m E g) (ha : 0 < C 1 → a < C 1) (hq : q < 1000) (hy : y < C 0) : ∃ w u, lpd (fun s5 => sX6_who_41 (nI y) (nI (cRows C)) ty tt tl tz tY tA tB (nI a) (nI q) f g s5.1 s5.2.1 s5.2.2.1 s5.2.2.2) FU (0, 0, sel, ver) = some (cWh C m E a q y (cRows C), w, u) := by
  obtain ⟨hr1, hr2⟩ := cRows_le h.1
  have hY : C 0 ≤ 16 := h.1.2.1
  have ci : inb (nI y) 16 = true := by rw [zz_inbt (by omega)]; omega
  have l : ∃ e : Int32 × (Nat → Int32) × (Nat → Int32), lpd (fun s5 => sX6_who_41 (nI y) (nI (cRows C)) ty tt tl tz tY tA tB (nI a) (nI q) f g s5.1 s5.2.1 s5.2.2.1 s5.2.2.2) FU (0, 0, sel, ver) = some e ∧ e.1 = cWh C m E a q y (cRows C) := by
    refine lpd_ex (fun (k : Nat) (s : Int32 × Int32 × (Nat → Int32) × (Nat → Int32)) => s.1 = cWh C m E a q y k ∧ s.2.1 = nI k) (cRows C) (by omega) _ ⟨rfl, rfl⟩ (fun k s hk hI => ?_) (fun s hI => ?_)
    · obtain ⟨i1, i2⟩ := hI
      obtain ⟨b, w, u, e, hb, hw, hu⟩ := zz_life (sel := s.2.2.1) (ver := s.2.2.2) (v := k) h hf hg (ha (zz_pos hk)) hq (by omega)
      have c1 : ¬ nI (cRows C) ≤ nI k := by rw [zz_le (by omega) (by omega)]; omega
      have en : nI k + 1 = nI (k + 1) := by rw [zz_1, zz_add]
      refine ⟨(cWh C m E a q y (k + 1), nI (k + 1), w, u), ?_, rfl, rfl⟩
      unfold sX6_who_41
      rw [show cWh C m E a q y (k + 1) = if cWords C (cSelf C m E k a) q (C 3) = k then cWh C m E a q y k ||| (1 <<< ((nI (cSelf C m E k a y)) &&& 31)) else cWh C m E a q y k from rfl]
      cases b with
      | true =>
        have hL : cWords C (cSelf C m E k a) q (C 3) = k := hb.mp rfl
        rw [if_pos hL]
        simp only [i1, i2, c1, e, ci, zz_bt, zz_cl (show y < 2147483648 by omega), hw y hy, en, Option.bind_some, ↓reduceIte]
      | false =>
        have hL : ¬ cWords C (cSelf C m E k a) q (C 3) = k := fun h => by cases hb.mpr h
        rw [if_neg hL]
        simp only [i1, i2, c1, e, zz_bf, en, Option.bind_some, ↓reduceIte]
    · obtain ⟨i1, i2⟩ := hI
      have c1 : nI (cRows C) ≤ nI (cRows C) := by rw [zz_le (by omega) (by omega)]; omega
      refine ⟨(s.1, s.2.2.1, s.2.2.2), ?_, i1⟩
      unfold sX6_who_41
      simp only [i2, c1, ↓reduceIte]
  obtain ⟨e, el, he⟩ := l
  exact ⟨e.2.1, e.2.2, by rw [el, ← he]⟩
theorem zz_whoM {C : Nat → Nat} {m : Nat} {E : Nat → Nat} {gl gd sel : Nat → Int32} {y : Nat} (h : MC C m E gl gd) (hy : y < C 0) : ∃ w, lpd (fun s3 => sX7_who_14 (nI y) (nI m) gl gd s3.1 s3.2.1 s3.2.2) FU (0, 0, sel) = some (cWh C m E (cBeg C) (C 4) y (cRows C), w) := by
  obtain ⟨hr1, hr2⟩ := cRows_le h.1
  have hrows := zz_mrows h.1 h.2.1
  have hbeg := zz_begM h.1 h.2.1
  have h4 : C 4 ≤ 9 := h.1.2.2.2.2.2.2.1
  have hgl := h.2.1 4 (by omega)
  have hi : inb 4 55 = true := by decide
  have hY : C 0 ≤ 16 := h.1.2.1
  have ci : inb (nI y) 16 = true := by rw [zz_inbt (by omega)]; omega
  have l : ∃ e : Int32 × (Nat → Int32), lpd (fun s3 => sX7_who_14 (nI y) (nI m) gl gd s3.1 s3.2.1 s3.2.2) FU (0, 0, sel) = some e ∧ e.1 = cWh C m E (cBeg C) (C 4) y (cRows C) := by
    refine lpd_ex (fun (k : Nat) (s : Int32 × Int32 × (Nat → Int32)) => s.1 = cWh C m E (cBeg C) (C 4) y k ∧ s.2.1 = nI k) (cRows C) (by omega) _ ⟨rfl, rfl⟩ (fun k s hk hI => ?_) (fun s hI => ?_)
    · obtain ⟨i1, i2⟩ := hI
      obtain ⟨b, hb, e⟩ := zz_mlife (sel := s.2.2) (v := k) (q := C 4) h (by omega) (cBeg_lt (zz_pos hk)) (by omega)
      have c1 : ¬ nI (cRows C) ≤ nI k := by rw [zz_le (by omega) (by omega)]; omega
      have en : nI k + 1 = nI (k + 1) := by rw [zz_1, zz_add]
      have hw : cpTo s.2.2 (fun i => nI (cSelf C m E k (cBeg C) i)) (C 0) y = nI (cSelf C m E k (cBeg C) y) := by unfold cpTo; rw [if_pos hy]
      refine ⟨(cWh C m E (cBeg C) (C 4) y (k + 1), nI (k + 1), cpTo s.2.2 (fun i => nI (cSelf C m E k (cBeg C) i)) (C 0)), ?_, rfl, rfl⟩
      unfold sX7_who_14
      rw [show cWh C m E (cBeg C) (C 4) y (k + 1) = if cWords C (cSelf C m E k (cBeg C)) (C 4) (C 3) = k then cWh C m E (cBeg C) (C 4) y k ||| (1 <<< ((nI (cSelf C m E k (cBeg C) y)) &&& 31)) else cWh C m E (cBeg C) (C 4) y k from rfl]
      cases b with
      | true =>
        have hL : cWords C (cSelf C m E k (cBeg C)) (C 4) (C 3) = k := hb.mp rfl
        rw [if_pos hL]
        simp only [hrows, hbeg, hi, zz_c4, hgl, i1, i2, c1, e, ci, zz_bt, zz_cl (show y < 2147483648 by omega), hw, en, Option.bind_some, ↓reduceIte]
      | false =>
        have hL : ¬ cWords C (cSelf C m E k (cBeg C)) (C 4) (C 3) = k := fun h => by cases hb.mpr h
        rw [if_neg hL]
        simp only [hrows, hbeg, hi, zz_c4, hgl, i1, i2, c1, e, zz_bf, zz_or0, en, Option.bind_some, ↓reduceIte]
    · obtain ⟨i1, i2⟩ := hI
      have c1 : nI (cRows C) ≤ nI (cRows C) := by rw [zz_le (by omega) (by omega)]; omega
      refine ⟨(s.1, s.2.2), ?_, i1⟩
      unfold sX7_who_14
      simp only [hrows, i2, c1, Option.bind_some, ↓reduceIte]
  obtain ⟨e, el, he⟩ := l
  exact ⟨e.2, by rw [el, ← he]⟩
theorem p_who {C : Nat → Nat} {m : Nat} {E : Nat → Nat} {ty ts tb tt td tq ds gn a1 : Int32} {tl tz tc tY tA tB tF tG gl dy dk gd : Nat → Int32} (h : IC C ty ts tb tt td tq tl tz tc tY tA tB tF tG gl) (hN : HN C m E ds dy dk gn gd) (vt qt : Nat) (v5 v6 : Int32) (v1 v2 v3 v4 sel : Nat → Int32) : ∃ o1 o2, fX6_who a1 ty ts tb tt tq tl tz tc tY tA tB tF tG vt v5 v6 v1 v2 v3 v4 ds dy dk qt = some o1 ∧ fX7_who a1 gn gl gd sel = some o2 ∧ o1.1 = o2.1 := by
  have hY : C 0 ≤ 16 := h.1.2.1
  have h4 : C 4 ≤ 9 := h.1.2.2.2.2.2.2.1
  have hty : ty = nI (C 0) := h.2.2.1
  subst hty
  have hgn : gn = nI m := hN.2.2.2.1
  unfold fX6_who fX7_who
  rw [zz_isY (by omega), zz_mY h.2.1 hY]
  rcases zz_cs a1 (C 0) (by omega) with ⟨y, hy, rfl, d, -, -, -⟩ | ⟨d, -⟩
  · obtain ⟨f, g, e1, hf, hg⟩ := zz_prep h hN v1 v2
    obtain ⟨w, u, e2⟩ := zz_whoC (sel := v3) (ver := v4) h hf hg (fun hp => cBeg_lt hp) (q := C 4) (by omega) hy
    obtain ⟨w', e3⟩ := zz_whoM (sel := sel) (MC.of h hN) hy
    simp only [d, zz_bt, e1, e2, e3, hgn, zz_rows h, Option.bind_some, ↓reduceIte]
    exact ⟨_, _, rfl, rfl, rfl⟩
  · simp only [d, zz_bf, Option.bind_some, ↓reduceIte]
    exact ⟨_, _, rfl, rfl, rfl⟩
