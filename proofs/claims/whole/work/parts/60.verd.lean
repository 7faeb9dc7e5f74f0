/-! verdict, self. -/
theorem zz_findL {C : Nat → Nat} {m : Nat} {E : Nat → Nat} {ty ts tb tt td tq ds gn a1 : Int32} {tl tz tc tY tA tB tF tG gl dy dk gd : Nat → Int32} (h : IC C ty ts tb tt td tq tl tz tc tY tA tB tF tG gl) (hN : HN C m E ds dy dk gn gd) (v1 v2 v3 v4 : Nat → Int32) : ∃ (b : Bool) (w u f g : Nat → Int32), fX6_findLife a1 ty ts tb tt tq tl tz tc tY tA tB tF tG v1 v2 v3 v4 ds dy dk = some (b, nI (cBeg C), nI (C 4), f, g, w, u) ∧ ((b = false ∧ ∀ v, ¬ isN C m E (cBeg C) (C 4) v a1) ∨ (b = true ∧ ∃ v, isN C m E (cBeg C) (C 4) v a1 ∧ (∀ y, y < C 0 → w y = nI (cSelf C m E v (cBeg C) y)) ∧ ∀ t, t < C 3 → u t = nI (cFig v t (C 3)))) := by
  obtain ⟨f, g, e1, hf, hg⟩ := zz_prep h hN v1 v2
  have h4 : C 4 ≤ 9 := h.1.2.2.2.2.2.2.1
  obtain ⟨b, w, u, e2, hb⟩ := zz_find (a1 := a1) (sel := v3) (ver := v4) h hf hg (fun hp => cBeg_lt hp) (q := C 4) (by omega)
  refine ⟨b, w, u, f, g, ?_, hb⟩
  unfold fX6_findLife
  simp only [e1, e2, Option.bind_some]
theorem zz_row {C : Nat → Nat} {m : Nat} {E : Nat → Nat} {a q v : Nat} {x : Int32} (hO : OKC C) (h : isN C m E a q v x) : v < 27 := by
  obtain ⟨r1, r2⟩ := cRows_le hO
  have := h.1
  omega
theorem p_verdict {C : Nat → Nat} {m : Nat} {E : Nat → Nat} {ty ts tb tt td tq ds gn a1 a2 : Int32} {tl tz tc tY tA tB tF tG gl dy dk gd : Nat → Int32} (h : IC C ty ts tb tt td tq tl tz tc tY tA tB tF tG gl) (hN : HN C m E ds dy dk gn gd) (vt qt : Nat) (v5 v6 : Int32) (v1 v2 v3 v4 sel : Nat → Int32) : ∃ o1 o2, fX6_verdict a1 a2 ty ts tb tt tq tl tz tc tY tA tB tF tG vt v5 v6 v1 v2 v3 v4 ds dy dk qt = some o1 ∧ fX7_verdict a1 a2 gn gl gd sel = some o2 ∧ o1.1 = o2.1 := by
  have hT : C 3 ≤ 3 := h.1.2.2.2.2.1
  have htt : tt = nI (C 3) := h.2.2.2.2.2.1
  have hgn : gn = nI m := hN.2.2.2.1
  have hgl := h.2.1 3 (by omega)
  have hi : inb 3 55 = true := by decide
  have n1 : ¬ (0 : Int32) ≤ -1 := by decide
  unfold fX6_verdict fX7_verdict jn
  rw [htt, zz_isT (by omega), zz_mT h.2.1 hT]
  rcases zz_cs a2 (C 3) (by omega) with ⟨t, ht, rfl, d, -, -, -⟩ | ⟨d, -⟩
  · obtain ⟨b, w, u, f, g, e1, hb⟩ := zz_findL (a1 := a1) h hN v1 v2 v3 v4
    rw [htt] at e1
    obtain ⟨r, w', e2, hr⟩ := zz_gone (a1 := a1) (sel := sel) (MC.of h hN)
    have ci : inb (nI t) 3 = true := by rw [zz_inbt (by omega)]; omega
    simp only [d, e1, e2, hgn, zz_bt, Option.bind_some, ↓reduceIte]
    rcases hb with ⟨rfl, hb⟩ | ⟨rfl, v, hv, -, hu⟩
    · rcases hr with ⟨rfl, -⟩ | ⟨v, hv, -⟩
      · simp only [zz_bf, n1, ↓reduceIte]
        exact ⟨_, _, rfl, rfl, rfl⟩
      · exact (hb v hv).elim
    · rcases hr with ⟨-, hr⟩ | ⟨v', hv', rfl, -⟩
      · exact (hr v hv).elim
      · obtain rfl := isN_uniq h.1 hv hv'
        have hv27 := zz_row h.1 hv
        have p1 : (0 : Int32) ≤ nI v := by rw [zz_0, zz_le (by omega) (by omega)]; omega
        simp only [zz_bt, ci, p1, hi, zz_c3, hgl, zz_figure (v := v) (by omega) ht hT, zz_cl (show t < 2147483648 by omega), hu t ht, Option.bind_some, ↓reduceIte]
        exact ⟨_, _, rfl, rfl, rfl⟩
  · simp only [d, zz_bf, n1, Option.bind_some, ↓reduceIte]
    exact ⟨_, _, rfl, rfl, rfl⟩
theorem p_self {C : Nat → Nat} {m : Nat} {E : Nat → Nat} {ty ts tb tt td tq ds gn a1 a2 : Int32} {tl tz tc tY tA tB tF tG gl dy dk gd : Nat → Int32} (h : IC C ty ts tb tt td tq tl tz tc tY tA tB tF tG gl) (hN : HN C m E ds dy dk gn gd) (vt qt : Nat) (v5 v6 : Int32) (v1 v2 v3 v4 sel : Nat → Int32) : ∃ o1 o2, fX6_self a1 a2 ty ts tb tt tq tl tz tc tY tA tB tF tG vt v5 v6 v1 v2 v3 v4 ds dy dk qt = some o1 ∧ fX7_self a1 a2 gn gl gd sel = some o2 ∧ o1.1 = o2.1 := by
  have hY : C 0 ≤ 16 := h.1.2.1
  have hty : ty = nI (C 0) := h.2.2.1
  have hgn : gn = nI m := hN.2.2.2.1
  have n1 : (-1 : Int32) < 0 := by decide
  unfold fX6_self fX7_self
  rw [hty, zz_isY (by omega), zz_mY h.2.1 hY]
  rcases zz_cs a2 (C 0) (by omega) with ⟨y, hy, rfl, d, -, -, -⟩ | ⟨d, -⟩
  · obtain ⟨b, w, u, f, g, e1, hb⟩ := zz_findL (a1 := a1) h hN v1 v2 v3 v4
    rw [hty] at e1
    obtain ⟨r, w', e2, hr⟩ := zz_gone (a1 := a1) (sel := sel) (MC.of h hN)
    have ci : inb (nI y) 16 = true := by rw [zz_inbt (by omega)]; omega
    simp only [d, e1, e2, hgn, zz_bt, Option.bind_some, ↓reduceIte]
    rcases hb with ⟨rfl, hb⟩ | ⟨rfl, v, hv, hw, -⟩
    · rcases hr with ⟨rfl, -⟩ | ⟨v, hv, -⟩
      · simp only [zz_bf, n1, ↓reduceIte]
        exact ⟨_, _, rfl, rfl, rfl⟩
      · exact (hb v hv).elim
    · rcases hr with ⟨-, hr⟩ | ⟨v', hv', rfl, hw'⟩
      · exact (hr v hv).elim
      · obtain rfl := isN_uniq h.1 hv hv'
        have hv27 := zz_row h.1 hv
        have p1 : ¬ nI v < 0 := zz_nn v (by omega)
        simp only [zz_bt, ci, p1, zz_cl (show y < 2147483648 by omega), hw y hy, hw' y hy, ↓reduceIte]
        exact ⟨_, _, rfl, rfl, rfl⟩
  · simp only [d, zz_bf, Option.bind_some, ↓reduceIte]
    exact ⟨_, _, rfl, rfl, rfl⟩
