/-! lives, quorum. -/
theorem p_lives {C : Nat → Nat} {m : Nat} {E : Nat → Nat} {ty ts tb tt td tq ds gn : Int32} {tl tz tc tY tA tB tF tG gl dy dk gd : Nat → Int32} (h : IC C ty ts tb tt td tq tl tz tc tY tA tB tF tG gl) (hN : HN C m E ds dy dk gn gd) (v1 v2 v3 v4 sel : Nat → Int32) : ∃ o1 o2, fX6_lives ty ts tb tt tq tl tz tc tY tA tB tF tG v1 v2 v3 v4 ds dy dk = some o1 ∧ fX7_lives gn gl gd sel = some o2 ∧ o1.1 = o2.1 := by
  obtain ⟨f, g, e1, hf, hg⟩ := zz_prep h hN v1 v2
  have h4 : C 4 ≤ 9 := h.1.2.2.2.2.2.2.1
  obtain ⟨w, u, e2⟩ := zz_many (sel := v3) (ver := v4) h hf hg (fun hp => cBeg_lt hp) (q := C 4) (by omega)
  obtain ⟨w', e3⟩ := zz_mmany (sel := sel) (MC.of h hN) (fun hp => cBeg_lt hp) (q := C 4) (by omega)
  have hgl := h.2.1 4 (by omega)
  have hgn : gn = nI m := hN.2.2.2.1
  have hi : inb 4 55 = true := by decide
  refine ⟨(nI (cNum C m E (cBeg C) (C 4) (cRows C)), nI (cBeg C), nI (C 4), f, g, w, u), (nI (cNum C m E (cBeg C) (C 4) (cRows C)), w'), ?_, ?_, rfl⟩
  · unfold fX6_lives
    simp only [e1, e2, Option.bind_some]
  · unfold fX7_lives
    simp only [zz_begM h.1 h.2.1, hi, zz_c4, hgl, hgn, e3, Option.bind_some, ↓reduceIte]
theorem zz_in19 (a : Int32) : fX7_in a.toInt64 1 9 = some (decide (1 ≤ a.toInt ∧ a.toInt ≤ 9)) := by
  rw [zz_in, zz_il]
  rfl
theorem p_quorum {C : Nat → Nat} {m : Nat} {E : Nat → Nat} {ty ts tb tt td tq ds gn a1 : Int32} {tl tz tc tY tA tB tF tG gl dy dk gd : Nat → Int32} (h : IC C ty ts tb tt td tq tl tz tc tY tA tB tF tG gl) (hN : HN C m E ds dy dk gn gd) (vt qt : Nat) (v5 v6 : Int32) (v1 v2 v3 v4 sel : Nat → Int32) : ∃ o1 o2, fX6_quorum a1 ty ts tb tt tq tl tz tc tY tA tB tF tG vt v5 v6 v1 v2 v3 v4 ds dy dk qt = some o1 ∧ fX7_quorum a1 gn gl gd sel = some o2 ∧ o1.1 = o2.1 := by
  have d1 : (1 : Int32).toInt = 1 := by decide
  have d9 : (9 : Int32).toInt = 9 := by decide
  unfold fX6_quorum fX7_quorum
  by_cases c1 : a1 < 1
  · have c2 : decide (1 ≤ a1.toInt ∧ a1.toInt ≤ 9) = false := decide_eq_false (by rw [zz_lti, d1] at c1; omega)
    simp only [zz_in19, c1, c2, zz_bf, Option.bind_some, ↓reduceIte]
    exact ⟨_, _, rfl, rfl, rfl⟩
  · by_cases c3 : a1 ≤ 9
    · have c2 : decide (1 ≤ a1.toInt ∧ a1.toInt ≤ 9) = true := decide_eq_true (by rw [zz_lti, d1] at c1; rw [zz_lei, d9] at c3; omega)
      obtain ⟨q, hq, rfl⟩ := zz_arg (a := a1) (T := 10) (by omega) (by rw [zz_lti, d1] at c1; rw [zz_lei, d9] at c3; omega)
      obtain ⟨f, g, e1, hf, hg⟩ := zz_prep h hN v1 v2
      obtain ⟨w, u, e2⟩ := zz_many (sel := v3) (ver := v4) h hf hg (fun hp => cBeg_lt hp) (q := q) (by omega)
      obtain ⟨w', e3⟩ := zz_mmany (sel := sel) (MC.of h hN) (fun hp => cBeg_lt hp) (q := q) (by omega)
      have hgn : gn = nI m := hN.2.2.2.1
      simp only [zz_in19, c1, c2, c3, zz_bt, e1, e2, e3, hgn, zz_begM h.1 h.2.1, Option.bind_some, ↓reduceIte]
      exact ⟨_, _, rfl, rfl, rfl⟩
    · have c2 : decide (1 ≤ a1.toInt ∧ a1.toInt ≤ 9) = false := decide_eq_false (by rw [zz_lei, d9] at c3; omega)
      simp only [zz_in19, c1, c2, c3, zz_bf, Option.bind_some, ↓reduceIte]
      exact ⟨_, _, rfl, rfl, rfl⟩
