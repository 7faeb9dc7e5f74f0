/-! help: the class's search. -/
theorem zz_second {C : Nat → Nat} {m : Nat} {E : Nat → Nat} {ty ts tb tt td tq cc : Int32} {tl tz tc tY tA tB tF tG gl f g kn kh kf ks ky r sel ver : Nat → Int32} {t a : Nat} (h : IC C ty ts tb tt td tq tl tz tc tY tA tB tF tG gl) (hf : tabY C f) (hg : tabD C (m + 1) (cAdd m E (a / C 5) (a % C 5)) g) (ht : t < C 3) (ha : a < C 0 * C 5) (hn : ¬ hOne C m E t a) : ∃ (b : Bool) (kn' kh' kf' ks' ky' r' w u : Nat → Int32), fX1_searchSecond (nI t) (nI (a / C 5)) cc kn kh kf ks ky r (nI (cBeg C)) (nI (C 4)) f g sel ver ty ts tt td tl tz tY tA tB tF tG = some (b, kn', kh', kf', ks', ky', r', g, w, u) ∧ ((b = false ∧ kn' = kn ∧ kh' = kh ∧ kf' = kf ∧ ks' = ks ∧ ∀ z, z < C 0 * C 5 → ¬ hSec C m E t a z) ∨ (b = true ∧ ∃ z, z < C 0 * C 5 ∧ hSec C m E t a z ∧ (∀ z', z' < z → ¬ hSec C m E t a z') ∧ kn' = upd kn t 1 ∧ kh' = upd kh t 2 ∧ kf' = upd kf t cc ∧ ks' = upd ks t (hCode C z))) := by
  have hT3 : C 3 ≤ 3 := h.1.2.2.2.2.1
  have hn5 : 0 < C 5 := by
    rcases Nat.eq_zero_or_pos (C 5) with c | c
    · rw [c, Nat.mul_zero] at ha; omega
    · exact c
  have hy : a / C 5 < C 0 := Nat.div_lt_of_lt_mul (by rw [Nat.mul_comm]; exact ha)
  obtain ⟨r1, er, hr⟩ := zz_reach (a := cBeg C) h hf hg (fun hp => cBeg_lt hp) r
  obtain ⟨e, el, he⟩ := zz_scan (ky := ky) (sel := sel) (ver := ver) (y0 := a / C 5) h hf hg ht hn hr (by omega)
  have el' : lpd (fun s2 => sX1_searchSecond_17 (nI t) r1 (nI (cBeg C)) (nI (C 4)) f ty ts tt td tl tz tY tA tB tF tG s2.1 s2.2.1 s2.2.2.1 s2.2.2.2.1 s2.2.2.2.2) FU (nI (a / C 5), ky, g, sel, ver) = some e := el
  unfold fX1_searchSecond
  rw [er, Option.bind_some, el', Option.bind_some]
  rcases he with ⟨z, ky', w, u, q1, q2, q3, q4, rfl⟩ | ⟨q1, ky', w, u, rfl⟩
  · refine ⟨true, upd kn t 1, upd kh t 2, upd kf t cc, upd ks t (hCode C z), ky', r1, w, u, ?_, Or.inr ⟨rfl, z, q2, ⟨(zz_le_div hn5).mp q1, q3⟩, fun z' hz' hh => ?_, rfl, rfl, rfl, rfl⟩⟩
    · simp only [Sum.elim_inl, fX1_code, zz_ans (show t < 3 by omega), Option.bind_some]
      rfl
    · exact q4 z' ((zz_le_div hn5).mpr hh.1) hz' hh.2
  · refine ⟨false, kn, kh, kf, ks, ky', r1, w, u, rfl, Or.inl ⟨rfl, rfl, rfl, rfl, rfl, fun z hz hh => ?_⟩⟩
    exact q1 z ((zz_le_div hn5).mpr hh.1) hz hh.2
/-- two deeds found, the first from lo on -/
def F2 (C : Nat → Nat) (m : Nat) (E : Nat → Nat) (t lo : Nat) (kn0 kh0 kf0 ks0 kn kh kf ks : Nat → Int32) : Prop := ∃ a b, lo ≤ a ∧ a < C 0 * C 5 ∧ b < C 0 * C 5 ∧ hSec C m E t a b ∧ (∀ z, lo ≤ z → z < a → ∀ b', b' < C 0 * C 5 → ¬ hSec C m E t z b') ∧ (∀ z, z < b → ¬ hSec C m E t a z) ∧ kn = upd kn0 t 1 ∧ kh = upd kh0 t 2 ∧ kf = upd kf0 t (hCode C a) ∧ ks = upd ks0 t (hCode C b)
theorem zz_two1 {C : Nat → Nat} {m : Nat} {E : Nat → Nat} {ty ts tb tt td tq : Int32} {tl tz tc tY tA tB tF tG gl f g kn kh kf ks ky ky2 r r2 sel ver : Nat → Int32} {t y : Nat} (h : IC C ty ts tb tt td tq tl tz tc tY tA tB tF tG gl) (hf : tabY C f) (hg : tabD C m E g) (ht : t < C 3) (hall : ∀ a, a < C 0 * C 5 → ¬ hOne C m E t a) (hr : ∀ y, y < C 0 → RB (cRe C m E (cBeg C) y) (r y)) (hy : y < C 0) (hky : ∀ s, s < 6 → ky s = g (6 * y + s)) : ∃ e : Int32 × (Nat → Int32) × (Nat → Int32) × (Nat → Int32) × (Nat → Int32) × (Nat → Int32) × (Nat → Int32) × (Nat → Int32) × (Nat → Int32) × (Nat → Int32), lpd (fun s5 => sX1_searchTwo_38 (nI t) (nI y) ky r (nI (cBeg C)) (nI (C 4)) f ty ts tt td tl tz tY tA tB tF tG s5.1 s5.2.1 s5.2.2.1 s5.2.2.2.1 s5.2.2.2.2.1 s5.2.2.2.2.2.1 s5.2.2.2.2.2.2.1 s5.2.2.2.2.2.2.2.1 s5.2.2.2.2.2.2.2.2.1 s5.2.2.2.2.2.2.2.2.2.1 s5.2.2.2.2.2.2.2.2.2.2) FU (0, 0, kn, kh, kf, ks, ky2, r2, g, sel, ver) = some e ∧ e.2.2.2.2.2.2.2.1 = g ∧ ((e.1 = 0 ∧ e.2.1 = kn ∧ e.2.2.1 = kh ∧ e.2.2.2.1 = kf ∧ e.2.2.2.2.1 = ks ∧ ∀ d, d < C 5 → ∀ z, z < C 0 * C 5 → ¬ hSec C m E t (C 5 * y + d) z) ∨ (¬ e.1 = 0 ∧ F2 C m E t (C 5 * y) kn kh kf ks e.2.1 e.2.2.1 e.2.2.2.1 e.2.2.2.2.1)) := by
  have hD4 : C 5 ≤ 4 := h.1.2.2.2.2.2.2.2.1
  have hY16 : C 0 ≤ 16 := h.1.2.1
  have etd : td = nI (C 5) := h.2.2.2.2.2.2.1
  have c2 : inb (nI y) 16 = true := by rw [zz_inbt (by omega)]; omega
  refine lpd_ex2 (fun (k : Nat) (s : Int32 × Int32 × (Nat → Int32) × (Nat → Int32) × (Nat → Int32) × (Nat → Int32) × (Nat → Int32) × (Nat → Int32) × (Nat → Int32) × (Nat → Int32) × (Nat → Int32)) => s.2.1 = nI k ∧ s.2.2.2.2.2.2.2.2.1 = g ∧ ((s.1 = 0 ∧ s.2.2.1 = kn ∧ s.2.2.2.1 = kh ∧ s.2.2.2.2.1 = kf ∧ s.2.2.2.2.2.1 = ks ∧ ∀ d, d < k → ∀ z, z < C 0 * C 5 → ¬ hSec C m E t (C 5 * y + d) z) ∨ (¬ s.1 = 0 ∧ F2 C m E t (C 5 * y) kn kh kf ks s.2.2.1 s.2.2.2.1 s.2.2.2.2.1 s.2.2.2.2.2.1))) (C 5) (by omega) _ ⟨rfl, rfl, Or.inl ⟨rfl, rfl, rfl, rfl, rfl, fun d hd => absurd hd (Nat.not_lt_zero d)⟩⟩ (fun k s hk hI => ?_) (fun s hI => ?_)
  · obtain ⟨i1, i2, i3⟩ := hI
    have c1 : ¬ td ≤ nI k := by rw [etd, zz_le (by omega) (by omega)]; omega
    have en : nI k + 1 = nI (k + 1) := by rw [zz_1, zz_add]
    obtain ⟨x1, x2⟩ := zz_dm (n := C 5) (y := y) hk
    have hcd := zz_cdl (n := C 5) hy hk
    rcases i3 with ⟨j1, j2, j3, j4, j5, j6⟩ | ⟨j1, j2⟩
    · obtain ⟨b, eb, hb⟩ := zz_chg h hk (hr y hy)
      cases b with
      | false =>
        have hne : ¬ cEff C m E (cBeg C) y k := fun hh => by cases hb.mpr hh
        refine Or.inl ⟨(0, nI (k + 1), kn, kh, kf, ks, s.2.2.2.2.2.2.1, s.2.2.2.2.2.2.2.1, g, s.2.2.2.2.2.2.2.2.2), ?_, rfl, rfl, Or.inl ⟨rfl, rfl, rfl, rfl, rfl, fun d hd z hz hh => ?_⟩⟩
        · unfold sX1_searchTwo_38
          simp only [i1, i2, j1, j2, j3, j4, j5, c1, c2, zz_cl (show y < 2147483648 by omega), eb, zz_bf, en, Option.bind_some, ↓reduceIte]
        · by_cases c : d = k
          · subst c
            have hle := hh.1
            have h2 : cAcq C (m + 1 + 1) (cAdd (m + 1) (cAdd m E ((C 5 * y + d) / C 5) ((C 5 * y + d) % C 5)) (z / C 5) (z % C 5)) (cBeg C) t := hh.2
            rw [x1, x2] at h2
            rw [x1] at hle
            exact hall z hz (cAcq_idle2 hne hle h2)
          · exact j6 d (by omega) z hz hh
      | true =>
        obtain ⟨g1, eg, hg1, hout⟩ := zz_addT h hg hy hk
        have er := zz_rest (y := y) (by omega) hky hout
        have hg1' : tabD C (m + 1) (cAdd m E ((C 5 * y + k) / C 5) ((C 5 * y + k) % C 5)) g1 := by rw [x1, x2]; exact hg1
        obtain ⟨b2, kn', kh', kf', ks', ky', r', w, u, e2, he2⟩ := zz_second (cc := 10 * nI y + nI k) (kn := kn) (kh := kh) (kf := kf) (ks := ks) (ky := s.2.2.2.2.2.2.1) (r := s.2.2.2.2.2.2.2.1) (sel := s.2.2.2.2.2.2.2.2.2.1) (ver := s.2.2.2.2.2.2.2.2.2.2) h hf hg1' ht hcd (hall _ hcd)
        rw [x1] at e2
        refine Or.inl ⟨(bI b2, nI (k + 1), kn', kh', kf', ks', ky', r', g, w, u), ?_, rfl, rfl, ?_⟩
        · unfold sX1_searchTwo_38
          simp only [i1, i2, j1, j2, j3, j4, j5, c1, c2, zz_cl (show y < 2147483648 by omega), eb, eg, fX1_code, e2, er, zz_bt, en, Option.bind_some, ↓reduceIte]
        · rcases he2 with ⟨rfl, rfl, rfl, rfl, rfl, q⟩ | ⟨rfl, z, q1, q2, q3, q4, q5, q6, q7⟩
          · refine Or.inl ⟨rfl, rfl, rfl, rfl, rfl, fun d hd z hz hh => ?_⟩
            by_cases c : d = k
            · subst c; exact q z hz hh
            · exact j6 d (by omega) z hz hh
          · refine Or.inr ⟨by show ¬ bI true = 0; decide, C 5 * y + k, z, by omega, hcd, q1, q2, fun z' h1 h2 b' hb' hh => ?_, q3, q4, q5, ?_, q7⟩
            · obtain ⟨d', rfl⟩ : ∃ d', z' = C 5 * y + d' := ⟨z' - C 5 * y, by omega⟩
              exact j6 d' (by omega) b' hb' hh
            · show kf' = upd kf t (hCode C (C 5 * y + k))
              rw [q6]
              unfold hCode
              rw [x1, x2]
    · refine Or.inr ⟨(s.1, s.2.2.1, s.2.2.2.1, s.2.2.2.2.1, s.2.2.2.2.2.1, s.2.2.2.2.2.2.1, s.2.2.2.2.2.2.2.1, g, s.2.2.2.2.2.2.2.2.2), ?_, rfl, Or.inr ⟨j1, j2⟩⟩
      unfold sX1_searchTwo_38
      simp only [i1, i2, j1, c1, ↓reduceIte]
  · obtain ⟨i1, i2, i3⟩ := hI
    have c1 : td ≤ nI (C 5) := by rw [etd, zz_le (by omega) (by omega)]; omega
    refine ⟨(s.1, s.2.2.1, s.2.2.2.1, s.2.2.2.2.1, s.2.2.2.2.2.1, s.2.2.2.2.2.2.1, s.2.2.2.2.2.2.2.1, g, s.2.2.2.2.2.2.2.2.2), ?_, rfl, i3⟩
    unfold sX1_searchTwo_38
    simp only [i1, i2, c1, ↓reduceIte]
theorem zz_two {C : Nat → Nat} {m : Nat} {E : Nat → Nat} {ty ts tb tt td tq : Int32} {tl tz tc tY tA tB tF tG gl f g kn kh kf ks ky ky2 r r2 sel ver : Nat → Int32} {t : Nat} (h : IC C ty ts tb tt td tq tl tz tc tY tA tB tF tG gl) (hf : tabY C f) (hg : tabD C m E g) (ht : t < C 3) (hall : ∀ a, a < C 0 * C 5 → ¬ hOne C m E t a) (hr : ∀ y, y < C 0 → RB (cRe C m E (cBeg C) y) (r y)) : ∃ e, fX1_searchTwo (nI t) kn kh kf ks ky ky2 r r2 (nI (cBeg C)) (nI (C 4)) f g sel ver ty ts tt td tl tz tY tA tB tF tG = some e ∧ ((e.1 = kn ∧ e.2.1 = kh ∧ e.2.2.1 = kf ∧ e.2.2.2.1 = ks ∧ ∀ a, a < C 0 * C 5 → ∀ z, z < C 0 * C 5 → ¬ hSec C m E t a z) ∨ F2 C m E t 0 kn kh kf ks e.1 e.2.1 e.2.2.1 e.2.2.2.1) := by
  have hD4 : C 5 ≤ 4 := h.1.2.2.2.2.2.2.2.1
  have hY16 : C 0 ≤ 16 := h.1.2.1
  have ety : ty = nI (C 0) := h.2.2.1
  unfold fX1_searchTwo
  have l : ∃ e : (Nat → Int32) × (Nat → Int32) × (Nat → Int32) × (Nat → Int32) × (Nat → Int32) × (Nat → Int32) × (Nat → Int32) × (Nat → Int32) × (Nat → Int32) × (Nat → Int32), lpd (fun s1 => sX1_searchTwo_11 (nI t) r (nI (cBeg C)) (nI (C 4)) f ty ts tt td tl tz tY tA tB tF tG s1.1 s1.2.1 s1.2.2.1 s1.2.2.2.1 s1.2.2.2.2.1 s1.2.2.2.2.2.1 s1.2.2.2.2.2.2.1 s1.2.2.2.2.2.2.2.1 s1.2.2.2.2.2.2.2.2.1 s1.2.2.2.2.2.2.2.2.2.1 s1.2.2.2.2.2.2.2.2.2.2.1 s1.2.2.2.2.2.2.2.2.2.2.2) FU (0, 0, kn, kh, kf, ks, ky, ky2, r2, g, sel, ver) = some e ∧ ((e.1 = kn ∧ e.2.1 = kh ∧ e.2.2.1 = kf ∧ e.2.2.2.1 = ks ∧ ∀ a, a < C 0 * C 5 → ∀ z, z < C 0 * C 5 → ¬ hSec C m E t a z) ∨ F2 C m E t 0 kn kh kf ks e.1 e.2.1 e.2.2.1 e.2.2.2.1) := by
    refine lpd_ex2 (fun (k : Nat) (s : Int32 × Int32 × (Nat → Int32) × (Nat → Int32) × (Nat → Int32) × (Nat → Int32) × (Nat → Int32) × (Nat → Int32) × (Nat → Int32) × (Nat → Int32) × (Nat → Int32) × (Nat → Int32)) => s.2.1 = nI k ∧ s.2.2.2.2.2.2.2.2.2.1 = g ∧ ((s.1 = 0 ∧ s.2.2.1 = kn ∧ s.2.2.2.1 = kh ∧ s.2.2.2.2.1 = kf ∧ s.2.2.2.2.2.1 = ks ∧ ∀ a, a < C 5 * k → ∀ z, z < C 0 * C 5 → ¬ hSec C m E t a z) ∨ (¬ s.1 = 0 ∧ F2 C m E t 0 kn kh kf ks s.2.2.1 s.2.2.2.1 s.2.2.2.2.1 s.2.2.2.2.2.1))) (C 0) (by omega) _ ⟨rfl, rfl, Or.inl ⟨rfl, rfl, rfl, rfl, rfl, fun a hd => by rw [Nat.mul_zero] at hd; omega⟩⟩ (fun k s hk hI => ?_) (fun s hI => ?_)
    · obtain ⟨i1, i2, i3⟩ := hI
      have c1 : ¬ ty ≤ nI k := by rw [ety, zz_le (by omega) (by omega)]; omega
      have en : nI k + 1 = nI (k + 1) := by rw [zz_1, zz_add]
      have hmul : C 5 * (k + 1) = C 5 * k + C 5 := Nat.mul_succ _ _
      rcases i3 with ⟨j1, j2, j3, j4, j5, j6⟩ | ⟨j1, j2⟩
      · have esv := zz_save (y := k) (by omega) g s.2.2.2.2.2.2.1
        obtain ⟨e, el, eg, he⟩ := zz_two1 (kn := kn) (kh := kh) (kf := kf) (ks := ks) (y := k) (ky := cpTo s.2.2.2.2.2.2.1 (fun z => g (6 * k + z)) 6) (ky2 := s.2.2.2.2.2.2.2.1) (r2 := s.2.2.2.2.2.2.2.2.1) (sel := s.2.2.2.2.2.2.2.2.2.2.1) (ver := s.2.2.2.2.2.2.2.2.2.2.2) h hf hg ht hall hr hk (fun z hz => cpTo_in hz)
        refine Or.inl ⟨(e.1, nI (k + 1), e.2.1, e.2.2.1, e.2.2.2.1, e.2.2.2.2.1, cpTo s.2.2.2.2.2.2.1 (fun z => g (6 * k + z)) 6, e.2.2.2.2.2.1, e.2.2.2.2.2.2.1, e.2.2.2.2.2.2.2.1, e.2.2.2.2.2.2.2.2.1, e.2.2.2.2.2.2.2.2.2), ?_, rfl, eg, ?_⟩
        · unfold sX1_searchTwo_11
          simp only [i1, i2, j1, j2, j3, j4, j5, c1, esv, el, en, Option.bind_some, ↓reduceIte]
        · rcases he with ⟨q1, q2, q3, q4, q5, q6⟩ | ⟨q1, a, b, p1, p2, p3, p4, p5, p6, p7⟩
          · refine Or.inl ⟨q1, q2, q3, q4, q5, fun a ha z hz hh => ?_⟩
            by_cases c : a < C 5 * k
            · exact j6 a c z hz hh
            · obtain ⟨d', rfl⟩ : ∃ d', a = C 5 * k + d' := ⟨a - C 5 * k, by omega⟩
              exact q6 d' (by omega) z hz hh
          · refine Or.inr ⟨q1, a, b, by omega, p2, p3, p4, fun z _ h2 b' hb' hh => ?_, p6, p7⟩
            by_cases c : z < C 5 * k
            · exact j6 z c b' hb' hh
            · exact p5 z (by omega) h2 b' hb' hh
      · refine Or.inr ⟨s.2.2, ?_, Or.inr j2⟩
        unfold sX1_searchTwo_11
        simp only [i1, j1, c1, ↓reduceIte]
    · obtain ⟨i1, i2, i3⟩ := hI
      have c1 : ty ≤ nI (C 0) := by rw [ety, zz_le (by omega) (by omega)]; omega
      refine ⟨s.2.2, ?_, ?_⟩
      · unfold sX1_searchTwo_11
        simp only [i1, c1, ↓reduceIte]
      · rcases i3 with ⟨j1, j2, j3, j4, j5, j6⟩ | ⟨j1, j2⟩
        · exact Or.inl ⟨j2, j3, j4, j5, fun a ha => j6 a (by rw [Nat.mul_comm]; exact ha)⟩
        · exact Or.inr j2
  obtain ⟨e, el, he⟩ := l
  exact ⟨e, by rw [el]; rfl, he⟩
theorem zz_search {C : Nat → Nat} {m : Nat} {E : Nat → Nat} {ty ts tb tt td tq : Int32} {tl tz tc tY tA tB tF tG gl f g kn kh kf ks ky ky2 r r2 sel ver : Nat → Int32} {t : Nat} (h : IC C ty ts tb tt td tq tl tz tc tY tA tB tF tG gl) (hf : tabY C f) (hg : tabD C m E g) (ht : t < C 3) : ∃ e, fX1_search (nI t) kn kh kf ks ky ky2 r r2 (nI (cBeg C)) (nI (C 4)) f g sel ver ty ts tt td tl tz tY tA tB tF tG = some e ∧ ∃ h0 h1 h2, HL C m E t h0 h1 h2 ∧ (∀ i, e.1 i = upd kn t 1 i) ∧ (∀ i, e.2.1 i = upd kh t h0 i) ∧ (∀ i, e.2.2.1 i = upd kf t h1 i) ∧ (∀ i, e.2.2.2.1 i = upd ks t h2 i) := by
  have hT3 : C 3 ≤ 3 := h.1.2.2.2.2.1
  have uu : ∀ (q : Nat → Int32) (x z : Int32) (i : Nat), upd (upd q t x) t z i = upd q t z i := by
    intro q x z i
    by_cases c : i = t
    · subst c; rw [pk_us, pk_us]
    · rw [pk_un c, pk_un c, pk_un c]
  obtain ⟨b, w, u, e1, hb⟩ := zz_surely (sel := sel) (ver := ver) (a := cBeg C) h hf hg (fun hp => cBeg_lt hp) ht
  unfold fX1_search
  rw [zz_ans (by omega), Option.bind_some, e1, Option.bind_some]
  cases b with
  | true =>
    simp only [zz_bt, zz_ans (show t < 3 by omega), Option.bind_some, ↓reduceIte]
    exact ⟨_, rfl, 0, -5, -5, Or.inl ⟨hb.mp rfl, rfl, rfl, rfl⟩, uu _ _ _, uu _ _ _, uu _ _ _, uu _ _ _⟩
  | false =>
    have hn : ¬ cAcq C m E (cBeg C) t := fun hh => by cases hb.mpr hh
    obtain ⟨r1, er, hr⟩ := zz_reach (a := cBeg C) h hf hg (fun hp => cBeg_lt hp) r
    obtain ⟨e, el, he⟩ := zz_scan (ky := ky) (sel := w) (ver := u) (y0 := 0) h hf hg ht hn hr (by omega)
    rw [← zz_0] at el
    rw [Nat.mul_zero] at he
    simp only [zz_bf, er, Option.bind_some, ↓reduceIte]
    unfold fX1_searchOne
    rw [el, Option.bind_some]
    rcases he with ⟨a, ky', w', u', -, q2, q3, q4, rfl⟩ | ⟨q1, ky', w', u', rfl⟩
    · simp only [Sum.elim_inl, fX1_code, zz_ans (show t < 3 by omega), zz_bt, Option.bind_some, ↓reduceIte]
      exact ⟨_, rfl, 1, hCode C a, -5, Or.inr ⟨hn, Or.inl ⟨a, ⟨q2, q3, fun z hz => q4 z (by omega) hz⟩, rfl, rfl, rfl⟩⟩, uu _ _ _, uu _ _ _, uu _ _ _, uu _ _ _⟩
    · have hall : ∀ a, a < C 0 * C 5 → ¬ hOne C m E t a := fun a ha => q1 a (by omega) ha
      obtain ⟨e, el2, he2⟩ := zz_two (kn := upd kn t 1) (kh := upd kh t (-9)) (kf := upd kf t (-9)) (ks := upd ks t (-9)) (ky := ky') (ky2 := ky2) (r2 := r2) (sel := w') (ver := u') h hf hg ht hall hr
      simp only [Sum.elim_inr, zz_bf, el2, Option.bind_some, ↓reduceIte]
      refine ⟨_, rfl, ?_⟩
      rcases he2 with ⟨p1, p2, p3, p4, p5⟩ | ⟨a, b, p1, p2, p3, p4, p5, p6, p7, p8, p9, p10⟩
      · refine ⟨-9, -9, -9, Or.inr ⟨hn, Or.inr ⟨hall, Or.inr ⟨hTwo_none p5, rfl, rfl, rfl⟩⟩⟩, fun i => ?_, fun i => ?_, fun i => ?_, fun i => ?_⟩
        · show e.1 i = _; rw [p1]
        · show e.2.1 i = _; rw [p2]
        · show e.2.2.1 i = _; rw [p3]
        · show e.2.2.2.1 i = _; rw [p4]
      · obtain ⟨f1, f2⟩ := hTwo_first p3 p2 (fun z hz => p5 z (by omega) hz) p4 p6
        refine ⟨2, hCode C a, hCode C b, Or.inr ⟨hn, Or.inr ⟨hall, Or.inl ⟨a, b, f1, f2, rfl, rfl, rfl⟩⟩⟩, fun i => ?_, fun i => ?_, fun i => ?_, fun i => ?_⟩
        · show e.1 i = _; rw [p7]; exact uu _ _ _ i
        · show e.2.1 i = _; rw [p8]; exact uu _ _ _ i
        · show e.2.2.1 i = _; rw [p9]; exact uu _ _ _ i
        · show e.2.2.2.1 i = _; rw [p10]; exact uu _ _ _ i
