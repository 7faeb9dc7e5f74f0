/-! help: the class looks for one deed more, from a year on. -/
theorem zz_dm {n y d : Nat} (h : d < n) : (n * y + d) / n = y ∧ (n * y + d) % n = d := by
  constructor
  · rw [Nat.mul_add_div (by omega), Nat.div_eq_of_lt h, Nat.add_zero]
  · rw [Nat.mul_add_mod, Nat.mod_eq_of_lt h]
theorem zz_cdl {n y d Y : Nat} (hy : y < Y) (h : d < n) : n * y + d < Y * n := by
  have := Nat.mul_le_mul_left n (show y + 1 ≤ Y from hy)
  rw [Nat.mul_succ, Nat.mul_comm n Y] at this
  omega
theorem zz_save {y : Nat} (hy : y < 16) (g h : Nat → Int32) : fX3_saveYear (nI y) g h = some (cpTo h (fun s => g (6 * y + s)) 6) := by
  have l := zz_lp (st := fun s1 => sX3_saveYear_2 (nI y) g s1.1 s1.2) 6 0 (fun k => cpTo h (fun s => g (6 * y + s)) k) (by omega) (fun k hk => ?_) ?_
  · rw [cpTo_0] at l
    unfold fX3_saveYear
    rw [zz_0, l]
    rfl
  · dsimp only
    unfold sX3_saveYear_2
    have c1 : ¬ (6 : Int32) ≤ nI (0 + k) := by rw [zz_6, zz_le (by omega) (by omega)]; omega
    have e1 : nI y * 6 + nI (0 + k) = nI (6 * y + k) := by rw [zz_6, zz_mul, zz_add]; congr 1; omega
    have c2 : inb (nI (6 * y + k)) 96 = true := by rw [zz_inbt (by omega)]; omega
    have c3 : inb (nI (0 + k)) 6 = true := by rw [zz_inbt (by omega)]; omega
    simp only [c1, e1, c2, c3, zz_cl (show 6 * y + k < 2147483648 by omega), zz_cl (show 0 + k < 2147483648 by omega), ↓reduceIte]
    rw [zz_1, zz_add, ← cpTo_s, Nat.zero_add]
  · rfl
theorem zz_rest {y : Nat} (hy : y < 16) {g g1 ky : Nat → Int32} (h1 : ∀ s, s < 6 → ky s = g (6 * y + s)) (h2 : ∀ i, (i < 6 * y ∨ 6 * y + 6 ≤ i) → g1 i = g i) : fX3_restoreYear (nI y) g1 ky = some g := by
  have l := zz_lp (st := fun s1 => sX3_restoreYear_2 (nI y) ky s1.1 s1.2) 6 0 (fun k => atTo (6 * y) g1 (fun s => g (6 * y + s)) k) (by omega) (fun k hk => ?_) ?_
  · have e : atTo (6 * y) g1 (fun s => g (6 * y + s)) 6 = g := by
      funext i
      unfold atTo
      by_cases c : 6 * y ≤ i ∧ i < 6 * y + 6
      · rw [if_pos c]
        show g (6 * y + (i - 6 * y)) = g i
        rw [show 6 * y + (i - 6 * y) = i by omega]
      · rw [if_neg c]; exact h2 i (by omega)
    rw [atTo_0, e] at l
    unfold fX3_restoreYear
    rw [zz_0, l]
    rfl
  · dsimp only
    unfold sX3_restoreYear_2
    have c1 : ¬ (6 : Int32) ≤ nI (0 + k) := by rw [zz_6, zz_le (by omega) (by omega)]; omega
    have e1 : nI y * 6 + nI (0 + k) = nI (6 * y + k) := by rw [zz_6, zz_mul, zz_add]; congr 1; omega
    have c2 : inb (nI (6 * y + k)) 96 = true := by rw [zz_inbt (by omega)]; omega
    have c3 : inb (nI (0 + k)) 6 = true := by rw [zz_inbt (by omega)]; omega
    simp only [c1, e1, c2, c3, zz_cl (show 6 * y + k < 2147483648 by omega), zz_cl (show 0 + k < 2147483648 by omega), ↓reduceIte]
    rw [zz_1, zz_add, ← atTo_s, Nat.zero_add, h1 k hk]
  · rfl
theorem zz_chg {C : Nat → Nat} {ty ts tb tt td tq x : Int32} {tl tz tc tY tA tB tF tG gl : Nat → Int32} {P : Nat → Prop} {d : Nat} (h : IC C ty ts tb tt td tq tl tz tc tY tA tB tF tG gl) (hd : d < C 5) (hx : RB P x) : ∃ b : Bool, fX1_changesSomebody (nI d) x ts tF tG = some b ∧ (b = true ↔ C (47 + 2 * d) ≠ C (48 + 2 * d) ∧ C (48 + 2 * d) < C 1 ∧ P (C (47 + 2 * d))) := by
  obtain ⟨hO, hl, -, ets, -, -, -, -, -, -, hde⟩ := h
  have hS6 : C 1 ≤ 6 := hO.2.2.1
  have hD4 : C 5 ≤ 4 := hO.2.2.2.2.2.2.2.1
  obtain ⟨w1, w2⟩ := hO.2.2.2.2.2.2.2.2.2.2.2 d hd
  obtain ⟨f1, f2⟩ := hde d hd
  have c0 : inb (nI d) 4 = true := by rw [zz_inbt (by omega)]; omega
  have hb := hx.bit (i := C (47 + 2 * d)) (by omega)
  unfold fX1_changesSomebody
  simp only [c0, zz_cl (show d < 2147483648 by omega), f1, f2, ets, zz_eq (show C (47 + 2 * d) < 2147483648 by omega) (show C (48 + 2 * d) < 2147483648 by omega), zz_le (show C 1 < 2147483648 by omega) (show C (48 + 2 * d) < 2147483648 by omega), ↓reduceIte]
  by_cases a1 : C (47 + 2 * d) = C (48 + 2 * d)
  · rw [if_pos a1]
    exact ⟨false, rfl, fun h => (by cases h), fun h => (h.1 a1).elim⟩
  · rw [if_neg a1]
    by_cases a2 : C 1 ≤ C (48 + 2 * d)
    · rw [if_pos a2]
      exact ⟨false, rfl, fun h => (by cases h), fun h => absurd h.2.1 (by omega)⟩
    · rw [if_neg a2]
      by_cases a3 : P (C (47 + 2 * d))
      · rw [if_pos (hb.mpr a3)]
        exact ⟨true, rfl, fun _ => ⟨a1, by omega, a3⟩, fun _ => rfl⟩
      · rw [if_neg (fun h => a3 (hb.mp h))]
        exact ⟨false, rfl, fun h => (by cases h), fun h => (a3 h.2.2).elim⟩
theorem zz_addT {C : Nat → Nat} {m : Nat} {E : Nat → Nat} {ty ts tb tt td tq : Int32} {tl tz tc tY tA tB tF tG gl g : Nat → Int32} {y d : Nat} (h : IC C ty ts tb tt td tq tl tz tc tY tA tB tF tG gl) (hg : tabD C m E g) (hy : y < C 0) (hd : d < C 5) : ∃ g1, fX3_addDeed (nI y) (nI d) g ts tF tG = some g1 ∧ tabD C (m + 1) (cAdd m E y d) g1 ∧ (∀ i, (i < 6 * y ∨ 6 * y + 6 ≤ i) → g1 i = g i) := by
  obtain ⟨g1, e, h1, h2⟩ := zz_addD h hy hd g (fun y s => cDee C E y m s) hg (fun y s _ hs => cDee_lt hs m)
  refine ⟨g1, e, fun z s hz hs => ?_, h2⟩
  rw [h1 z s hz hs, cDee_new]
  by_cases c : z = y
  · subst c; rfl
  · rw [if_neg (fun hh => c hh.1), if_neg (fun hh => c hh.1.symm)]
theorem zz_scan1 {C : Nat → Nat} {m : Nat} {E : Nat → Nat} {ty ts tb tt td tq : Int32} {tl tz tc tY tA tB tF tG gl f g ky r sel ver : Nat → Int32} {y t : Nat} (h : IC C ty ts tb tt td tq tl tz tc tY tA tB tF tG gl) (hf : tabY C f) (hg : tabD C m E g) (ht : t < C 3) (hn : ¬ cAcq C m E (cBeg C) t) (hr : ∀ y, y < C 0 → RB (cRe C m E (cBeg C) y) (r y)) (hy : y < C 0) (hky : ∀ s, s < 6 → ky s = g (6 * y + s)) : ∃ e : (Int32 × (Nat → Int32) × (Nat → Int32) × (Nat → Int32)) ⊕ ((Nat → Int32) × (Nat → Int32) × (Nat → Int32)), lpd (fun s4 => sX1_searchOne_30 (nI t) (nI y) ky r (nI (cBeg C)) (nI (C 4)) f ty ts tt td tl tz tY tA tB tF tG s4.1 s4.2.1 s4.2.2.1 s4.2.2.2) FU (0, g, sel, ver) = some e ∧ ((∃ d w u, d < C 5 ∧ cAcq C (m + 1) (cAdd m E y d) (cBeg C) t ∧ (∀ d', d' < d → ¬ cAcq C (m + 1) (cAdd m E y d') (cBeg C) t) ∧ e = .inl (nI d, g, w, u)) ∨ ((∀ d, d < C 5 → ¬ cAcq C (m + 1) (cAdd m E y d) (cBeg C) t) ∧ ∃ w u, e = .inr (g, w, u))) := by
  have hD4 : C 5 ≤ 4 := h.1.2.2.2.2.2.2.2.1
  have hY16 : C 0 ≤ 16 := h.1.2.1
  have etd : td = nI (C 5) := h.2.2.2.2.2.2.1
  have c2 : inb (nI y) 16 = true := by rw [zz_inbt (by omega)]; omega
  refine lpd_ex2 (fun (k : Nat) (s : Int32 × (Nat → Int32) × (Nat → Int32) × (Nat → Int32)) => s.1 = nI k ∧ s.2.1 = g ∧ ∀ d', d' < k → ¬ cAcq C (m + 1) (cAdd m E y d') (cBeg C) t) (C 5) (by omega) _ ⟨rfl, rfl, fun d hd => absurd hd (Nat.not_lt_zero d)⟩ (fun k s hk hI => ?_) (fun s hI => ?_)
  · obtain ⟨i1, i2, i3⟩ := hI
    have c1 : ¬ td ≤ nI k := by rw [etd, zz_le (by omega) (by omega)]; omega
    have en : nI k + 1 = nI (k + 1) := by rw [zz_1, zz_add]
    obtain ⟨b, eb, hb⟩ := zz_chg h hk (hr y hy)
    cases b with
    | false =>
      have hne : ¬ cEff C m E (cBeg C) y k := fun hh => by cases hb.mpr hh
      refine Or.inl ⟨(nI (k + 1), g, s.2.2.1, s.2.2.2), ?_, rfl, rfl, fun d' hd' hh => ?_⟩
      · unfold sX1_searchOne_30
        simp only [i1, i2, c1, c2, zz_cl (show y < 2147483648 by omega), eb, zz_bf, en, Option.bind_some, ↓reduceIte]
      · by_cases c : d' = k
        · subst c; exact hn (cAcq_idle hne hh)
        · exact i3 d' (by omega) hh
    | true =>
      obtain ⟨g1, eg, hg1, hout⟩ := zz_addT h hg hy hk
      obtain ⟨b2, w, u, es, hb2⟩ := zz_surely (sel := s.2.2.1) (ver := s.2.2.2) (a := cBeg C) h hf hg1 (fun hp => cBeg_lt hp) ht
      have er := zz_rest (y := y) (by omega) hky hout
      cases b2 with
      | false =>
        refine Or.inl ⟨(nI (k + 1), g, w, u), ?_, rfl, rfl, fun d' hd' hh => ?_⟩
        · unfold sX1_searchOne_30
          simp only [i1, i2, c1, c2, zz_cl (show y < 2147483648 by omega), eb, eg, es, er, zz_bt, zz_bf, en, Option.bind_some, ↓reduceIte]
        · by_cases c : d' = k
          · subst c; cases hb2.mpr hh
          · exact i3 d' (by omega) hh
      | true =>
        refine Or.inr ⟨.inl (nI k, g, w, u), ?_, Or.inl ⟨k, w, u, hk, hb2.mp rfl, i3, rfl⟩⟩
        unfold sX1_searchOne_30
        simp only [i1, i2, c1, c2, zz_cl (show y < 2147483648 by omega), eb, eg, es, er, zz_bt, en, Option.bind_some, ↓reduceIte]
  · obtain ⟨i1, i2, i3⟩ := hI
    have c1 : td ≤ nI (C 5) := by rw [etd, zz_le (by omega) (by omega)]; omega
    refine ⟨.inr (g, s.2.2.1, s.2.2.2), ?_, Or.inr ⟨i3, _, _, rfl⟩⟩
    unfold sX1_searchOne_30
    simp only [i1, i2, c1, ↓reduceIte]
theorem zz_scan {C : Nat → Nat} {m : Nat} {E : Nat → Nat} {ty ts tb tt td tq : Int32} {tl tz tc tY tA tB tF tG gl f g ky r sel ver : Nat → Int32} {y0 t : Nat} (h : IC C ty ts tb tt td tq tl tz tc tY tA tB tF tG gl) (hf : tabY C f) (hg : tabD C m E g) (ht : t < C 3) (hn : ¬ cAcq C m E (cBeg C) t) (hr : ∀ y, y < C 0 → RB (cRe C m E (cBeg C) y) (r y)) (hy : y0 ≤ C 0) : ∃ e : (Int32 × Int32 × (Nat → Int32) × (Nat → Int32) × (Nat → Int32) × (Nat → Int32)) ⊕ ((Nat → Int32) × (Nat → Int32) × (Nat → Int32) × (Nat → Int32)), lpd (fun s1 => sX1_searchOne_8 (nI t) r (nI (cBeg C)) (nI (C 4)) f ty ts tt td tl tz tY tA tB tF tG s1.1 s1.2.1 s1.2.2.1 s1.2.2.2.1 s1.2.2.2.2) FU (nI y0, ky, g, sel, ver) = some e ∧ ((∃ a ky' w u, C 5 * y0 ≤ a ∧ a < C 0 * C 5 ∧ hOne C m E t a ∧ (∀ z, C 5 * y0 ≤ z → z < a → ¬ hOne C m E t z) ∧ e = .inl (nI (a / C 5), nI (a % C 5), ky', g, w, u)) ∨ ((∀ z, C 5 * y0 ≤ z → z < C 0 * C 5 → ¬ hOne C m E t z) ∧ ∃ ky' w u, e = .inr (ky', g, w, u))) := by
  have hD4 : C 5 ≤ 4 := h.1.2.2.2.2.2.2.2.1
  have hY16 : C 0 ≤ 16 := h.1.2.1
  have ety : ty = nI (C 0) := h.2.2.1
  refine lpd_ex2 (fun (k : Nat) (s : Int32 × (Nat → Int32) × (Nat → Int32) × (Nat → Int32) × (Nat → Int32)) => s.1 = nI (y0 + k) ∧ s.2.2.1 = g ∧ ∀ z, C 5 * y0 ≤ z → z < C 5 * (y0 + k) → ¬ hOne C m E t z) (C 0 - y0) (by omega) _ ⟨rfl, rfl, fun z h1 h2 => by rw [Nat.add_zero] at h2; omega⟩ (fun k s hk hI => ?_) (fun s hI => ?_)
  · obtain ⟨i1, i2, i3⟩ := hI
    have c1 : ¬ ty ≤ nI (y0 + k) := by rw [ety, zz_le (by omega) (by omega)]; omega
    have en : nI (y0 + k) + 1 = nI (y0 + k + 1) := by rw [zz_1, zz_add]
    have esv := zz_save (y := y0 + k) (by omega) g s.2.1
    have hmul : C 5 * (y0 + k + 1) = C 5 * (y0 + k) + C 5 := Nat.mul_succ _ _
    have hle : C 5 * y0 ≤ C 5 * (y0 + k) := Nat.mul_le_mul_left _ (by omega)
    obtain ⟨e, el, he⟩ := zz_scan1 (y := y0 + k) (ky := cpTo s.2.1 (fun z => g (6 * (y0 + k) + z)) 6) (sel := s.2.2.2.1) (ver := s.2.2.2.2) h hf hg ht hn hr (by omega) (fun z hz => cpTo_in hz)
    rcases he with ⟨d, w, u, hd, q1, q2, rfl⟩ | ⟨q1, w, u, rfl⟩
    · obtain ⟨x1, x2⟩ := zz_dm (n := C 5) (y := y0 + k) hd
      refine Or.inr ⟨.inl (nI (y0 + k), nI d, cpTo s.2.1 (fun z => g (6 * (y0 + k) + z)) 6, g, w, u), ?_, Or.inl ⟨C 5 * (y0 + k) + d, cpTo s.2.1 (fun z => g (6 * (y0 + k) + z)) 6, w, u, by omega, zz_cdl (by omega) hd, ?_, fun z h1 h2 hh => ?_, ?_⟩⟩
      · unfold sX1_searchOne_8
        simp only [i1, i2, c1, esv, el, Option.bind_some, Sum.elim_inl, ↓reduceIte]
      · unfold hOne
        rw [x1, x2]
        exact q1
      · by_cases c : z < C 5 * (y0 + k)
        · exact i3 z h1 c hh
        · obtain ⟨d', rfl⟩ : ∃ d', z = C 5 * (y0 + k) + d' := ⟨z - C 5 * (y0 + k), by omega⟩
          obtain ⟨z1, z2⟩ := zz_dm (n := C 5) (y := y0 + k) (d := d') (by omega)
          unfold hOne at hh
          rw [z1, z2] at hh
          exact q2 d' (by omega) hh
      · rw [x1, x2]
    · refine Or.inl ⟨(nI (y0 + k + 1), cpTo s.2.1 (fun z => g (6 * (y0 + k) + z)) 6, g, w, u), ?_, rfl, rfl, fun z h1 h2 hh => ?_⟩
      · unfold sX1_searchOne_8
        simp only [i1, i2, c1, esv, el, en, Option.bind_some, Sum.elim_inr, ↓reduceIte]
      · rw [show y0 + (k + 1) = y0 + k + 1 from rfl, hmul] at h2
        by_cases c : z < C 5 * (y0 + k)
        · exact i3 z h1 c hh
        · obtain ⟨d', rfl⟩ : ∃ d', z = C 5 * (y0 + k) + d' := ⟨z - C 5 * (y0 + k), by omega⟩
          obtain ⟨z1, z2⟩ := zz_dm (n := C 5) (y := y0 + k) (d := d') (by omega)
          unfold hOne at hh
          rw [z1, z2] at hh
          exact q1 d' (by omega) hh
  · obtain ⟨i1, i2, i3⟩ := hI
    have c1 : ty ≤ nI (y0 + (C 0 - y0)) := by rw [ety, zz_le (by omega) (by omega)]; omega
    refine ⟨.inr (s.2.1, g, s.2.2.2.1, s.2.2.2.2), ?_, Or.inr ⟨fun z h1 h2 => i3 z h1 ?_, _, _, _, rfl⟩⟩
    · unfold sX1_searchOne_8
      simp only [i1, i2, c1, ↓reduceIte]
    · rw [show y0 + (C 0 - y0) = C 0 by omega, Nat.mul_comm]
      exact h2
theorem zz_ans {t : Nat} (ht : t < 3) (x y z : Int32) (kn kh kf ks : Nat → Int32) : fX1_answer (nI t) x y z kn kh kf ks = some (upd kn t 1, upd kh t x, upd kf t y, upd ks t z) := by
  have c : inb (nI t) 3 = true := by rw [zz_inbt (by omega)]; omega
  unfold fX1_answer
  simp only [c, zz_cl (show t < 2147483648 by omega), ↓reduceIte]
theorem hCode_is {C : Nat → Nat} {a : Nat} : 10 * nI (a / C 5) + nI (a % C 5) = hCode C a := rfl
theorem zz_le_div {a b n : Nat} (hn : 0 < n) : n * a ≤ b ↔ a ≤ b / n := by
  rw [Nat.le_div_iff_mul_le hn, Nat.mul_comm]
