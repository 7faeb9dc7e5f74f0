/-! The class: does a row of verdicts hold; is it a life. -/
theorem lpd_ex2 {σ ε : Type} {st : σ → Option (σ ⊕ ε)} {P : ε → Prop} (I : Nat → σ → Prop) (n : Nat) (hn : n < 100000) (s0 : σ) (h0 : I 0 s0) (hs : ∀ k s, k < n → I k s → (∃ s', st s = some (.inl s') ∧ I (k + 1) s') ∨ (∃ e, st s = some (.inr e) ∧ P e)) (he : ∀ s, I n s → ∃ e, st s = some (.inr e) ∧ P e) : ∃ e, lpd st FU s0 = some e ∧ P e := by
  have key : ∀ (d k : Nat) (s : σ) (f : Nat), k + d = n → d < f → I k s → ∃ e, lpd st f s = some e ∧ P e := by
    intro d
    induction d with
    | zero =>
      intro k s f hk hf hI
      obtain ⟨f, rfl⟩ : ∃ q, f = q + 1 := ⟨f - 1, by omega⟩
      obtain ⟨e, h1, h2⟩ := he s (by rw [← hk]; exact hI)
      refine ⟨e, ?_, h2⟩
      show (st s).bind _ = _
      rw [h1]; rfl
    | succ d ih =>
      intro k s f hk hf hI
      obtain ⟨f, rfl⟩ : ∃ q, f = q + 1 := ⟨f - 1, by omega⟩
      rcases hs k s (by omega) hI with ⟨s', h1, h2⟩ | ⟨e, h1, h2⟩
      · obtain ⟨e, h3, h4⟩ := ih (k + 1) s' f (by omega) (by omega) h2
        refine ⟨e, ?_, h4⟩
        show (st s).bind _ = _
        rw [h1]; exact h3
      · refine ⟨e, ?_, h2⟩
        show (st s).bind _ = _
        rw [h1]; rfl
  exact key n 0 s0 FU (by omega) (FU_lt hn) h0
theorem base3 {C Z : Nat → Nat} {q v T : Nat} (hT : T ≤ 3) (hv : v < 3 ^ T) : cWords C Z q T = v ↔ ∀ t, t < T → cWord C Z q t = cFig v t T := by
  have w0 := cWord_lt (C := C) (Z := Z) (q := q) (t := 0)
  have w1 := cWord_lt (C := C) (Z := Z) (q := q) (t := 1)
  have w2 := cWord_lt (C := C) (Z := Z) (q := q) (t := 2)
  have hc : T = 0 ∨ T = 1 ∨ T = 2 ∨ T = 3 := by omega
  rcases hc with rfl | rfl | rfl | rfl
  · constructor
    · intro _ t ht; omega
    · intro _; unfold cWords; omega
  · have e : cWords C Z q 1 = cWord C Z q 0 := by simp [cWords]
    have f0 : cFig v 0 1 = v % 3 := by simp [cFig]
    rw [e]
    constructor
    · intro h t ht
      have : t = 0 := by omega
      subst this; rw [f0]; omega
    · intro h
      have h0 := h 0 (by omega)
      rw [f0] at h0; omega
  · have e : cWords C Z q 2 = 3 * cWord C Z q 0 + cWord C Z q 1 := by simp [cWords]
    have f0 : cFig v 0 2 = v / 3 % 3 := by simp [cFig]
    have f1 : cFig v 1 2 = v % 3 := by simp [cFig]
    rw [e]
    constructor
    · intro h t ht
      have : t = 0 ∨ t = 1 := by omega
      rcases this with rfl | rfl
      · rw [f0]; omega
      · rw [f1]; omega
    · intro h
      have h0 := h 0 (by omega)
      have h1 := h 1 (by omega)
      rw [f0] at h0; rw [f1] at h1; omega
  · have e : cWords C Z q 3 = 3 * (3 * cWord C Z q 0 + cWord C Z q 1) + cWord C Z q 2 := by simp [cWords]
    have f0 : cFig v 0 3 = v / 9 % 3 := by simp [cFig]
    have f1 : cFig v 1 3 = v / 3 % 3 := by simp [cFig]
    have f2 : cFig v 2 3 = v % 3 := by simp [cFig]
    rw [e]
    constructor
    · intro h t ht
      have : t = 0 ∨ t = 1 ∨ t = 2 := by omega
      rcases this with rfl | rfl | rfl
      · rw [f0]; omega
      · rw [f1]; omega
      · rw [f2]; omega
    · intro h
      have h0 := h 0 (by omega)
      have h1 := h 1 (by omega)
      have h2 := h 2 (by omega)
      rw [f0] at h0; rw [f1] at h1; rw [f2] at h2; omega
theorem zz_holds {C : Nat → Nat} {m : Nat} {E : Nat → Nat} {ty ts tb tt td tq : Int32} {tl tz tc tY tA tB tF tG gl f g sel ver : Nat → Int32} {v a q : Nat} (h : IC C ty ts tb tt td tq tl tz tc tY tA tB tF tG gl) (hf : tabY C f) (hg : tabD C m E g) (hver : ∀ t, t < C 3 → ver t = nI (cFig v t (C 3))) (ha : a < C 1) (hq : q < 1000) (hv : v < 3 ^ C 3) : ∃ (b : Bool) (w : Nat → Int32), fX3_holds (nI a) (nI q) f g sel ver ty tt tl tz tY tA tB = some (b, w) ∧ (b = true ↔ cLife C m E a q v) ∧ ∀ y, y < C 0 → w y = nI (cSelf C m E v a y) := by
  have hIC := h
  obtain ⟨w, ew, hw⟩ := zz_live (sel := sel) h hf hg hver ha
  obtain ⟨hO, hl, ety, ets, etb, ett, etd, etq, hst, htr, hde⟩ := h
  have hT3 : C 3 ≤ 3 := hO.2.2.2.2.1
  have hb3 := base3 (C := C) (Z := cSelf C m E v a) (q := q) hT3 hv
  unfold fX3_holds
  rw [ew, Option.bind_some]
  have l : ∃ e : Unit ⊕ Unit, lpd (fun s2 => sX3_holds_6 (nI q) w ver tt tl tz tA tB s2) FU 0 = some e ∧ ((e = .inr () ∧ cLife C m E a q v) ∨ (e = .inl () ∧ ¬ cLife C m E a q v)) := by
    refine lpd_ex2 (fun (k : Nat) (s : Int32) => s = nI k ∧ ∀ t, t < k → cWord C (cSelf C m E v a) q t = cFig v t (C 3)) (C 3) (by omega) 0 ⟨rfl, fun t h => by omega⟩ (fun k s hk hI => ?_) (fun s hI => ?_)
    · obtain ⟨rfl, i2⟩ := hI
      have c1 : ¬ nI (C 3) ≤ nI k := by rw [zz_le (by omega) (by omega)]; omega
      have c2 : inb (nI k) 3 = true := by rw [zz_inbt (by omega)]; omega
      have hwl := cWord_lt (C := C) (Z := cSelf C m E v a) (q := q) (t := k)
      have hfl := cFig_lt v k (C 3)
      have ej := zz_jw hIC hw (cSelf_lt ha) hq hk
      by_cases a1 : cWord C (cSelf C m E v a) q k = cFig v k (C 3)
      · refine Or.inl ⟨nI (k + 1), ?_, rfl, fun t ht => ?_⟩
        · unfold sX3_holds_6
          simp only [ett, c1, c2, ej, Option.bind_some, zz_cl (show k < 2147483648 by omega), hver k hk, a1, ↓reduceIte]
          rw [zz_1, zz_add]
        · by_cases htk : t = k
          · subst htk; exact a1
          · exact i2 t (by omega)
      · have b1 : ¬ nI (cWord C (cSelf C m E v a) q k) = nI (cFig v k (C 3)) := by rw [zz_eq (by omega) (by omega)]; exact a1
        refine Or.inr ⟨.inl (), ?_, Or.inr ⟨rfl, fun hL => a1 (hb3.mp hL k hk)⟩⟩
        unfold sX3_holds_6
        simp only [ett, c1, c2, ej, Option.bind_some, zz_cl (show k < 2147483648 by omega), hver k hk, b1, ↓reduceIte]
    · obtain ⟨rfl, i2⟩ := hI
      have c1 : nI (C 3) ≤ nI (C 3) := by rw [zz_le (by omega) (by omega)]; omega
      refine ⟨.inr (), ?_, Or.inl ⟨rfl, hb3.mpr i2⟩⟩
      unfold sX3_holds_6
      simp only [ett, c1, ↓reduceIte]
  obtain ⟨e, el, ⟨rfl, hL⟩ | ⟨rfl, hL⟩⟩ := l
  · exact ⟨true, w, by rw [el]; rfl, ⟨fun _ => hL, fun _ => rfl⟩, hw⟩
  · exact ⟨false, w, by rw [el]; rfl, ⟨fun h => (by cases h), fun h => absurd h hL⟩, hw⟩
theorem zz_life {C : Nat → Nat} {m : Nat} {E : Nat → Nat} {ty ts tb tt td tq : Int32} {tl tz tc tY tA tB tF tG gl f g sel ver : Nat → Int32} {v a q : Nat} (h : IC C ty ts tb tt td tq tl tz tc tY tA tB tF tG gl) (hf : tabY C f) (hg : tabD C m E g) (ha : a < C 1) (hq : q < 1000) (hv : v < 3 ^ C 3) : ∃ (b : Bool) (w u : Nat → Int32), fX3_isLife (nI v) (nI a) (nI q) f g sel ver ty tt tl tz tY tA tB = some (b, w, u) ∧ (b = true ↔ cLife C m E a q v) ∧ (∀ y, y < C 0 → w y = nI (cSelf C m E v a y)) ∧ ∀ t, t < C 3 → u t = nI (cFig v t (C 3)) := by
  have hT3 : C 3 ≤ 3 := h.1.2.2.2.2.1
  have ett : tt = nI (C 3) := h.2.2.2.2.2.1
  have hp := zz_p3 hT3
  obtain ⟨u, eu, hu⟩ := zz_give (v := v) (by omega) hT3 ver
  obtain ⟨b, w, e, hb, hw⟩ := zz_holds (sel := sel) h hf hg hu ha hq hv
  refine ⟨b, w, u, ?_, hb, hw, hu⟩
  unfold fX3_isLife
  rw [ett, eu, Option.bind_some, ← ett, e]
  rfl
