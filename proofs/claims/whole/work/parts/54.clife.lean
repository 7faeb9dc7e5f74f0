/-! The class: who one is by a row of verdicts. -/
theorem tY_mono {C : Nat → Nat} (hO : OKC C) {t u : Nat} (h : t < u) (hu : u < C 3) : C (38 + 3 * t) < C (38 + 3 * u) := by
  have hT3 : C 3 ≤ 3 := hO.2.2.2.2.1
  have hi := hO.2.2.2.2.2.2.2.2.2.2.1
  have key : ∀ d t, t + d + 1 < C 3 → C (38 + 3 * t) < C (38 + 3 * (t + d + 1)) := by
    intro d
    induction d with
    | zero =>
      intro t ht
      have := hi t ht
      rw [show 38 + 3 * (t + 0 + 1) = 41 + 3 * t by omega]
      exact this
    | succ d ih =>
      intro t ht
      have h1 := ih t (by omega)
      have h2 := hi (t + d + 1) (by omega)
      rw [show 41 + 3 * (t + d + 1) = 38 + 3 * (t + (d + 1) + 1) by omega] at h2
      omega
  have := key (u - t - 1) t (by omega)
  rw [show t + (u - t - 1) + 1 = u by omega] at this
  exact this
theorem cVy_miss {C : Nat → Nat} {v y : Nat} : ∀ k, (∀ t, t < k → C (38 + 3 * t) ≠ y) → cVy C v y k = 0
  | 0, _ => rfl
  | k + 1, h => by
    unfold cVy
    rw [if_neg (h k (by omega))]
    exact cVy_miss k (fun t ht => h t (by omega))
theorem cVy_hit {C : Nat → Nat} (hO : OKC C) {v y t0 : Nat} (ht : t0 < C 3) (hy : C (38 + 3 * t0) = y) : cVy C v y (C 3) = cFig v t0 (C 3) := by
  have key : ∀ k, k ≤ C 3 → cVy C v y k = if t0 < k then cFig v t0 (C 3) else 0 := by
    intro k
    induction k with
    | zero => intro _; rfl
    | succ k ih =>
      intro hk
      unfold cVy
      by_cases h : k = t0
      · subst h
        rw [if_pos hy, if_pos (by omega)]
      · have hne : C (38 + 3 * k) ≠ y := by
          rcases Nat.lt_or_gt_of_ne h with h1 | h1
          · have := tY_mono hO h1 ht; omega
          · have := tY_mono hO h1 (show k < C 3 by omega); omega
        rw [if_neg hne, ih (by omega)]
        by_cases h2 : t0 < k
        · rw [if_pos h2, if_pos (by omega)]
        · rw [if_neg h2, if_neg (by omega)]
  rw [key (C 3) (Nat.le_refl _), if_pos ht]
theorem zz_live {C : Nat → Nat} {m : Nat} {E : Nat → Nat} {ty ts tb tt td tq : Int32} {tl tz tc tY tA tB tF tG gl f g sel ver : Nat → Int32} {v a : Nat} (h : IC C ty ts tb tt td tq tl tz tc tY tA tB tF tG gl) (hf : tabY C f) (hg : tabD C m E g) (hver : ∀ t, t < C 3 → ver t = nI (cFig v t (C 3))) (ha : a < C 1) : ∃ w, fX3_live (nI a) f g sel ver ty tt tY = some w ∧ ∀ y, y < C 0 → w y = nI (cSelf C m E v a y) := by
  obtain ⟨hO, hl, ety, ets, etb, ett, etd, etq, hst, htr, hde⟩ := h
  have hS6 : C 1 ≤ 6 := hO.2.2.1
  have hT3 : C 3 ≤ 3 := hO.2.2.2.2.1
  have hY2 : 2 ≤ C 0 := hO.1
  have hY16 : C 0 ≤ 16 := hO.2.1
  unfold fX3_live
  have c1 : inb (nI a) 96 = true := by rw [zz_inbt (by omega)]; omega
  have c2 : inb 0 16 = true := by decide
  have g0 : g a = nI (cDee C E 0 m a) := by
    have := hg 0 a (by omega) ha
    rw [show 6 * 0 + a = a by omega] at this
    exact this
  simp only [c1, c2, zz_cl (show a < 2147483648 by omega), zz_c0, g0, ↓reduceIte]
  have l : ∃ w, lpd (fun s3 => sX3_live_21 f g ver ty tt tY s3.1 s3.2.1 s3.2.2.1 s3.2.2.2) FU (nI (cDee C E 0 m a), 0, 1, upd sel 0 (nI (cDee C E 0 m a))) = some w ∧ ∀ y, y < C 0 → w y = nI (cSelf C m E v a y) := by
    refine lpd_ex (fun (k : Nat) (s : Int32 × Int32 × Int32 × (Nat → Int32)) => s.1 = nI (cSelf C m E v a k) ∧ s.2.2.1 = nI (k + 1) ∧ (∃ t0, t0 ≤ C 3 ∧ s.2.1 = nI t0 ∧ (∀ t, t < t0 → C (38 + 3 * t) < k) ∧ (∀ t, t0 ≤ t → t < C 3 → k ≤ C (38 + 3 * t))) ∧ ∀ y, y ≤ k → s.2.2.2 y = nI (cSelf C m E v a y)) (C 0 - 1) (by omega) _ ⟨rfl, rfl, ⟨0, by omega, rfl, fun t h => by omega, fun t _ _ => by omega⟩, fun y hy => ?_⟩ (fun k s hk hI => ?_) (fun s hI => ?_)
    · have : y = 0 := by omega
      subst this
      show upd sel 0 (nI (cDee C E 0 m a)) 0 = _
      exact pk_us
    · obtain ⟨i1, i2, ⟨t0, j0, j1, j2, j3⟩, i3⟩ := hI
      have hsl := cSelf_lt (C := C) (m := m) (E := E) (v := v) ha k
      have d1 : ¬ nI (C 0) ≤ nI (k + 1) := by rw [zz_le (by omega) (by omega)]; omega
      have d2 : inb (nI (k + 1)) 16 = true := by rw [zz_inbt (by omega)]; omega
      have e1 : nI (k + 1) - 1 = nI k := by rw [zz_1, zz_sub (by omega)]; rfl
      have fin : ∀ w, w = cVy C v k (C 3) → ∀ t1 : Int32, (if inb (nI (cSelf C m E v a k) * 3 + nI w) 18 = true then if inb (nI (k + 1) * 6 + f (nI (cSelf C m E v a k) * 3 + nI w).toNatClampNeg) 96 = true then if inb (nI (k + 1)) 16 = true then some (Sum.inl (g (nI (k + 1) * 6 + f (nI (cSelf C m E v a k) * 3 + nI w).toNatClampNeg).toNatClampNeg, t1, nI (k + 1) + 1, upd s.2.2.2 (nI (k + 1)).toNatClampNeg (g (nI (k + 1) * 6 + f (nI (cSelf C m E v a k) * 3 + nI w).toNatClampNeg).toNatClampNeg))) else none else none else none) = (some (Sum.inl (nI (cSelf C m E v a (k + 1)), t1, nI (k + 1 + 1), upd s.2.2.2 (k + 1) (nI (cSelf C m E v a (k + 1))))) : Option ((Int32 × Int32 × Int32 × (Nat → Int32)) ⊕ (Nat → Int32))) := by
        intro w hw t1
        have hw3 : w < 3 := by rw [hw]; exact cVy_lt _
        have e2 : nI (cSelf C m E v a k) * 3 + nI w = nI (3 * cSelf C m E v a k + w) := by rw [zz_3, zz_mul, zz_add]; congr 1; omega
        have q1 : inb (nI (3 * cSelf C m E v a k + w)) 18 = true := by rw [zz_inbt (by omega)]; omega
        have hbl := cBec_lt (C := C) (v := w) hsl
        have e3 : nI (k + 1) * 6 + nI (cBec C (cSelf C m E v a k) w) = nI (6 * (k + 1) + cBec C (cSelf C m E v a k) w) := by rw [zz_6, zz_mul, zz_add]; congr 1; omega
        have q2 : inb (nI (6 * (k + 1) + cBec C (cSelf C m E v a k) w)) 96 = true := by rw [zz_inbt (by omega)]; omega
        simp only [e2, q1, zz_cl (show 3 * cSelf C m E v a k + w < 2147483648 by omega), hf _ _ hsl hw3, e3, q2, d2, zz_cl (show 6 * (k + 1) + cBec C (cSelf C m E v a k) w < 2147483648 by omega), zz_cl (show k + 1 < 2147483648 by omega), hg _ _ (show k + 1 < C 0 by omega) hbl, ↓reduceIte]
        rw [hw, zz_1, zz_add]
        rfl
      have upto : ∀ y, y ≤ k + 1 → upd s.2.2.2 (k + 1) (nI (cSelf C m E v a (k + 1))) y = nI (cSelf C m E v a y) := by
        intro y hy
        by_cases hyk : y = k + 1
        · subst hyk; exact pk_us
        · rw [pk_un hyk]; exact i3 y (by omega)
      by_cases a1 : C 3 ≤ t0
      · have b1 : nI (C 3) ≤ nI t0 := by rw [zz_le (by omega) (by omega)]; exact a1
        have hv0 : cVy C v k (C 3) = 0 := cVy_miss _ (fun t ht => by have := j2 t (by omega); omega)
        refine ⟨(nI (cSelf C m E v a (k + 1)), nI t0, nI (k + 1 + 1), upd s.2.2.2 (k + 1) (nI (cSelf C m E v a (k + 1)))), ?_, rfl, rfl, ⟨t0, j0, rfl, fun t h => by have := j2 t h; omega, fun t h1 h2 => by omega⟩, upto⟩
        unfold sX3_live_21
        simp only [jn, i1, i2, j1, ety, ett, d1, b1, ↓reduceIte]
        exact fin 0 hv0.symm (nI t0)
      · have b1 : ¬ nI (C 3) ≤ nI t0 := by rw [zz_le (by omega) (by omega)]; exact a1
        have b2 : inb (nI t0) 3 = true := by rw [zz_inbt (by omega)]; omega
        have htY := (htr t0 (by omega)).1
        have hb3 := (hO.2.2.2.2.2.2.2.2.2.1 t0 (by omega))
        by_cases a2 : C (38 + 3 * t0) = k
        · refine ⟨(nI (cSelf C m E v a (k + 1)), nI (t0 + 1), nI (k + 1 + 1), upd s.2.2.2 (k + 1) (nI (cSelf C m E v a (k + 1)))), ?_, rfl, rfl, ⟨t0 + 1, by omega, rfl, fun t h => ?_, fun t h1 h2 => ?_⟩, upto⟩
          · unfold sX3_live_21
            have b3 : nI (C (38 + 3 * t0)) = nI k := by rw [a2]
            simp only [jn, i1, i2, j1, ety, ett, d1, b1, b2, e1, zz_cl (show t0 < 2147483648 by omega), htY, b3, hver t0 (by omega), ↓reduceIte]
            rw [zz_1, zz_add]
            exact fin _ (cVy_hit hO (by omega) a2).symm (nI (t0 + 1))
          · by_cases htt : t = t0
            · subst htt; omega
            · have := j2 t (by omega); omega
          · have := tY_mono hO (show t0 < t by omega) h2; omega
        · have b3 : ¬ nI (C (38 + 3 * t0)) = nI k := by rw [zz_eq (by omega) (by omega)]; exact a2
          have hv0 : cVy C v k (C 3) = 0 := cVy_miss _ (fun t ht he => by
            by_cases htt : t < t0
            · have := j2 t htt; omega
            · by_cases htt2 : t = t0
              · subst htt2; exact a2 he
              · have h1 := tY_mono hO (show t0 < t by omega) ht
                have h2 := j3 t0 (Nat.le_refl _) (by omega)
                omega)
          refine ⟨(nI (cSelf C m E v a (k + 1)), nI t0, nI (k + 1 + 1), upd s.2.2.2 (k + 1) (nI (cSelf C m E v a (k + 1)))), ?_, rfl, rfl, ⟨t0, j0, rfl, fun t h => by have := j2 t h; omega, fun t h1 h2 => ?_⟩, upto⟩
          · unfold sX3_live_21
            simp only [jn, i1, i2, j1, ety, ett, d1, b1, b2, e1, zz_cl (show t0 < 2147483648 by omega), htY, b3, ↓reduceIte]
            exact fin 0 hv0.symm (nI t0)
          · have h3 := j3 t0 (Nat.le_refl _) (by omega)
            by_cases htt2 : t = t0
            · subst htt2; omega
            · have h1 := tY_mono hO (show t0 < t by omega) h2
              omega
    · obtain ⟨i1, i2, -, i3⟩ := hI
      refine ⟨s.2.2.2, ?_, fun y hy => i3 y (by omega)⟩
      unfold sX3_live_21
      have d1 : nI (C 0) ≤ nI (C 0 - 1 + 1) := by rw [zz_le (by omega) (by omega)]; omega
      simp only [i2, ety, d1, ↓reduceIte]
  obtain ⟨w, e, hw⟩ := l
  exact ⟨w, by rw [e]; rfl, hw⟩
