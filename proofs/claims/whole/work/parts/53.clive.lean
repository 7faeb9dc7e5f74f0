/-! The class: verdicts of a row; who one is; a jury's word. -/
theorem zz_give {v T : Nat} (hv : v < 1000000) (hT : T ≤ 3) (ver : Nat → Int32) : ∃ w, fX3_giveVerdicts (nI v) ver (nI T) = some w ∧ ∀ t, t < T → w t = nI (cFig v t T) := by
  unfold fX3_giveVerdicts
  have l : ∃ w, lpd (fun s1 => sX3_giveVerdicts_12 s1.1 s1.2.1 s1.2.2) FU (nI v, nI T - 1, ver) = some w ∧ ∀ t, t < T → w t = nI (cFig v t T) := by
    refine lpd_ex (fun (k : Nat) (s : Int32 × Int32 × (Nat → Int32)) => s.1 = nI (v / 3 ^ k) ∧ s.2.1 = nI (T - k) - 1 ∧ ∀ t, T - k ≤ t → t < T → s.2.2 t = nI (cFig v t T)) T (by omega) (nI v, nI T - 1, ver) ⟨by simp, rfl, fun t h1 h2 => by omega⟩ (fun k s hk hI => ?_) (fun s hI => ?_)
    · obtain ⟨i1, i2, i3⟩ := hI
      have e1 : nI (T - k) - 1 = nI (T - k - 1) := by rw [zz_1, zz_sub (by omega)]
      have c1 : ¬ nI (T - k - 1) < 0 := zz_nn _ (by omega)
      have c2 : inb (nI (T - k - 1)) 3 = true := by rw [zz_inbt (by omega)]; omega
      have hd : v / 3 ^ k < 1000000 := Nat.lt_of_le_of_lt (Nat.div_le_self _ _) hv
      refine ⟨(nI (v / 3 ^ k) / 3, nI (T - k - 1) + (-1), upd s.2.2 (T - k - 1) (nI (v / 3 ^ k) - nI (v / 3 ^ k) / 3 * 3)), ?_, ?_, ?_, fun t h1 h2 => ?_⟩
      · unfold sX3_giveVerdicts_12
        simp only [i1, i2, e1, c1, c2, zz_cl (show T - k - 1 < 2147483648 by omega), ↓reduceIte]
      · dsimp only
        rw [zz_3, zz_div (by omega) (by omega) (by omega), Nat.div_div_eq_div_mul, ← Nat.pow_succ]
      · dsimp only
        rw [show T - (k + 1) = T - k - 1 by omega, Int32.sub_eq_add_neg]
      · dsimp only
        by_cases ht : t = T - k - 1
        · subst ht
          rw [pk_us, zz_3, zz_rem (by omega) (by omega) (by omega)]
          unfold cFig
          rw [show T - 1 - (T - k - 1) = k by omega]
        · rw [pk_un ht]
          exact i3 t (by omega) h2
    · obtain ⟨i1, i2, i3⟩ := hI
      have c1 : nI (T - T) - 1 < 0 := by rw [Nat.sub_self]; decide
      refine ⟨s.2.2, ?_, fun t ht => i3 t (by omega) ht⟩
      unfold sX3_giveVerdicts_12
      simp only [i2, c1, ↓reduceIte]
  obtain ⟨w, e, hw⟩ := l
  exact ⟨w, by rw [e]; rfl, hw⟩
theorem zz_jw {C : Nat → Nat} {ty ts tb tt td tq : Int32} {tl tz tc tY tA tB tF tG gl sel : Nat → Int32} {Z : Nat → Nat} {q t : Nat} (h : IC C ty ts tb tt td tq tl tz tc tY tA tB tF tG gl) (hZ : ∀ y, y < C 0 → sel y = nI (Z y)) (hz : ∀ y, Z y < C 1) (hq : q < 1000) (ht : t < C 3) : fX3_juryWord (nI t) (nI q) sel tl tz tA tB = some (nI (cWord C Z q t)) := by
  obtain ⟨hO, hl, -, -, -, -, -, -, hst, htr, -⟩ := h
  have hS6 : C 1 ≤ 6 := hO.2.2.1
  have hT3 : C 3 ≤ 3 := hO.2.2.2.2.1
  have hY16 : C 0 ≤ 16 := hO.2.1
  have hss := hO.2.2.2.2.2.2.2.2.1
  obtain ⟨b1, b2, b3⟩ := hO.2.2.2.2.2.2.2.2.2.1 t ht
  obtain ⟨-, r2, r3⟩ := htr t ht
  unfold fX3_juryWord
  have c1 : inb (nI t) 3 = true := by rw [zz_inbt (by omega)]; omega
  have hlean : ∀ y, C (8 + 5 * Z y) ≤ 18 := fun y => (hss _ (hz y)).1
  have e : lpd (fun s2 => sX3_juryWord_15 (nI t) sel tl tz tB s2.1 s2.2.1 s2.2.2) FU (0, 0, nI (C (39 + 3 * t))) = some (nI (cCnt C Z (C (39 + 3 * t)) (C (40 + 3 * t) + 1 - C (39 + 3 * t))), iI (cSum C Z (C (39 + 3 * t)) (C (40 + 3 * t) + 1 - C (39 + 3 * t)))) := by
    have h := lpd_run (st := fun s2 => sX3_juryWord_15 (nI t) sel tl tz tB s2.1 s2.2.1 s2.2.2) (fun k => (nI (cCnt C Z (C (39 + 3 * t)) k), iI (cSum C Z (C (39 + 3 * t)) k), nI (C (39 + 3 * t) + k))) (nI (cCnt C Z (C (39 + 3 * t)) (C (40 + 3 * t) + 1 - C (39 + 3 * t))), iI (cSum C Z (C (39 + 3 * t)) (C (40 + 3 * t) + 1 - C (39 + 3 * t)))) (C (40 + 3 * t) + 1 - C (39 + 3 * t)) FU (FU_lt (by omega)) (fun k hk => ?_) ?_
    · exact h
    · dsimp only
      unfold sX3_juryWord_15
      have d1 : ¬ nI (C (40 + 3 * t)) < nI (C (39 + 3 * t) + k) := by rw [zz_lt (by omega) (by omega)]; omega
      have d2 : inb (nI (C (39 + 3 * t) + k)) 16 = true := by rw [zz_inbt (by omega)]; omega
      have hsy := hZ (C (39 + 3 * t) + k) (by omega)
      have hzy := hz (C (39 + 3 * t) + k)
      have hd1 := (hss _ hzy).2.1
      have d3 : inb (nI (Z (C (39 + 3 * t) + k))) 6 = true := by rw [zz_inbt (by omega)]; omega
      obtain ⟨u1, u2, -⟩ := hst _ hzy
      have ea : (nI (C (9 + 5 * Z (C (39 + 3 * t) + k))) = 0) = (C (9 + 5 * Z (C (39 + 3 * t) + k)) = 0) := by rw [zz_0, zz_eq (by omega) (by omega)]
      simp only [c1, zz_cl (show t < 2147483648 by omega), r3, d1, d2, zz_cl (show C (39 + 3 * t) + k < 2147483648 by omega), hsy, d3, zz_cl (show Z (C (39 + 3 * t) + k) < 2147483648 by omega), u1, u2, ea, ↓reduceIte]
      rw [show cCnt C Z (C (39 + 3 * t)) (k + 1) = if C (9 + 5 * Z (C (39 + 3 * t) + k)) = 0 then cCnt C Z (C (39 + 3 * t)) k + 1 else cCnt C Z (C (39 + 3 * t)) k from rfl, show cSum C Z (C (39 + 3 * t)) (k + 1) = if C (9 + 5 * Z (C (39 + 3 * t) + k)) = 0 then cSum C Z (C (39 + 3 * t)) k + ((C (8 + 5 * Z (C (39 + 3 * t) + k)) : Int) - 9) else cSum C Z (C (39 + 3 * t)) k from rfl]
      by_cases a1 : C (9 + 5 * Z (C (39 + 3 * t) + k)) = 0
      · simp only [a1, ↓reduceIte]
        rw [zz_1, zz_add, zz_add, iI_l, iI_add]
        rfl
      · simp only [a1, ↓reduceIte]
        rw [zz_1, zz_add]
        rfl
    · dsimp only
      unfold sX3_juryWord_15
      have d1 : nI (C (40 + 3 * t)) < nI (C (39 + 3 * t) + (C (40 + 3 * t) + 1 - C (39 + 3 * t))) := by rw [zz_lt (by omega) (by omega)]; omega
      simp only [c1, zz_cl (show t < 2147483648 by omega), r3, d1, ↓reduceIte]
  have hs := cSum_le (a := C (39 + 3 * t)) hlean (C (40 + 3 * t) + 1 - C (39 + 3 * t))
  have hc := cCnt_le (C := C) (S := Z) (a := C (39 + 3 * t)) (C (40 + 3 * t) + 1 - C (39 + 3 * t))
  simp only [c1, zz_cl (show t < 2147483648 by omega), r2, e, Option.bind_some, ↓reduceIte, zz_le (show q < 2147483648 by omega) (show cCnt C Z (C (39 + 3 * t)) (C (40 + 3 * t) + 1 - C (39 + 3 * t)) < 2147483648 by omega), iI_neg (z := cSum C Z (C (39 + 3 * t)) (C (40 + 3 * t) + 1 - C (39 + 3 * t))) (by omega) (by omega)]
  unfold cWord
  by_cases a1 : q ≤ cCnt C Z (C (39 + 3 * t)) (C (40 + 3 * t) + 1 - C (39 + 3 * t))
  · have a2 : ¬ cCnt C Z (C (39 + 3 * t)) (C (40 + 3 * t) + 1 - C (39 + 3 * t)) < q := by omega
    by_cases a3 : cSum C Z (C (39 + 3 * t)) (C (40 + 3 * t) + 1 - C (39 + 3 * t)) < 0
    · have a4 : ¬ 0 ≤ cSum C Z (C (39 + 3 * t)) (C (40 + 3 * t) + 1 - C (39 + 3 * t)) := by omega
      simp only [a1, a2, a3, a4, ↓reduceIte]; rfl
    · have a4 : 0 ≤ cSum C Z (C (39 + 3 * t)) (C (40 + 3 * t) + 1 - C (39 + 3 * t)) := by omega
      simp only [a1, a2, a3, a4, ↓reduceIte]; rfl
  · have a2 : cCnt C Z (C (39 + 3 * t)) (C (40 + 3 * t) + 1 - C (39 + 3 * t)) < q := by omega
    simp only [a1, a2, ↓reduceIte]; rfl
