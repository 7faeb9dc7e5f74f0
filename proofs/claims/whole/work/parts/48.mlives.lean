/-! The reference's lives. -/
def MC (C : Nat → Nat) (m : Nat) (E : Nat → Nat) (gl gd : Nat → Int32) : Prop := OKC C ∧ (∀ i, i < 55 → gl i = nI (C i)) ∧ m ≤ 8 ∧ OKE C m E ∧ ∀ i, i < 2 * m → gd i = nI (E i)
theorem zz_pred {n : Nat} : nI (n + 1) + (-1) = nI n := pk_m1 n
theorem zz_figure {v t T : Nat} (hv : v < 1000000) (ht : t < T) (hT : T ≤ 3) : fX7_figure (nI v) (nI t) (nI T) = some (nI (cFig v t T)) := by
  unfold fX7_figure
  have e1 : nI T - 1 = nI (T - 1) := by rw [zz_1, zz_sub (by omega)]
  rw [e1]
  have e : lpd (fun s1 => sX7_figure_7 (nI t) s1.1 s1.2) FU (nI v, nI (T - 1)) = some (nI (v / 3 ^ (T - 1 - t))) := by
    have h := lpd_run (st := fun s1 => sX7_figure_7 (nI t) s1.1 s1.2) (fun k => (nI (v / 3 ^ k), nI (T - 1 - k))) (nI (v / 3 ^ (T - 1 - t))) (T - 1 - t) FU (FU_lt (by omega)) (fun k hk => ?_) ?_
    · simpa using h
    · dsimp only
      unfold sX7_figure_7
      have c1 : ¬ nI (T - 1 - k) ≤ nI t := by rw [zz_le (by omega) (by omega)]; omega
      have hd : v / 3 ^ k < 1000000 := Nat.lt_of_le_of_lt (Nat.div_le_self _ _) hv
      simp only [c1, ↓reduceIte]
      rw [zz_3, zz_div (by omega) (by omega) (by omega), Nat.div_div_eq_div_mul, ← Nat.pow_succ, show T - 1 - k = (T - 1 - (k + 1)) + 1 by omega, zz_pred]
    · dsimp only
      unfold sX7_figure_7
      have c1 : nI (T - 1 - (T - 1 - t)) ≤ nI t := by rw [zz_le (by omega) (by omega)]; omega
      simp only [c1, ↓reduceIte]
  have hd : v / 3 ^ (T - 1 - t) < 1000000 := Nat.lt_of_le_of_lt (Nat.div_le_self _ _) hv
  rw [e, Option.bind_some, zz_3, zz_rem (by omega) (by omega) (by omega)]
  rfl
theorem cDee_lt {C E : Nat → Nat} {y s : Nat} (hs : s < C 1) : ∀ k, cDee C E y k s < C 1
  | 0 => hs
  | k + 1 => by
    unfold cDee
    by_cases h : E (2 * k) = y ∧ C (47 + 2 * E (2 * k + 1)) = cDee C E y k s ∧ C (48 + 2 * E (2 * k + 1)) < C 1
    · rw [if_pos h]; exact h.2.2
    · rw [if_neg h]; exact cDee_lt hs k
theorem cBec_lt {C : Nat → Nat} {s v : Nat} (hs : s < C 1) : cBec C s v < C 1 := by
  unfold cBec
  by_cases h : C (10 + 5 * s + v) < C 1
  · rw [if_pos h]; exact h
  · rw [if_neg h]; exact hs
theorem cSelf_lt {C : Nat → Nat} {m : Nat} {E : Nat → Nat} {v a : Nat} (ha : a < C 1) : ∀ y, cSelf C m E v a y < C 1
  | 0 => cDee_lt ha m
  | y + 1 => cDee_lt (cBec_lt (cSelf_lt ha y)) m
theorem cFig_lt (v t T : Nat) : cFig v t T < 3 := Nat.mod_lt _ (by omega)
theorem cVy_lt {C : Nat → Nat} {v y : Nat} : ∀ t, cVy C v y t < 3
  | 0 => by unfold cVy; omega
  | t + 1 => by
    unfold cVy
    by_cases h : C (38 + 3 * t) = y
    · rw [if_pos h]; exact cFig_lt _ _ _
    · rw [if_neg h]; exact cVy_lt t
theorem zz_mdee {C : Nat → Nat} {m : Nat} {E : Nat → Nat} {gl gd : Nat → Int32} {y s : Nat} (h : MC C m E gl gd) (hy : y < 100) (hs : s < C 1) : lpd (fun s5 => sX7_goes_112 (nI y) (nI m) gl gd s5.1 s5.2) FU (nI s, 0) = some (nI (cDee C E y m s)) := by
  obtain ⟨hO, hl, hm, hE, hg⟩ := h
  have hS6 : C 1 ≤ 6 := hO.2.2.1
  have hD4 : C 5 ≤ 4 := hO.2.2.2.2.2.2.2.1
  have hdd := hO.2.2.2.2.2.2.2.2.2.2.2
  have h := lpd_run (st := fun s5 => sX7_goes_112 (nI y) (nI m) gl gd s5.1 s5.2) (fun k => (nI (cDee C E y k s), nI k)) (nI (cDee C E y m s)) m FU (FU_lt (by omega)) (fun k hk => ?_) ?_
  · exact h
  · dsimp only
    unfold sX7_goes_112
    have c1 : ¬ nI m ≤ nI k := by rw [zz_le (by omega) (by omega)]; omega
    have e2 : 2 * nI k = nI (2 * k) := by rw [zz_2, zz_mul]
    have e3 : nI (2 * k) + 1 = nI (2 * k + 1) := by rw [zz_1, zz_add]
    have c2 : inb (nI (2 * k)) 16 = true := by rw [zz_inbt (by omega)]; omega
    have c3 : inb (nI (2 * k + 1)) 16 = true := by rw [zz_inbt (by omega)]; omega
    obtain ⟨q1, q2⟩ := hE k hk
    obtain ⟨w1, w2⟩ := hdd (E (2 * k + 1)) q2
    have e4 : (47 : Int32) + 2 * nI (E (2 * k + 1)) = nI (47 + 2 * E (2 * k + 1)) := by rw [show (47 : Int32) = nI 47 from rfl, zz_2, zz_mul, zz_add]
    have e5 : nI (47 + 2 * E (2 * k + 1)) + 1 = nI (48 + 2 * E (2 * k + 1)) := by rw [zz_1, zz_add]; congr 1; omega
    have c4 : inb (nI (47 + 2 * E (2 * k + 1))) 55 = true := by rw [zz_inbt (by omega)]; omega
    have c5 : inb (nI (48 + 2 * E (2 * k + 1))) 55 = true := by rw [zz_inbt (by omega)]; omega
    have hlt := cDee_lt (E := E) (y := y) hs k
    have ez : ¬ (1 : Int32) = 0 := by decide
    have hY16 : C 0 ≤ 16 := hO.2.1
    simp only [jn, c1, c2, c3, c4, c5, e2, e3, zz_cl (show 2 * k < 2147483648 by omega), zz_cl (show 2 * k + 1 < 2147483648 by omega), hg (2 * k) (by omega), hg (2 * k + 1) (by omega), e4, e5, zz_cl (show 47 + 2 * E (2 * k + 1) < 2147483648 by omega), zz_cl (show 48 + 2 * E (2 * k + 1) < 2147483648 by omega), hl (47 + 2 * E (2 * k + 1)) (by omega), hl (48 + 2 * E (2 * k + 1)) (by omega), zz_eq (show E (2 * k) < 2147483648 by omega) (show y < 2147483648 by omega), zz_eq (show C (47 + 2 * E (2 * k + 1)) < 2147483648 by omega) (show cDee C E y k s < 2147483648 by omega), zz_mS hl hS6, Option.bind_some, zz_ti (show C (48 + 2 * E (2 * k + 1)) < 2147483648 by omega), ez, ↓reduceIte]
    rw [show cDee C E y (k + 1) s = if E (2 * k) = y ∧ C (47 + 2 * E (2 * k + 1)) = cDee C E y k s ∧ C (48 + 2 * E (2 * k + 1)) < C 1 then C (48 + 2 * E (2 * k + 1)) else cDee C E y k s from rfl]
    by_cases a1 : E (2 * k) = y
    · by_cases a2 : C (47 + 2 * E (2 * k + 1)) = cDee C E y k s
      · by_cases a3 : C (48 + 2 * E (2 * k + 1)) < C 1
        · have e : decide (0 ≤ (C (48 + 2 * E (2 * k + 1)) : Int) ∧ (C (48 + 2 * E (2 * k + 1)) : Int) < (C 1 : Int)) = true := decide_eq_true (by omega)
          simp only [a1, a2, a3, e, zz_bt, and_self, ↓reduceIte]
          rw [zz_1, zz_add]
        · have e : decide (0 ≤ (C (48 + 2 * E (2 * k + 1)) : Int) ∧ (C (48 + 2 * E (2 * k + 1)) : Int) < (C 1 : Int)) = false := decide_eq_false (by omega)
          simp only [a1, a2, a3, e, zz_bf, and_false, ↓reduceIte]
          rw [zz_1, zz_add]
      · simp only [a1, a2, false_and, and_false, ↓reduceIte]
        rw [zz_1, zz_add]
    · simp only [a1, false_and, ↓reduceIte]
      rw [zz_1, zz_add]
  · dsimp only
    unfold sX7_goes_112
    have c1 : nI m ≤ nI m := by rw [zz_le (by omega) (by omega)]; omega
    simp only [c1, ↓reduceIte]
theorem zz_mvy {C : Nat → Nat} {gl : Nat → Int32} {v y : Nat} (hO : OKC C) (hl : ∀ i, i < 55 → gl i = nI (C i)) (hv : v < 1000000) (hy : y < 100) : lpd (fun s21 => sX7_goes_27 (nI v) (nI (y + 1)) gl s21.1 s21.2) FU (0, 0) = some (nI (cVy C v y (C 3))) := by
  have hT3 : C 3 ≤ 3 := hO.2.2.2.2.1
  have hY16 : C 0 ≤ 16 := hO.2.1
  have htt := hO.2.2.2.2.2.2.2.2.2.1
  have i3 : inb 3 55 = true := by decide
  have h := lpd_run (st := fun s21 => sX7_goes_27 (nI v) (nI (y + 1)) gl s21.1 s21.2) (fun k => (nI (cVy C v y k), nI k)) (nI (cVy C v y (C 3))) (C 3) FU (FU_lt (by omega)) (fun k hk => ?_) ?_
  · exact h
  · dsimp only
    unfold sX7_goes_27
    have c1 : ¬ nI (C 3) ≤ nI k := by rw [zz_le (by omega) (by omega)]; omega
    have e2 : (38 : Int32) + 3 * nI k = nI (38 + 3 * k) := by rw [show (38 : Int32) = nI 38 from rfl, zz_3, zz_mul, zz_add]
    have c2 : inb (nI (38 + 3 * k)) 55 = true := by rw [zz_inbt (by omega)]; omega
    have e3 : nI (y + 1) - 1 = nI y := by rw [zz_1, zz_sub (by omega)]; congr 1
    have hb := htt k hk
    simp only [i3, zz_c3, hl 3 (by omega), c1, e2, c2, e3, zz_cl (show 38 + 3 * k < 2147483648 by omega), hl (38 + 3 * k) (by omega), zz_eq (show C (38 + 3 * k) < 2147483648 by omega) (show y < 2147483648 by omega), zz_figure hv hk hT3, Option.bind_some, ↓reduceIte]
    rw [show cVy C v y (k + 1) = if C (38 + 3 * k) = y then cFig v k (C 3) else cVy C v y k from rfl]
    by_cases a1 : C (38 + 3 * k) = y
    · simp only [a1, ↓reduceIte]
      rw [zz_1, zz_add]
    · simp only [a1, ↓reduceIte]
      rw [zz_1, zz_add]
  · dsimp only
    unfold sX7_goes_27
    have c1 : nI (C 3) ≤ nI (C 3) := by rw [zz_le (by omega) (by omega)]; omega
    simp only [i3, zz_c3, hl 3 (by omega), c1, ↓reduceIte]
