/-! The reference: words together, rows, is it a life. -/
theorem cWord_lt {C Z : Nat → Nat} {q t : Nat} : cWord C Z q t < 3 := by
  unfold cWord
  by_cases a1 : cCnt C Z (C (39 + 3 * t)) (C (40 + 3 * t) + 1 - C (39 + 3 * t)) < q
  · rw [if_pos a1]; omega
  · rw [if_neg a1]
    by_cases a2 : 0 ≤ cSum C Z (C (39 + 3 * t)) (C (40 + 3 * t) + 1 - C (39 + 3 * t))
    · rw [if_pos a2]; omega
    · rw [if_neg a2]; omega
theorem cWords_lt {C Z : Nat → Nat} {q : Nat} : ∀ t, cWords C Z q t < 3 ^ t
  | 0 => by unfold cWords; omega
  | t + 1 => by
    have ih := cWords_lt (C := C) (Z := Z) (q := q) t
    have hw := cWord_lt (C := C) (Z := Z) (q := q) (t := t)
    unfold cWords
    rw [Nat.pow_succ]
    omega
theorem zz_p3 {t : Nat} (h : t ≤ 3) : 3 ^ t ≤ 27 := by
  have : t = 0 ∨ t = 1 ∨ t = 2 ∨ t = 3 := by omega
  rcases this with rfl | rfl | rfl | rfl <;> decide
theorem zz_mwords {C : Nat → Nat} {gl sel : Nat → Int32} {Z : Nat → Nat} {q : Nat} (hO : OKC C) (hl : ∀ i, i < 55 → gl i = nI (C i)) (hZ : ∀ y, y < C 0 → sel y = nI (Z y)) (hz : ∀ y, Z y < C 1) (hq : q < 1000) : fX7_words (nI q) gl sel = some (nI (cWords C Z q (C 3))) := by
  have hT3 : C 3 ≤ 3 := hO.2.2.2.2.1
  have i3 : inb 3 55 = true := by decide
  unfold fX7_words
  have e : lpd (fun s1 => sX7_words_4 (nI q) gl sel s1.1 s1.2) FU (0, 0) = some (nI (cWords C Z q (C 3))) := by
    have h := lpd_run (st := fun s1 => sX7_words_4 (nI q) gl sel s1.1 s1.2) (fun k => (nI (cWords C Z q k), nI k)) (nI (cWords C Z q (C 3))) (C 3) FU (FU_lt (by omega)) (fun k hk => ?_) ?_
    · exact h
    · dsimp only
      unfold sX7_words_4
      have c1 : ¬ nI (C 3) ≤ nI k := by rw [zz_le (by omega) (by omega)]; omega
      simp only [i3, zz_c3, hl 3 (by omega), c1, zz_mword hO hl hZ hz hq hk, Option.bind_some, ↓reduceIte]
      rw [zz_3, zz_mul, zz_add, zz_1, zz_add]
      rfl
    · dsimp only
      unfold sX7_words_4
      have c1 : nI (C 3) ≤ nI (C 3) := by rw [zz_le (by omega) (by omega)]; omega
      simp only [i3, zz_c3, hl 3 (by omega), c1, ↓reduceIte]
  rw [e]; rfl
theorem zz_mrows {C : Nat → Nat} {gl : Nat → Int32} (hO : OKC C) (hl : ∀ i, i < 55 → gl i = nI (C i)) : fX7_rows gl = some (nI (cRows C)) := by
  have hT3 : C 3 ≤ 3 := hO.2.2.2.2.1
  have hS6 : C 1 ≤ 6 := hO.2.2.1
  have i3 : inb 3 55 = true := by decide
  have i1 : inb 1 55 = true := by decide
  have e : ∀ w, w < 2 → lpd (fun s3 => sX7_rows_17 gl s3.1 s3.2) FU (nI w, 0) = some (nI (w * 3 ^ C 3)) := by
    intro w hw
    have h := lpd_run (st := fun s3 => sX7_rows_17 gl s3.1 s3.2) (fun k => (nI (w * 3 ^ k), nI k)) (nI (w * 3 ^ C 3)) (C 3) FU (FU_lt (by omega)) (fun k hk => ?_) ?_
    · rw [Nat.pow_zero, Nat.mul_one] at h
      exact h
    · dsimp only
      unfold sX7_rows_17
      have c1 : ¬ nI (C 3) ≤ nI k := by rw [zz_le (by omega) (by omega)]; omega
      simp only [i3, zz_c3, hl 3 (by omega), c1, ↓reduceIte]
      rw [zz_3, zz_mul, zz_1, zz_add, Nat.pow_succ, Nat.mul_assoc]
    · dsimp only
      unfold sX7_rows_17
      have c1 : nI (C 3) ≤ nI (C 3) := by rw [zz_le (by omega) (by omega)]; omega
      simp only [i3, zz_c3, hl 3 (by omega), c1, ↓reduceIte]
  have e0 := e 0 (by omega)
  have e1 := e 1 (by omega)
  rw [← zz_0] at e0
  rw [← zz_1] at e1
  unfold fX7_rows cRows jn
  have ez : (nI (C 1) = 0) = (C 1 = 0) := by rw [zz_0, zz_eq (by omega) (by omega)]
  simp only [i1, zz_c1, hl 1 (by omega), ez, e0, e1, Option.bind_some, ↓reduceIte]
  by_cases h : C 1 = 0
  · simp only [h, ↓reduceIte, Nat.zero_mul]
  · simp only [h, ↓reduceIte, Nat.one_mul]
theorem zz_mlife {C : Nat → Nat} {m : Nat} {E : Nat → Nat} {gl gd sel : Nat → Int32} {v a q : Nat} (h : MC C m E gl gd) (hv : v < 1000000) (ha : a < C 1) (hq : q < 1000) : ∃ b : Bool, (b = true ↔ cLife C m E a q v) ∧ fX7_isLife (nI v) (nI a) (nI q) (nI m) gl gd sel = some (b, cpTo sel (fun i => nI (cSelf C m E v a i)) (C 0)) := by
  have hMC := h
  obtain ⟨hO, hl, hm, hE, hg⟩ := h
  have hT3 : C 3 ≤ 3 := hO.2.2.2.2.1
  unfold fX7_isLife
  have hw := cWords_lt (C := C) (Z := cSelf C m E v a) (q := q) (C 3)
  have hp := zz_p3 hT3
  have hsel : ∀ y, y < C 0 → cpTo sel (fun i => nI (cSelf C m E v a i)) (C 0) y = nI (cSelf C m E v a y) := fun y hy => if_pos hy
  have hwd := zz_mwords (sel := cpTo sel (fun i => nI (cSelf C m E v a i)) (C 0)) (Z := cSelf C m E v a) hO hl hsel (cSelf_lt ha) hq
  simp only [zz_mgoes hMC hv ha, Option.bind_some, hwd, zz_eq (show cWords C (cSelf C m E v a) q (C 3) < 2147483648 by omega) (show v < 2147483648 by omega)]
  by_cases hb : cWords C (cSelf C m E v a) q (C 3) = v
  · simp only [hb, ↓reduceIte]
    exact ⟨true, ⟨fun _ => hb, fun _ => rfl⟩, rfl⟩
  · simp only [hb, ↓reduceIte]
    exact ⟨false, ⟨fun h => (by cases h), fun h => absurd h hb⟩, rfl⟩
