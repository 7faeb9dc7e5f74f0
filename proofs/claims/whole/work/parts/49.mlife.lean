/-! The reference: who one is, words, rows, lives. -/
theorem zz_mgoes {C : Nat → Nat} {m : Nat} {E : Nat → Nat} {gl gd sel : Nat → Int32} {v a : Nat} (h : MC C m E gl gd) (hv : v < 1000000) (ha : a < C 1) : fX7_goes (nI v) (nI a) (nI m) gl gd sel = some (cpTo sel (fun i => nI (cSelf C m E v a i)) (C 0)) := by
  have hMC := h
  obtain ⟨hO, hl, hm, hE, hg⟩ := h
  have hS6 : C 1 ≤ 6 := hO.2.2.1
  have hY16 : C 0 ≤ 16 := hO.2.1
  have hss := hO.2.2.2.2.2.2.2.2.1
  have i0 : inb 0 55 = true := by decide
  unfold fX7_goes
  have e : lpd (fun s1 => sX7_goes_5 (nI v) (nI m) gl gd s1.1 s1.2.1 s1.2.2) FU (nI a, 0, sel) = some (cpTo sel (fun i => nI (cSelf C m E v a i)) (C 0)) := by
    have h := lpd_run (st := fun s1 => sX7_goes_5 (nI v) (nI m) gl gd s1.1 s1.2.1 s1.2.2) (fun k => (nI (if k = 0 then a else cSelf C m E v a (k - 1)), nI k, cpTo sel (fun i => nI (cSelf C m E v a i)) k)) (cpTo sel (fun i => nI (cSelf C m E v a i)) (C 0)) (C 0) FU (FU_lt (by omega)) (fun k hk => ?_) ?_
    · rw [cpTo_0] at h
      exact h
    · dsimp only
      unfold sX7_goes_5
      have c1 : ¬ nI (C 0) ≤ nI k := by rw [zz_le (by omega) (by omega)]; omega
      have c2 : inb (nI k) 16 = true := by rw [zz_inbt (by omega)]; omega
      by_cases hk0 : k = 0
      · subst hk0
        have c3 : nI 0 ≤ 0 := by decide
        simp only [jn, i0, zz_c0, hl 0 (by omega), c1, c2, c3, ↓reduceIte, zz_mdee hMC (show (0 : Nat) < 100 by omega) ha, Option.bind_some, zz_cl (show (0 : Nat) < 2147483648 by omega)]
        rw [zz_1, zz_add, ← cpTo_s]
        rfl
      · obtain ⟨y, rfl⟩ : ∃ y, k = y + 1 := ⟨k - 1, by omega⟩
        have c3 : ¬ nI (y + 1) ≤ 0 := by rw [zz_0, zz_le (by omega) (by omega)]; omega
        have hsl := cSelf_lt (C := C) (m := m) (E := E) (v := v) ha y
        have hvy := cVy_lt (C := C) (v := v) (y := y) (C 3)
        have e2 : (2 : Int32) + nI (cVy C v y (C 3)) = nI (2 + cVy C v y (C 3)) := by rw [zz_2, zz_add]
        have hof := zz_of (s := cSelf C m E v a y) (w := 2 + cVy C v y (C 3)) hl (by omega) (by omega)
        have hb5 := (hss _ hsl).2.2 _ hvy
        have e6 : 8 + 5 * cSelf C m E v a y + (2 + cVy C v y (C 3)) = 10 + 5 * cSelf C m E v a y + cVy C v y (C 3) := by omega
        rw [e6] at hof
        have key : ∀ w, w < C 1 → (lpd (fun s5 => sX7_goes_112 (nI (y + 1)) (nI m) gl gd s5.1 s5.2) FU (nI w, 0)) = some (nI (cDee C E (y + 1) m w)) := fun w hw => zz_mdee hMC (by omega) hw
        simp only [jn, i0, zz_c0, hl 0 (by omega), c1, c2, c3, hk0, ↓reduceIte, zz_mvy hO hl hv (show y < 100 by omega), Option.bind_some, e2, Nat.add_sub_cancel, hof, zz_mS hl hS6, zz_ti (show C (10 + 5 * cSelf C m E v a y + cVy C v y (C 3)) < 2147483648 by omega), zz_cl (show y + 1 < 2147483648 by omega)]
        have hb : (if bI (decide (0 ≤ (C (10 + 5 * cSelf C m E v a y + cVy C v y (C 3)) : Int) ∧ (C (10 + 5 * cSelf C m E v a y + cVy C v y (C 3)) : Int) < (C 1 : Int))) = 0 then nI (cSelf C m E v a y) else nI (C (10 + 5 * cSelf C m E v a y + cVy C v y (C 3)))) = nI (cBec C (cSelf C m E v a y) (cVy C v y (C 3))) := by
          unfold cBec
          by_cases a1 : C (10 + 5 * cSelf C m E v a y + cVy C v y (C 3)) < C 1
          · have e : decide (0 ≤ (C (10 + 5 * cSelf C m E v a y + cVy C v y (C 3)) : Int) ∧ (C (10 + 5 * cSelf C m E v a y + cVy C v y (C 3)) : Int) < (C 1 : Int)) = true := decide_eq_true (by omega)
            simp only [e, a1, zz_bt, ↓reduceIte]
          · have e : decide (0 ≤ (C (10 + 5 * cSelf C m E v a y + cVy C v y (C 3)) : Int) ∧ (C (10 + 5 * cSelf C m E v a y + cVy C v y (C 3)) : Int) < (C 1 : Int)) = false := decide_eq_false (by omega)
            simp only [e, a1, zz_bf, ↓reduceIte]
        have hbl := cBec_lt (C := C) (v := cVy C v y (C 3)) hsl
        have fin : ∀ x, x = nI (cBec C (cSelf C m E v a y) (cVy C v y (C 3))) → ((lpd (fun s5 => sX7_goes_112 (nI (y + 1)) (nI m) gl gd s5.1 s5.2) FU (x, 0)).bind (fun (y5_0 : Int32) => some (Sum.inl (y5_0, nI (y + 1) + 1, upd (cpTo sel (fun i => nI (cSelf C m E v a i)) (y + 1)) (y + 1) y5_0)))) = (some (Sum.inl (nI (cSelf C m E v a (y + 1)), nI (y + 1 + 1), cpTo sel (fun i => nI (cSelf C m E v a i)) (y + 1 + 1))) : Option ((Int32 × Int32 × (Nat → Int32)) ⊕ (Nat → Int32))) := by
          intro x hx
          rw [hx, key _ hbl, Option.bind_some, zz_1, zz_add, ← cpTo_s sel (fun i => nI (cSelf C m E v a i)) (y + 1)]
          rfl
        by_cases a1 : bI (decide (0 ≤ (C (10 + 5 * cSelf C m E v a y + cVy C v y (C 3)) : Int) ∧ (C (10 + 5 * cSelf C m E v a y + cVy C v y (C 3)) : Int) < (C 1 : Int))) = 0
        · rw [if_pos a1] at hb
          rw [if_pos a1]
          exact fin _ hb
        · rw [if_neg a1] at hb
          rw [if_neg a1]
          exact fin _ hb
    · dsimp only
      unfold sX7_goes_5
      have c1 : nI (C 0) ≤ nI (C 0) := by rw [zz_le (by omega) (by omega)]; omega
      simp only [i0, zz_c0, hl 0 (by omega), c1, ↓reduceIte]
  rw [e]; rfl
theorem cSum_le {C S : Nat → Nat} {a : Nat} (hl : ∀ y, C (8 + 5 * S y) ≤ 18) : ∀ k, cSum C S a k ≤ 9 * k ∧ -9 * (k : Int) ≤ cSum C S a k
  | 0 => by unfold cSum; omega
  | k + 1 => by
    have ih := cSum_le (a := a) hl k
    have h1 := hl (a + k)
    unfold cSum
    by_cases h : C (9 + 5 * S (a + k)) = 0
    · rw [if_pos h]; omega
    · rw [if_neg h]; omega
theorem cCnt_le {C S : Nat → Nat} {a : Nat} : ∀ k, cCnt C S a k ≤ k
  | 0 => by unfold cCnt; omega
  | k + 1 => by
    have ih := cCnt_le (C := C) (S := S) (a := a) k
    unfold cCnt
    by_cases h : C (9 + 5 * S (a + k)) = 0
    · rw [if_pos h]; omega
    · rw [if_neg h]; omega
/-- a small whole number -/
def iI (z : Int) : Int32 := Int32.ofInt z
theorem iI_ti {z : Int} (h1 : -1000000 ≤ z) (h2 : z ≤ 1000000) : (iI z).toInt = z := Int32.toInt_ofInt_of_le (by omega) (by omega)
theorem iI_add (a b : Int) : iI a + iI b = iI (a + b) := (Int32.ofInt_add a b).symm
theorem iI_n (n : Nat) : nI n = iI n := rfl
theorem iI_l (n : Nat) : nI n - 9 = iI ((n : Int) - 9) := by
  rw [iI_n, show (9 : Int32) = iI 9 from rfl]
  exact (Int32.ofInt_sub _ _).symm
theorem iI_neg {z : Int} (h1 : -1000000 ≤ z) (h2 : z ≤ 1000000) : (iI z < 0) = (z < 0) := by
  rw [zz_lti, zz_e0, iI_ti h1 h2]
theorem zz_mword {C : Nat → Nat} {gl sel : Nat → Int32} {Z : Nat → Nat} {q t : Nat} (hO : OKC C) (hl : ∀ i, i < 55 → gl i = nI (C i)) (hZ : ∀ y, y < C 0 → sel y = nI (Z y)) (hz : ∀ y, Z y < C 1) (hq : q < 1000) (ht : t < C 3) : fX7_word (nI t) (nI q) gl sel = some (nI (cWord C Z q t)) := by
  have hS6 : C 1 ≤ 6 := hO.2.2.1
  have hT3 : C 3 ≤ 3 := hO.2.2.2.2.1
  have hY16 : C 0 ≤ 16 := hO.2.1
  have hss := hO.2.2.2.2.2.2.2.2.1
  obtain ⟨b1, b2, b3⟩ := hO.2.2.2.2.2.2.2.2.2.1 t ht
  unfold fX7_word
  have e1 : (38 : Int32) + 3 * nI t + 1 = nI (39 + 3 * t) := by rw [show (38 : Int32) = nI 38 from rfl, zz_3, zz_mul, zz_1, zz_add, zz_add]; congr 1; omega
  have e2 : (38 : Int32) + 3 * nI t + 2 = nI (40 + 3 * t) := by rw [show (38 : Int32) = nI 38 from rfl, zz_3, zz_mul, zz_2, zz_add, zz_add]; congr 1; omega
  have c1 : inb (nI (39 + 3 * t)) 55 = true := by rw [zz_inbt (by omega)]; omega
  have c2 : inb (nI (40 + 3 * t)) 55 = true := by rw [zz_inbt (by omega)]; omega
  have hlean : ∀ y, C (8 + 5 * Z y) ≤ 18 := fun y => (hss _ (hz y)).1
  have e : lpd (fun s2 => sX7_word_20 (nI t) gl sel s2.1 s2.2.1 s2.2.2) FU (0, 0, nI (C (39 + 3 * t))) = some (nI (cCnt C Z (C (39 + 3 * t)) (C (40 + 3 * t) + 1 - C (39 + 3 * t))), iI (cSum C Z (C (39 + 3 * t)) (C (40 + 3 * t) + 1 - C (39 + 3 * t)))) := by
    have h := lpd_run (st := fun s2 => sX7_word_20 (nI t) gl sel s2.1 s2.2.1 s2.2.2) (fun k => (nI (cCnt C Z (C (39 + 3 * t)) k), iI (cSum C Z (C (39 + 3 * t)) k), nI (C (39 + 3 * t) + k))) (nI (cCnt C Z (C (39 + 3 * t)) (C (40 + 3 * t) + 1 - C (39 + 3 * t))), iI (cSum C Z (C (39 + 3 * t)) (C (40 + 3 * t) + 1 - C (39 + 3 * t)))) (C (40 + 3 * t) + 1 - C (39 + 3 * t)) FU (FU_lt (by omega)) (fun k hk => ?_) ?_
    · exact h
    · dsimp only
      unfold sX7_word_20
      have d1 : ¬ nI (C (40 + 3 * t)) < nI (C (39 + 3 * t) + k) := by rw [zz_lt (by omega) (by omega)]; omega
      have d2 : inb (nI (C (39 + 3 * t) + k)) 16 = true := by rw [zz_inbt (by omega)]; omega
      have hsy := hZ (C (39 + 3 * t) + k) (by omega)
      have hzy := hz (C (39 + 3 * t) + k)
      have hd1 := (hss _ hzy).2.1
      have hof : fX7_of (nI (Z (C (39 + 3 * t) + k))) 1 gl = some (nI (C (9 + 5 * Z (C (39 + 3 * t) + k)))) := by
        have := zz_of (s := Z (C (39 + 3 * t) + k)) (w := 1) hl (by omega) (by omega)
        rw [show 8 + 5 * Z (C (39 + 3 * t) + k) + 1 = 9 + 5 * Z (C (39 + 3 * t) + k) by omega] at this
        exact this
      have ez : ¬ (1 : Int32) = 0 := by decide
      have ea : (nI (C (9 + 5 * Z (C (39 + 3 * t) + k))) = 0) = (C (9 + 5 * Z (C (39 + 3 * t) + k)) = 0) := by rw [zz_0, zz_eq (by omega) (by omega)]
      simp only [jn, e2, c2, zz_cl (show 40 + 3 * t < 2147483648 by omega), hl (40 + 3 * t) (by omega), d1, d2, zz_cl (show C (39 + 3 * t) + k < 2147483648 by omega), hsy, hof, Option.bind_some, ea, ↓reduceIte, zz_lean hl (show Z (C (39 + 3 * t) + k) < 6 by omega)]
      rw [show cCnt C Z (C (39 + 3 * t)) (k + 1) = if C (9 + 5 * Z (C (39 + 3 * t) + k)) = 0 then cCnt C Z (C (39 + 3 * t)) k + 1 else cCnt C Z (C (39 + 3 * t)) k from rfl, show cSum C Z (C (39 + 3 * t)) (k + 1) = if C (9 + 5 * Z (C (39 + 3 * t) + k)) = 0 then cSum C Z (C (39 + 3 * t)) k + ((C (8 + 5 * Z (C (39 + 3 * t) + k)) : Int) - 9) else cSum C Z (C (39 + 3 * t)) k from rfl]
      by_cases a1 : C (9 + 5 * Z (C (39 + 3 * t) + k)) = 0
      · simp only [a1, ez, ↓reduceIte]
        rw [zz_1, zz_add, zz_add, iI_l, iI_add]
        rfl
      · simp only [a1, ↓reduceIte]
        rw [zz_1, zz_add, Int32.add_zero, Int32.add_zero]
        rfl
    · dsimp only
      unfold sX7_word_20
      have d1 : nI (C (40 + 3 * t)) < nI (C (39 + 3 * t) + (C (40 + 3 * t) + 1 - C (39 + 3 * t))) := by rw [zz_lt (by omega) (by omega)]; omega
      simp only [e2, c2, zz_cl (show 40 + 3 * t < 2147483648 by omega), hl (40 + 3 * t) (by omega), d1, ↓reduceIte]
  have hs := cSum_le (a := C (39 + 3 * t)) hlean (C (40 + 3 * t) + 1 - C (39 + 3 * t))
  have hc := cCnt_le (C := C) (S := Z) (a := C (39 + 3 * t)) (C (40 + 3 * t) + 1 - C (39 + 3 * t))
  simp only [e1, c1, zz_cl (show 39 + 3 * t < 2147483648 by omega), hl (39 + 3 * t) (by omega), e, Option.bind_some, ↓reduceIte, zz_le (show q < 2147483648 by omega) (show cCnt C Z (C (39 + 3 * t)) (C (40 + 3 * t) + 1 - C (39 + 3 * t)) < 2147483648 by omega), iI_neg (z := cSum C Z (C (39 + 3 * t)) (C (40 + 3 * t) + 1 - C (39 + 3 * t))) (by omega) (by omega)]
  unfold cWord
  by_cases a1 : q ≤ cCnt C Z (C (39 + 3 * t)) (C (40 + 3 * t) + 1 - C (39 + 3 * t))
  · have a2 : ¬ cCnt C Z (C (39 + 3 * t)) (C (40 + 3 * t) + 1 - C (39 + 3 * t)) < q := by omega
    by_cases a3 : cSum C Z (C (39 + 3 * t)) (C (40 + 3 * t) + 1 - C (39 + 3 * t)) < 0
    · have a4 : ¬ 0 ≤ cSum C Z (C (39 + 3 * t)) (C (40 + 3 * t) + 1 - C (39 + 3 * t)) := by omega
      simp only [a1, a2, a3, a4, ↓reduceIte]; rfl
    · have a4 : 0 ≤ cSum C Z (C (39 + 3 * t)) (C (40 + 3 * t) + 1 - C (39 + 3 * t)) := by omega
      simp only [a1, a2, a3, a4, ↓reduceIte]; rfl
  · have a2 : cCnt C Z (C (39 + 3 * t)) (C (40 + 3 * t) + 1 - C (39 + 3 * t)) < q := by omega
    simp only [a1, a2, ↓reduceIte]; rfl
