/-! saw, count, mark; the beginning. -/
theorem p_saw {C : Nat → Nat} {ty ts tb tt td tq js gs a1 a2 : Int32} {tl tz tc tY tA tB tF tG gl jy jz gy gz : Nat → Int32} (h : IC C ty ts tb tt td tq tl tz tc tY tA tB tF tG gl) (hs : SR C js jy jz gs gy gz) : ∃ (o1 o2 : Int32 × Int32 × (Nat → Int32) × (Nat → Int32)), fX6_saw a1 a2 js jy jz ty ts = some o1 ∧ fX7_saw a1 a2 gs gl gy gz = some o2 ∧ o1.1 = o2.1 ∧ SR C o1.2.1 o1.2.2.1 o1.2.2.2 o2.2.1 o2.2.2.1 o2.2.2.2 := by
  obtain ⟨hO, hl, hty, hts, -⟩ := h
  have hS6 : C 1 ≤ 6 := hO.2.2.1
  have hY16 : C 0 ≤ 16 := hO.2.1
  obtain ⟨rfl, k, hk, rfl, hsr⟩ := hs
  unfold fX6_saw fX7_saw
  simp only [hty, hts, zz_isY (show C 0 < 2147483648 by omega), zz_isS (show C 1 < 2147483648 by omega), zz_mY hl hY16, zz_mS hl hS6, Option.bind_some]
  rcases zz_cs a1 (C 0) (by omega) with ⟨y, hy, rfl, h1, -⟩ | ⟨h1, -⟩
  · rcases zz_cs a2 (C 1) (by omega) with ⟨z, hz, rfl, h2, -⟩ | ⟨h2, -⟩
    · simp only [h1, h2, zz_bt, ↓reduceIte]
      by_cases h6 : k = 6
      · subst h6
        have c1 : ¬ nI 6 < 6 := by decide
        have c2 : nI 6 = 6 := rfl
        simp only [c1, c2, ↓reduceIte]
        exact ⟨_, _, rfl, rfl, rfl, rfl, 6, by omega, rfl, hsr⟩
      · have c1 : nI k < 6 := by rw [zz_6, zz_lt (by omega) (by omega)]; omega
        have c2 : ¬ nI k = 6 := by rw [zz_6, zz_eq (by omega) (by omega)]; exact h6
        have c3 : inb (nI k) 6 = true := by rw [zz_inbt (by omega)]; omega
        simp only [c1, c2, c3, ↓reduceIte, zz_cl (show k < 2147483648 by omega)]
        refine ⟨_, _, rfl, rfl, rfl, rfl, k + 1, by omega, by dsimp only; rw [zz_1, zz_add], fun i hi => ?_⟩
        dsimp only
        by_cases hik : i = k
        · subst hik
          exact ⟨y, z, hy, hz, pk_us, pk_us, pk_us, pk_us⟩
        · rw [pk_un hik, pk_un hik, pk_un hik, pk_un hik]
          exact hsr i (by omega)
    · simp only [h1, h2, zz_bt, zz_bf, ↓reduceIte]
      exact ⟨_, _, rfl, rfl, rfl, rfl, k, hk, rfl, hsr⟩
  · simp only [h1, zz_bf, ↓reduceIte]
    exact ⟨_, _, rfl, rfl, rfl, rfl, k, hk, rfl, hsr⟩
theorem zz_begC {C : Nat → Nat} {ty ts tb tt td tq : Int32} {tl tz tc tY tA tB tF tG gl : Nat → Int32} (h : IC C ty ts tb tt td tq tl tz tc tY tA tB tF tG gl) : fX5_beginning ts tb = some (nI (cBeg C)) := by
  obtain ⟨hO, hl, hty, hts, htb, -⟩ := h
  have hS6 : C 1 ≤ 6 := hO.2.2.1
  have hb5 : C 2 ≤ 5 := hO.2.2.2.1
  unfold fX5_beginning cBeg
  simp only [hts, htb, zz_le (show C 1 < 2147483648 by omega) (show C 2 < 2147483648 by omega)]
  by_cases h1 : C 1 ≤ C 2
  · have : ¬ C 2 < C 1 := by omega
    simp only [h1, this, ↓reduceIte]; rfl
  · have : C 2 < C 1 := by omega
    simp only [h1, this, ↓reduceIte]
theorem zz_begM {C : Nat → Nat} {gl : Nat → Int32} (hO : OKC C) (hl : ∀ i, i < 55 → gl i = nI (C i)) : fX7_beginning gl = some (nI (cBeg C)) := by
  have hS6 : C 1 ≤ 6 := hO.2.2.1
  have hb5 : C 2 ≤ 5 := hO.2.2.2.1
  unfold fX7_beginning cBeg
  have i2 : inb 2 55 = true := by decide
  simp only [i2, zz_c2, hl 2 (by omega), zz_mS hl hS6, Option.bind_some, ↓reduceIte, zz_ti (show C 2 < 2147483648 by omega)]
  by_cases h1 : C 2 < C 1
  · have e : decide (0 ≤ (C 2 : Int) ∧ (C 2 : Int) < (C 1 : Int)) = true := decide_eq_true (by omega)
    simp only [e, h1, zz_bt, ↓reduceIte]
  · have e : decide (0 ≤ (C 2 : Int) ∧ (C 2 : Int) < (C 1 : Int)) = false := decide_eq_false (by omega)
    simp only [e, h1, zz_bf, ↓reduceIte]; rfl
theorem p_count {C : Nat → Nat} {m : Nat} {E : Nat → Nat} {ty ts tb tt td tq jl gz js gs ds gn hk gu a1 : Int32} {tl tz tc tY tA tB tF tG gl dy dk gd : Nat → Int32} (h : IC C ty ts tb tt td tq tl tz tc tY tA tB tF tG gl) (hN : HN C m E ds dy dk gn gd) (h1 : jl = gz) (h2 : js = gs) (h3 : hk = gu) : ∃ o1 o2, fX6_count a1 jl js ty ts tb tt td tq hk ds = some o1 ∧ fX7_count a1 gz gn gu gs gl = some o2 ∧ o1 = o2 := by
  have hb := zz_begC h
  obtain ⟨hO, hl, hty, hts, htb, htt, htd, htq, -⟩ := h
  have hbm := zz_begM hO hl
  obtain ⟨-, -, hds, hgn, -⟩ := hN
  unfold fX6_count fX7_count
  by_cases c0 : a1 = 0
  · subst c0
    have i0 : inb 0 55 = true := by decide
    simp only [i0, zz_c0, hl 0 (by omega), hty, ↓reduceIte]
    exact ⟨_, _, rfl, rfl, rfl⟩
  by_cases c1 : a1 = 1
  · subst c1
    have i0 : inb 1 55 = true := by decide
    simp only [c0, i0, zz_c1, hl 1 (by omega), hts, ↓reduceIte]
    exact ⟨_, _, rfl, rfl, rfl⟩
  by_cases c2 : a1 = 2
  · subst c2
    have i0 : inb 3 55 = true := by decide
    simp only [c0, c1, i0, zz_c3, hl 3 (by omega), htt, ↓reduceIte]
    exact ⟨_, _, rfl, rfl, rfl⟩
  by_cases c3 : a1 = 3
  · subst c3
    have i0 : inb 5 55 = true := by decide
    simp only [c0, c1, c2, i0, zz_c5, hl 5 (by omega), htd, ↓reduceIte]
    exact ⟨_, _, rfl, rfl, rfl⟩
  by_cases c4 : a1 = 4
  · subst c4
    simp only [c0, c1, c2, c3, hds, hgn, ↓reduceIte]
    exact ⟨_, _, rfl, rfl, rfl⟩
  by_cases c5 : a1 = 5
  · subst c5
    simp only [c0, c1, c2, c3, c4, hb, hbm, Option.bind_some, ↓reduceIte]
    exact ⟨_, _, rfl, rfl, rfl⟩
  by_cases c6 : a1 = 6
  · subst c6
    have i0 : inb 4 55 = true := by decide
    simp only [c0, c1, c2, c3, c4, c5, i0, zz_c4, hl 4 (by omega), htq, ↓reduceIte]
    exact ⟨_, _, rfl, rfl, rfl⟩
  by_cases c7 : a1 = 7
  · simp only [c0, c1, c2, c3, c4, c5, c6, ↓reduceIte]
    simp only [c7, ↓reduceIte]
    exact ⟨_, _, rfl, rfl, h2⟩
  by_cases c8 : a1 = 8
  · simp only [c0, c1, c2, c3, c4, c5, c6, c7, ↓reduceIte]
    simp only [c8, ↓reduceIte]
    exact ⟨_, _, rfl, rfl, h3⟩
  by_cases c9 : a1 = 9
  · simp only [c0, c1, c2, c3, c4, c5, c6, c7, c8, ↓reduceIte]
    simp only [c9, ↓reduceIte]
    exact ⟨_, _, rfl, rfl, h1⟩
  simp only [c0, c1, c2, c3, c4, c5, c6, c7, c8, c9, ↓reduceIte]
  exact ⟨_, _, rfl, rfl, rfl⟩
theorem p_mark {C : Nat → Nat} {m : Nat} {E : Nat → Nat} {ty ts tb tt td tq ds gn a1 a2 : Int32} {jr gr : Int64} {tl tz tc tY tA tB tF tG gl dy dk gd : Nat → Int32} (h : IC C ty ts tb tt td tq tl tz tc tY tA tB tF tG gl) (hN : HN C m E ds dy dk gn gd) (hr : jr = gr) : ∃ (o1 o2 : Int32 × Int64), fX6_mark a1 a2 jr ts tt tl tz tc ds = some o1 ∧ fX7_mark a1 a2 gn gr gl = some o2 ∧ o1.1 = o2.1 ∧ o1.2 = o2.2 := by
  subst hr
  obtain ⟨hO, hl, hty, hts, htb, htt, htd, htq, hst, -⟩ := h
  obtain ⟨-, -, hds, hgn, -⟩ := hN
  have hS6 : C 1 ≤ 6 := hO.2.2.1
  unfold fX6_mark fX7_mark
  simp only [hts, zz_isS (show C 1 < 2147483648 by omega), zz_mS hl hS6, zz_ch (a := a1) (n := 5) (show (5 : Int64).toInt = (5 : Nat) by decide), Option.bind_some]
  rcases zz_cs a2 (C 1) (by omega) with ⟨s, hs, rfl, h2, -⟩ | ⟨h2, -⟩
  · have hi : inb (nI s) 6 = true := by rw [zz_inbt (by omega)]; omega
    have hlean := zz_lean hl (show s < 6 by omega)
    have hof2 : fX7_of (nI s) 2 gl = some (nI (C (8 + 5 * s + 2))) := zz_of hl (show s < 6 by omega) (show 2 < 5 by omega)
    have hof1 : fX7_of (nI s) 1 gl = some (nI (C (8 + 5 * s + 1))) := zz_of hl (show s < 6 by omega) (show 1 < 5 by omega)
    have e3 : nI s * 3 + 0 = nI (3 * s + 0) := by rw [zz_3, zz_mul, zz_0, zz_add, Nat.mul_comm]
    have hj : inb (nI (3 * s + 0)) 18 = true := by rw [zz_inbt (by omega)]; omega
    have q1 := (hst s hs).1
    have q2 := (hst s hs).2.1
    have q3 := (hst s hs).2.2 0 (by omega)
    have i3 : inb 3 55 = true := by decide
    rcases zz_cs a1 (5 + 1) (by omega) with ⟨k, hk, rfl, h1, -⟩ | ⟨h1, -⟩
    · have : k = 0 ∨ k = 1 ∨ k = 2 ∨ k = 3 ∨ k = 4 ∨ k = 5 := by omega
      have n0 : nI 0 = 0 := rfl
      have n1 : nI 1 = 1 := rfl
      have n2 : nI 2 = 2 := rfl
      have n3 : nI 3 = 3 := rfl
      have n4 : nI 4 = 4 := rfl
      have n5 : nI 5 = 5 := rfl
      have d10 : ¬ (1 : Int32) = 0 := by decide
      have d20 : ¬ (2 : Int32) = 0 := by decide
      have d21 : ¬ (2 : Int32) = 1 := by decide
      have d30 : ¬ (3 : Int32) = 0 := by decide
      have d31 : ¬ (3 : Int32) = 1 := by decide
      have d32 : ¬ (3 : Int32) = 2 := by decide
      have d40 : ¬ (4 : Int32) = 0 := by decide
      have d41 : ¬ (4 : Int32) = 1 := by decide
      have d42 : ¬ (4 : Int32) = 2 := by decide
      have d43 : ¬ (4 : Int32) = 3 := by decide
      have d50 : ¬ (5 : Int32) = 0 := by decide
      have d51 : ¬ (5 : Int32) = 1 := by decide
      have d52 : ¬ (5 : Int32) = 2 := by decide
      have d53 : ¬ (5 : Int32) = 3 := by decide
      have d54 : ¬ (5 : Int32) = 4 := by decide
      have f2 : 8 + 5 * s + 2 = 10 + 5 * s + 0 := by omega
      have f1 : 8 + 5 * s + 1 = 9 + 5 * s := by omega
      rcases this with rfl | rfl | rfl | rfl | rfl | rfl <;>
        simp only [h1, h2, n0, n1, n2, n3, n4, n5, d10, d20, d21, d30, d31, d32, d40, d41, d42, d43, d50, d51, d52, d53, d54, zz_bt, jn, hlean, hof1, hof2, fX6_markOfSelf, fX6_markOfChild, fX6_markOfElder, fX6_markOfBitter, fX6_markOfLenient, fX6_markOfGhost, hi, e3, hj, i3, zz_c3, hl 3 (by omega), zz_cl (show s < 2147483648 by omega), zz_cl (show 3 * s + 0 < 2147483648 by omega), q1, q2, q3, hds, hgn, htt, Option.bind_some, ↓reduceIte, f1, f2]
      · exact ⟨_, _, rfl, rfl, rfl, rfl⟩
      · exact ⟨_, _, rfl, rfl, rfl, by dsimp only; rw [Int64.add_assoc]; rfl⟩
      · exact ⟨_, _, rfl, rfl, rfl, by dsimp only; rw [Int64.add_assoc]; rfl⟩
      · exact ⟨_, _, rfl, rfl, Int32.mul_comm _ _, by dsimp only; rw [Int64.add_assoc, Int64.add_assoc]; rfl⟩
      · exact ⟨_, _, rfl, rfl, rfl, by dsimp only; rw [Int64.add_assoc, Int64.add_assoc]; rfl⟩
      · exact ⟨_, _, rfl, rfl, by dsimp only; rw [Int32.mul_comm], by dsimp only; rw [Int64.add_assoc]; rfl⟩
    · have o0 : ¬ a1 = 0 := zz_out (by omega) h1 (k := 0) (by omega)
      have o1 : ¬ a1 = 1 := zz_out (by omega) h1 (k := 1) (by omega)
      have o2 : ¬ a1 = 2 := zz_out (by omega) h1 (k := 2) (by omega)
      have o3 : ¬ a1 = 3 := zz_out (by omega) h1 (k := 3) (by omega)
      have o4 : ¬ a1 = 4 := zz_out (by omega) h1 (k := 4) (by omega)
      have o5 : ¬ a1 = 5 := zz_out (by omega) h1 (k := 5) (by omega)
      simp only [h1, h2, o0, o1, o2, o3, o4, o5, zz_bt, zz_bf, ↓reduceIte]
      exact ⟨_, _, rfl, rfl, rfl, rfl⟩
  · rcases zz_cs a1 (5 + 1) (by omega) with ⟨k, hk, rfl, h1, -⟩ | ⟨h1, -⟩
    · simp only [h1, h2, zz_bt, zz_bf, ↓reduceIte]
      exact ⟨_, _, rfl, rfl, rfl, rfl⟩
    · simp only [h1, h2, zz_bf, ↓reduceIte]
      exact ⟨_, _, rfl, rfl, rfl, rfl⟩
