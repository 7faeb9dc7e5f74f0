/-! The calls that only read or write a cell or two. -/
/-- an argument of a small choice -/
theorem zz_ch {a : Int32} {k : Int64} {n : Nat} (hk : k.toInt = n) : fX7_in a.toInt64 0 k = some (decide (0 ≤ a.toInt ∧ a.toInt < (n + 1 : Nat))) := by
  rw [zz_in, zz_il, hk]
  have e0 : (0 : Int64).toInt = 0 := by decide
  rw [e0]
  congr 1
  apply decide_eq_decide.mpr
  omega
theorem p_type {jl gs a : Int32} {jt gx : Nat → Int32} (h : IT jl jt gs gx) : ∃ (o1 : Int32 × Int32 × (Nat → Int32)) (o2 : Int32 × Int32 × (Nat → Int32)), fX6_type a jl jt = some o1 ∧ fX7_type a gs gx = some o2 ∧ o1.1 = o2.1 ∧ IT o1.2.1 o1.2.2 o2.2.1 o2.2.2 := by
  obtain ⟨rfl, n, hn, rfl, ht⟩ := h
  unfold fX6_type fX7_type
  rw [zz_ch (n := 255) (by decide)]
  have e4 : (200 : Int32) = nI 200 := rfl
  have e6 : ∀ a : Int32, (a ≤ 255) = (a < nI (255 + 1)) := fun a => by
    rw [zz_lei, zz_lti, zz_ti (by omega), show (255 : Int32).toInt = 255 from by decide]
    apply propext; omega
  simp only [e6]
  rcases zz_cs a (255 + 1) (by omega) with ⟨c, hc, hca, h1, c1, c2, -⟩ | ⟨h1, c1 | ⟨c1, -, c2⟩⟩
  · simp only [h1, c1, c2, zz_bt, Option.bind_some, ↓reduceIte]
    by_cases h2 : n = 200
    · subst h2
      have c3 : ¬ nI 200 < 200 := by decide
      have c4 : nI 200 = 200 := rfl
      simp only [c3, c4, ↓reduceIte]
      exact ⟨_, _, rfl, rfl, rfl, rfl, 200, by omega, rfl, ht⟩
    · have c3 : nI n < 200 := by rw [e4, zz_lt (by omega) (by omega)]; omega
      have c4 : ¬ nI n = 200 := by rw [e4, zz_eq (by omega) (by omega)]; exact h2
      have c5 : inb (nI n) 200 = true := by rw [zz_inbt (by omega)]; omega
      simp only [c3, c4, c5, ↓reduceIte]
      refine ⟨_, _, rfl, rfl, rfl, rfl, n + 1, by omega, by rw [zz_1, zz_add], fun i hi => ?_⟩
      rw [zz_cl (by omega)]
      dsimp only
      by_cases hin : i = n
      · subst hin
        exact ⟨by rw [pk_us, pk_us], c, by omega, by rw [pk_us]; exact hca⟩
      · rw [pk_un hin, pk_un hin]
        exact ht i (by omega)
  · simp only [h1, c1, zz_bf, Option.bind_some, ↓reduceIte]
    exact ⟨_, _, rfl, rfl, rfl, rfl, n, hn, rfl, ht⟩
  · simp only [h1, c1, c2, zz_bf, Option.bind_some, ↓reduceIte]
    exact ⟨_, _, rfl, rfl, rfl, rfl, n, hn, rfl, ht⟩
theorem zz_mS {C : Nat → Nat} {gl : Nat → Int32} {a : Int32} (hl : ∀ i, i < 55 → gl i = nI (C i)) (h1 : C 1 ≤ 6) : fX7_isState a gl = some (decide (0 ≤ a.toInt ∧ a.toInt < C 1)) := by
  unfold fX7_isState
  rw [if_pos (by decide), show (1 : Int32).toNatClampNeg = 1 from by decide, hl 1 (by omega), zz_inT (by omega)]
  rfl
theorem zz_mT {C : Nat → Nat} {gl : Nat → Int32} {a : Int32} (hl : ∀ i, i < 55 → gl i = nI (C i)) (h1 : C 3 ≤ 3) : fX7_isTrial a gl = some (decide (0 ≤ a.toInt ∧ a.toInt < C 3)) := by
  unfold fX7_isTrial
  rw [if_pos (by decide), show (3 : Int32).toNatClampNeg = 3 from by decide, hl 3 (by omega), zz_inT (by omega)]
  rfl
theorem zz_mY {C : Nat → Nat} {gl : Nat → Int32} {a : Int32} (hl : ∀ i, i < 55 → gl i = nI (C i)) (h1 : C 0 ≤ 16) : fX7_isYear a gl = some (decide (0 ≤ a.toInt ∧ a.toInt < C 0)) := by
  unfold fX7_isYear
  rw [if_pos (by decide), show (0 : Int32).toNatClampNeg = 0 from by decide, hl 0 (by omega), zz_inT (by omega)]
  rfl
theorem zz_of {C : Nat → Nat} {gl : Nat → Int32} {s w : Nat} (hl : ∀ i, i < 55 → gl i = nI (C i)) (hs : s < 6) (hw : w < 5) : fX7_of (nI s) (nI w) gl = some (nI (C (8 + 5 * s + w))) := by
  unfold fX7_of
  have e : (8 : Int32) + 5 * nI s + nI w = nI (8 + 5 * s + w) := by
    rw [show (8 : Int32) = nI 8 from rfl, zz_5, zz_mul, zz_add, zz_add]
  rw [e, if_pos (by rw [zz_inbt (by omega)]; omega), zz_cl (by omega), hl _ (by omega)]
theorem zz_lean {C : Nat → Nat} {gl : Nat → Int32} {s : Nat} (hl : ∀ i, i < 55 → gl i = nI (C i)) (hs : s < 6) : fX7_lean (nI s) gl = some (nI (C (8 + 5 * s)) - 9) := by
  unfold fX7_lean
  rw [zz_0, zz_of hl hs (by omega)]
  rfl
theorem p_state {C : Nat → Nat} {ty ts tb tt td tq : Int32} {tl tz tc tY tA tB tF tG gl : Nat → Int32} {a1 a2 : Int32} (h : IC C ty ts tb tt td tq tl tz tc tY tA tB tF tG gl) : ∃ o1 o2, fX6_state a1 a2 ts tl tz tc = some o1 ∧ fX7_state a1 a2 gl = some o2 ∧ o1 = o2 := by
  obtain ⟨hO, hl, -, hts, -, -, -, -, hst, -, -⟩ := h
  have hS6 : C 1 ≤ 6 := hO.2.2.1
  unfold fX6_state fX7_state
  have e6 : ∀ a : Int32, (a ≤ 4) = (a < nI (4 + 1)) := fun a => by
    rw [zz_lei, zz_lti, zz_ti (by omega), show (4 : Int32).toInt = 4 from by decide]
    apply propext; omega
  simp only [hts, zz_isS (show C 1 < 2147483648 by omega), zz_mS hl hS6, zz_ch (a := a2) (n := 4) (show (4 : Int64).toInt = (4 : Nat) by decide), Option.bind_some, e6]
  rcases zz_cs a1 (C 1) (by omega) with ⟨s, hs1, rfl, h1, -⟩ | ⟨h1, -⟩
  · rcases zz_cs a2 (4 + 1) (by omega) with ⟨w, hw1, rfl, h2, c1, c2, -⟩ | ⟨h2, c1 | ⟨c1, -, c2⟩⟩
    · have hi : inb (nI s) 6 = true := by rw [zz_inbt (by omega)]; omega
      simp only [h1, h2, c1, c2, hi, zz_bt, zz_cl (show s < 2147483648 by omega), ↓reduceIte]
      by_cases h0 : w = 0
      · subst h0
        have d0 : nI 0 = 0 := rfl
        simp only [d0, zz_lean hl (show s < 6 by omega), Option.bind_some, ↓reduceIte]
        exact ⟨_, _, rfl, rfl, (hst s hs1).1⟩
      · have d0 : ¬ nI w = 0 := by rw [zz_0, zz_eq (by omega) (by omega)]; exact h0
        by_cases h1 : w = 1
        · subst h1
          have d1 : nI 1 = 1 := rfl
          simp only [d0, zz_of hl (show s < 6 by omega) (show 1 < 5 by omega), Option.bind_some, ↓reduceIte]
          simp only [d1, ↓reduceIte]
          refine ⟨_, _, rfl, rfl, ?_⟩
          rw [(hst s hs1).2.1, show 9 + 5 * s = 8 + 5 * s + 1 by omega]
        · have d1 : ¬ nI w = 1 := by rw [zz_1, zz_eq (by omega) (by omega)]; exact h1
          have e : nI s * 3 + nI w - 2 = nI (3 * s + (w - 2)) := by
            rw [zz_3, zz_mul, zz_add, zz_2, zz_sub (by omega)]
            congr 1
            omega
          have hj : inb (nI (3 * s + (w - 2))) 18 = true := by rw [zz_inbt (by omega)]; omega
          simp only [d0, d1, e, hj, zz_of hl (show s < 6 by omega) (show w < 5 by omega), Option.bind_some, ↓reduceIte, zz_cl (show 3 * s + (w - 2) < 2147483648 by omega)]
          refine ⟨_, _, rfl, rfl, ?_⟩
          rw [(hst s hs1).2.2 (w - 2) (by omega), show 10 + 5 * s + (w - 2) = 8 + 5 * s + w by omega]
    · simp only [h1, h2, c1, zz_bt, zz_bf, ↓reduceIte]
      exact ⟨_, _, rfl, rfl, rfl⟩
    · simp only [h1, h2, c1, c2, zz_bt, zz_bf, ↓reduceIte]
      exact ⟨_, _, rfl, rfl, rfl⟩
  · simp only [h1, zz_bf, ↓reduceIte]
    exact ⟨_, _, rfl, rfl, rfl⟩
theorem zz_c01 {w : Nat} (hw : w < 3) : (w = 0 ∧ nI w = 0 ∧ ¬ nI w = 1 ∧ ¬ nI w = 2) ∨ (w = 1 ∧ ¬ nI w = 0 ∧ nI w = 1 ∧ ¬ nI w = 2) ∨ (w = 2 ∧ ¬ nI w = 0 ∧ ¬ nI w = 1 ∧ nI w = 2) := by
  have : w = 0 ∨ w = 1 ∨ w = 2 := by omega
  rcases this with rfl | rfl | rfl <;> decide
theorem zz_out {a : Int32} {T : Nat} (hT : T < 2147483648) (h : decide (0 ≤ a.toInt ∧ a.toInt < T) = false) {k : Nat} (hk : k < T) : ¬ a = nI k := by
  intro e
  rw [e, zz_ti (by omega)] at h
  have := of_decide_eq_false h
  omega
theorem p_trial {C : Nat → Nat} {ty ts tb tt td tq : Int32} {tl tz tc tY tA tB tF tG gl : Nat → Int32} {a1 a2 : Int32} (h : IC C ty ts tb tt td tq tl tz tc tY tA tB tF tG gl) : ∃ o1 o2, fX6_trial a1 a2 tt tY tA tB = some o1 ∧ fX7_trial a1 a2 gl = some o2 ∧ o1 = o2 := by
  obtain ⟨hO, hl, -, -, -, htt, -, -, -, htr, -⟩ := h
  have hT3 : C 3 ≤ 3 := hO.2.2.2.2.1
  unfold fX6_trial fX7_trial
  simp only [htt, zz_isT (show C 3 < 2147483648 by omega), zz_mT hl hT3, zz_ch (a := a2) (n := 2) (show (2 : Int64).toInt = (2 : Nat) by decide), Option.bind_some]
  rcases zz_cs a1 (C 3) (by omega) with ⟨t, ht1, rfl, h1, -⟩ | ⟨h1, -⟩
  · rcases zz_cs a2 (2 + 1) (by omega) with ⟨w, hw1, rfl, h2, -⟩ | ⟨h2, -⟩
    · have hi : inb (nI t) 3 = true := by rw [zz_inbt (by omega)]; omega
      have e : (38 : Int32) + 3 * nI t + nI w = nI (38 + 3 * t + w) := by
        rw [show (38 : Int32) = nI 38 from rfl, zz_3, zz_mul, zz_add, zz_add]
      have hj : inb (nI (38 + 3 * t + w)) 55 = true := by rw [zz_inbt (by omega)]; omega
      simp only [h1, h2, hi, e, hj, zz_bt, zz_cl (show t < 2147483648 by omega), zz_cl (show 38 + 3 * t + w < 2147483648 by omega), hl (38 + 3 * t + w) (by omega), ↓reduceIte]
      rcases zz_c01 hw1 with ⟨rfl, q1, q2, q3⟩ | ⟨rfl, q1, q2, q3⟩ | ⟨rfl, q1, q2, q3⟩
      · simp only [q1, ↓reduceIte]; exact ⟨_, _, rfl, rfl, (htr t ht1).1⟩
      · simp only [q1, ↓reduceIte]; simp only [q2, ↓reduceIte]; exact ⟨_, _, rfl, rfl, by rw [(htr t ht1).2.1, show 39 + 3 * t = 38 + 3 * t + 1 by omega]⟩
      · simp only [q1, q2, ↓reduceIte]; simp only [q3, ↓reduceIte]; exact ⟨_, _, rfl, rfl, by rw [(htr t ht1).2.2, show 40 + 3 * t = 38 + 3 * t + 2 by omega]⟩
    · have d0 : ¬ a2 = 0 := zz_out (by omega) h2 (k := 0) (by omega)
      have d1 : ¬ a2 = 1 := zz_out (by omega) h2 (k := 1) (by omega)
      have d2 : ¬ a2 = 2 := zz_out (by omega) h2 (k := 2) (by omega)
      simp only [h1, h2, d0, d1, d2, zz_bt, zz_bf, ↓reduceIte]
      exact ⟨_, _, rfl, rfl, rfl⟩
  · simp only [h1, zz_bf, ↓reduceIte]
    exact ⟨_, _, rfl, rfl, rfl⟩
theorem p_deed {C : Nat → Nat} {ty ts tb tt td tq : Int32} {tl tz tc tY tA tB tF tG gl : Nat → Int32} {a1 a2 : Int32} (h : IC C ty ts tb tt td tq tl tz tc tY tA tB tF tG gl) : ∃ o1 o2, fX6_deed a1 a2 td tF tG = some o1 ∧ fX7_deed a1 a2 gl = some o2 ∧ o1 = o2 := by
  obtain ⟨hO, hl, -, -, -, -, htd, -, -, -, hde⟩ := h
  have hD4 : C 5 ≤ 4 := hO.2.2.2.2.2.2.2.1
  unfold fX6_deed fX7_deed
  have i5 : inb 5 55 = true := by decide
  simp only [htd, i5, zz_c5, hl 5 (by omega), zz_isD (show C 5 < 2147483648 by omega), zz_inT (show C 5 < 2147483648 by omega), zz_ch (a := a2) (n := 1) (show (1 : Int64).toInt = (1 : Nat) by decide), Option.bind_some, ↓reduceIte]
  rcases zz_cs a1 (C 5) (by omega) with ⟨t, ht1, rfl, h1, -⟩ | ⟨h1, -⟩
  · rcases zz_cs a2 (1 + 1) (by omega) with ⟨w, hw1, rfl, h2, -⟩ | ⟨h2, -⟩
    · have hi : inb (nI t) 4 = true := by rw [zz_inbt (by omega)]; omega
      have e : (47 : Int32) + 2 * nI t + nI w = nI (47 + 2 * t + w) := by
        rw [show (47 : Int32) = nI 47 from rfl, zz_2, zz_mul, zz_add, zz_add]
      have hj : inb (nI (47 + 2 * t + w)) 55 = true := by rw [zz_inbt (by omega)]; omega
      simp only [h1, h2, hi, e, hj, zz_bt, zz_cl (show t < 2147483648 by omega), zz_cl (show 47 + 2 * t + w < 2147483648 by omega), hl (47 + 2 * t + w) (by omega), ↓reduceIte]
      rcases zz_c01 (show w < 3 by omega) with ⟨rfl, q1, q2, q3⟩ | ⟨rfl, q1, q2, q3⟩ | ⟨rfl, q1, q2, q3⟩
      · simp only [q1, ↓reduceIte]; exact ⟨_, _, rfl, rfl, (hde t ht1).1⟩
      · simp only [q1, ↓reduceIte]; simp only [q2, ↓reduceIte]; exact ⟨_, _, rfl, rfl, by rw [(hde t ht1).2, show 48 + 2 * t = 47 + 2 * t + 1 by omega]⟩
      · omega
    · have d0 : ¬ a2 = 0 := zz_out (by omega) h2 (k := 0) (by omega)
      have d1 : ¬ a2 = 1 := zz_out (by omega) h2 (k := 1) (by omega)
      simp only [h1, h2, d0, d1, zz_bt, zz_bf, ↓reduceIte]
      exact ⟨_, _, rfl, rfl, rfl⟩
  · simp only [h1, zz_bf, ↓reduceIte]
    exact ⟨_, _, rfl, rfl, rfl⟩
theorem p_done {C : Nat → Nat} {m : Nat} {E : Nat → Nat} {ds gn : Int32} {dy dk gd : Nat → Int32} {a1 a2 : Int32} (h : HN C m E ds dy dk gn gd) : ∃ o1 o2, fX6_done a1 a2 ds dy dk = some o1 ∧ fX7_done a1 a2 gn gd = some o2 ∧ o1 = o2 := by
  obtain ⟨hm, -, hds, hgn, hd, hg⟩ := h
  unfold fX6_done fX7_done
  simp only [hds, hgn, zz_inT (show m < 2147483648 by omega), zz_ch (a := a2) (n := 1) (show (1 : Int64).toInt = (1 : Nat) by decide), Option.bind_some]
  rcases zz_cs a1 m (by omega) with ⟨t, ht1, rfl, h1, c1, c2, -⟩ | ⟨h1, c1 | ⟨c1, -, c2⟩⟩
  · rcases zz_cs a2 (1 + 1) (by omega) with ⟨w, hw1, rfl, h2, -⟩ | ⟨h2, -⟩
    · have hi : inb (nI t) 6 = true := by rw [zz_inbt (by omega)]; omega
      have e : 2 * nI t + nI w = nI (2 * t + w) := by rw [zz_2, zz_mul, zz_add]
      have hj : inb (nI (2 * t + w)) 16 = true := by rw [zz_inbt (by omega)]; omega
      simp only [h1, h2, c1, c2, hi, e, hj, zz_bt, zz_cl (show t < 2147483648 by omega), zz_cl (show 2 * t + w < 2147483648 by omega), hg (2 * t + w) (by omega), ↓reduceIte]
      rcases zz_c01 (show w < 3 by omega) with ⟨rfl, q1, q2, q3⟩ | ⟨rfl, q1, q2, q3⟩ | ⟨rfl, q1, q2, q3⟩
      · simp only [q1, ↓reduceIte]; exact ⟨_, _, rfl, rfl, (hd t ht1).1⟩
      · simp only [q1, ↓reduceIte]; simp only [q2, ↓reduceIte]; exact ⟨_, _, rfl, rfl, (hd t ht1).2⟩
      · omega
    · have d0 : ¬ a2 = 0 := zz_out (by omega) h2 (k := 0) (by omega)
      have d1 : ¬ a2 = 1 := zz_out (by omega) h2 (k := 1) (by omega)
      simp only [h1, h2, c1, c2, d0, d1, zz_bt, zz_bf, ↓reduceIte]
      exact ⟨_, _, rfl, rfl, rfl⟩
  · simp only [h1, c1, zz_bf, ↓reduceIte]
    exact ⟨_, _, rfl, rfl, rfl⟩
  · simp only [h1, c1, c2, zz_bf, ↓reduceIte]
    exact ⟨_, _, rfl, rfl, rfl⟩
