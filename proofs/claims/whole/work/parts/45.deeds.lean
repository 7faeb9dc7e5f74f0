/-! does, takes, undo. -/
theorem HN.congr {C : Nat → Nat} {m : Nat} {E : Nat → Nat} {ds ds' gn gn' : Int32} {dy dk gd dy' dk' gd' : Nat → Int32} (h : HN C m E ds dy dk gn gd) (h1 : ds' = ds) (h2 : ∀ i, i < m → dy' i = dy i ∧ dk' i = dk i) (h3 : gn' = gn) (h4 : ∀ i, i < 2 * m → gd' i = gd i) : HN C m E ds' dy' dk' gn' gd' := by
  obtain ⟨q1, q2, q3, q4, q5, q6⟩ := h
  exact ⟨q1, q2, h1.trans q3, h3.trans q4, fun i hi => ⟨(h2 i hi).1.trans (q5 i hi).1, (h2 i hi).2.trans (q5 i hi).2⟩, fun i hi => (h4 i hi).trans (q6 i hi)⟩
theorem p_remember {C : Nat → Nat} {m : Nat} {E : Nat → Nat} {ds gn hk gu : Int32} {dy dk gd ge : Nat → Int32} {pA pY pK : Nat → Nat} {pS : Nat → Int32} {pR pD : Nat → Nat → Int32} (hN : HN C m E ds dy dk gn gd) (hU : HU C hk pS pR pD gu ge) : ∃ (r : Int32 × (Nat → Nat) × (Nat → Nat) × (Nat → Nat) × (Nat → Int32) × (Nat → Nat → Int32) × (Nat → Nat → Int32)) (n : Int32 × (Nat → Int32)), fX2_remember hk ds dy dk pA pY pK pS pR pD = some r ∧ fX7_notes gn gu gd ge = some n ∧ HU C r.1 r.2.2.2.2.1 r.2.2.2.2.2.1 r.2.2.2.2.2.2 n.1 n.2 := by
  obtain ⟨rfl, u, hu, rfl, hj⟩ := hU
  have hN0 := hN
  obtain ⟨hm, hE, rfl, rfl, hd, hg⟩ := hN
  rw [zz_notes hm hu]
  unfold fX2_remember
  have c1 : inb (nI u) 11 = true := by rw [zz_inbt (by omega)]; omega
  simp only [c1, ↓reduceIte]
  by_cases h10 : u = 10
  · subst h10
    have c2 : nI 10 = 10 := rfl
    simp only [c2, ↓reduceIte, zz_copy hm, Option.bind_some]
    refine ⟨_, _, rfl, rfl, rfl, 10, by omega, rfl, fun j hj10 => ?_⟩
    dsimp only
    by_cases h9 : j = 9
    · subst h9
      refine ⟨m, E, hN0.congr (by simp [va_up]) (fun i hi => ⟨by simp [va_up, cpTo_in hi], by simp [va_up, cpTo_in hi]⟩) ?_ (fun i hi => ?_)⟩
      · unfold atTo
        rw [if_neg (by omega)]
        exact pk_us
      · unfold atTo
        rw [if_pos (by omega)]
        congr 1
        omega
    · obtain ⟨m1, E1, h1⟩ := hj (j + 1) (by omega)
      have hm1 := h1.1
      refine ⟨m1, E1, h1.congr (by simp [va_up, h9, rot]) (fun i hi => by simp [va_up, h9, rot]) ?_ (fun i hi => ?_)⟩
      · unfold atTo
        rw [if_neg (by omega), pk_un (by omega)]
        unfold shTo
        rw [if_pos (by omega)]
        congr 1
      · unfold atTo
        rw [if_neg (by omega), pk_un (by omega)]
        unfold shTo
        rw [if_pos (by omega)]
        congr 1
        omega
  · have c2 : ¬ nI u = 10 := by rw [zz_10, zz_eq (by omega) (by omega)]; exact h10
    simp only [c2, h10, ↓reduceIte, zz_cl (show u < 2147483648 by omega), zz_copy hm, Option.bind_some]
    refine ⟨_, _, rfl, rfl, by dsimp only; rw [zz_1, zz_add], u + 1, by omega, rfl, fun j hju => ?_⟩
    dsimp only
    by_cases h9 : j = u
    · subst h9
      refine ⟨m, E, hN0.congr (by simp [va_up]) (fun i hi => ⟨by simp [va_up, cpTo_in hi], by simp [va_up, cpTo_in hi]⟩) ?_ (fun i hi => ?_)⟩
      · unfold atTo
        rw [if_neg (by omega)]
        exact pk_us
      · unfold atTo
        rw [if_pos (by omega)]
        congr 1
        omega
    · obtain ⟨m1, E1, h1⟩ := hj j (by omega)
      have hm1 := h1.1
      refine ⟨m1, E1, h1.congr (by simp [va_up, h9]) (fun i hi => by simp [va_up, h9]) ?_ (fun i hi => ?_)⟩
      · unfold atTo
        rw [if_neg (by omega), pk_un (by omega)]
      · unfold atTo
        rw [if_neg (by omega), pk_un (by omega)]
theorem CH.none {C : Nat → Nat} {m : Nat} {E : Nat → Nat} {kn kh kf ks : Nat → Int32} (h3 : C 3 ≤ 3) : CH C m E (cpTo kn (fun _ => 0) 3) kh kf ks := by
  intro t ht h
  exact absurd (cpTo_in (show t < 3 by omega)) h
theorem p_does {C : Nat → Nat} {m : Nat} {E : Nat → Nat} {ty ts tb tt td tq ds gn hk gu a1 a2 : Int32} {tl tz tc tY tA tB tF tG gl dy dk gd ge kn kh kf ks : Nat → Int32} {pA pY pK : Nat → Nat} {pS : Nat → Int32} {pR pD : Nat → Nat → Int32} (h : IC C ty ts tb tt td tq tl tz tc tY tA tB tF tG gl) (hN : HN C m E ds dy dk gn gd) (hU : HU C hk pS pR pD gu ge) (hC : CH C m E kn kh kf ks) : ∃ (o1 : Int32 × (Nat → Int32) × Int32 × Int32 × (Nat → Int32) × (Nat → Int32) × (Nat → Nat) × (Nat → Nat) × (Nat → Nat) × (Nat → Int32) × (Nat → Nat → Int32) × (Nat → Nat → Int32)) (o2 : Int32 × Int32 × Int32 × (Nat → Int32) × (Nat → Int32)), fX6_does a1 a2 ty td kn hk ds dy dk pA pY pK pS pR pD = some o1 ∧ fX7_does a1 a2 gn gu gl gd ge = some o2 ∧ o1.1 = o2.1 ∧ ∃ (m' : Nat) (E' : Nat → Nat), HN C m' E' o1.2.2.2.1 o1.2.2.2.2.1 o1.2.2.2.2.2.1 o2.2.1 o2.2.2.2.1 ∧ HU C o1.2.2.1 o1.2.2.2.2.2.2.2.2.2.1 o1.2.2.2.2.2.2.2.2.2.2.1 o1.2.2.2.2.2.2.2.2.2.2.2 o2.2.2.1 o2.2.2.2.2 ∧ CH C m' E' o1.2.1 kh kf ks := by
  obtain ⟨hO, hl, hty, -, -, -, htd, -⟩ := h
  have hY16 : C 0 ≤ 16 := hO.2.1
  have hT3 : C 3 ≤ 3 := hO.2.2.2.2.1
  have hD4 : C 5 ≤ 4 := hO.2.2.2.2.2.2.2.1
  have i5 : inb 5 55 = true := by decide
  obtain ⟨r, n, er, en, hU2⟩ := p_remember (pA := pA) (pY := pY) (pK := pK) hN hU
  have hN0 := hN
  obtain ⟨hm, hE, rfl, rfl, hd, hg⟩ := hN
  unfold fX6_does fX7_does
  simp only [hty, htd, i5, zz_c5, hl 5 (by omega), zz_isY (show C 0 < 2147483648 by omega), zz_isD (show C 5 < 2147483648 by omega), zz_mY hl hY16, zz_inT (show C 5 < 2147483648 by omega), Option.bind_some, ↓reduceIte]
  rcases zz_cs a1 (C 0) (by omega) with ⟨y, hy, rfl, h1, -⟩ | ⟨h1, -⟩
  · rcases zz_cs a2 (C 5) (by omega) with ⟨d, hd5, rfl, h2, -⟩ | ⟨h2, -⟩
    · simp only [h1, h2, zz_bt, ↓reduceIte]
      by_cases h6 : m = 6
      · subst h6
        have c1 : ¬ nI 6 < 6 := by decide
        have c2 : nI 6 = 6 := rfl
        simp only [c1, c2, ↓reduceIte]
        exact ⟨_, _, rfl, rfl, rfl, 6, E, hN0, hU, hC⟩
      · have c1 : nI m < 6 := by rw [zz_6, zz_lt (by omega) (by omega)]; omega
        have c2 : ¬ nI m = 6 := by rw [zz_6, zz_eq (by omega) (by omega)]; exact h6
        have c3 : inb (nI m) 6 = true := by rw [zz_inbt (by omega)]; omega
        have ea : fX0_append (nI y) (nI d) (nI m) dy dk = some (nI (m + 1), upd dy m (nI y), upd dk m (nI d)) := by
          unfold fX0_append
          simp only [c1, c3, ↓reduceIte, zz_cl (show m < 2147483648 by omega)]
          rw [zz_1, zz_add]
        simp only [c1, c2, er, en, ea, zz_adds (show m ≤ 7 by omega), zz_forget, Option.bind_some, ↓reduceIte]
        refine ⟨_, _, rfl, rfl, rfl, m + 1, cAdd m E y d, ⟨by omega, fun i hi => ?_, rfl, rfl, fun i hi => ?_, fun i hi => ?_⟩, hU2, CH.none hT3⟩
        · unfold cAdd
          by_cases him : i = m
          · subst him
            rw [if_pos rfl, if_neg (by omega), if_pos rfl]
            exact ⟨hy, hd5⟩
          · rw [if_neg (by omega), if_neg (by omega), if_neg (by omega), if_neg (by omega)]
            exact hE i (by omega)
        · dsimp only
          unfold cAdd
          by_cases him : i = m
          · subst him
            rw [if_pos rfl, if_neg (by omega), if_pos rfl]
            exact ⟨pk_us, pk_us⟩
          · rw [if_neg (by omega), if_neg (by omega), if_neg (by omega), if_neg (by omega), pk_un him, pk_un him]
            exact hd i (by omega)
        · dsimp only
          unfold cAdd
          by_cases h1 : i = 2 * m
          · subst h1
            rw [if_pos rfl, pk_un (by omega), pk_us]
          · by_cases h2 : i = 2 * m + 1
            · subst h2
              rw [if_neg (by omega), if_pos rfl, pk_us]
            · rw [if_neg h1, if_neg h2, pk_un h2, pk_un h1]
              exact hg i (by omega)
    · simp only [h1, h2, zz_bt, zz_bf, ↓reduceIte]
      exact ⟨_, _, rfl, rfl, rfl, m, E, hN0, hU, hC⟩
  · simp only [h1, zz_bf, ↓reduceIte]
    exact ⟨_, _, rfl, rfl, rfl, m, E, hN0, hU, hC⟩
theorem p_takes {C : Nat → Nat} {m : Nat} {E : Nat → Nat} {ds gn hk gu a1 : Int32} {dy dk gd ge kn kh kf ks : Nat → Int32} {pA pY pK : Nat → Nat} {pS : Nat → Int32} {pR pD : Nat → Nat → Int32} (hT3 : C 3 ≤ 3) (hN : HN C m E ds dy dk gn gd) (hU : HU C hk pS pR pD gu ge) (hC : CH C m E kn kh kf ks) : ∃ (o1 : Int32 × (Nat → Int32) × Int32 × Int32 × (Nat → Int32) × (Nat → Int32) × (Nat → Nat) × (Nat → Nat) × (Nat → Nat) × (Nat → Int32) × (Nat → Nat → Int32) × (Nat → Nat → Int32)) (o2 : Int32 × Int32 × Int32 × (Nat → Int32) × (Nat → Int32)), fX6_takes a1 kn hk ds dy dk pA pY pK pS pR pD = some o1 ∧ fX7_takes a1 gn gu gd ge = some o2 ∧ o1.1 = o2.1 ∧ ∃ (m' : Nat) (E' : Nat → Nat), HN C m' E' o1.2.2.2.1 o1.2.2.2.2.1 o1.2.2.2.2.2.1 o2.2.1 o2.2.2.2.1 ∧ HU C o1.2.2.1 o1.2.2.2.2.2.2.2.2.2.1 o1.2.2.2.2.2.2.2.2.2.2.1 o1.2.2.2.2.2.2.2.2.2.2.2 o2.2.2.1 o2.2.2.2.2 ∧ CH C m' E' o1.2.1 kh kf ks := by
  obtain ⟨r, n, er, en, hU2⟩ := p_remember (pA := pA) (pY := pY) (pK := pK) hN hU
  have hN0 := hN
  obtain ⟨hm, hE, rfl, rfl, hd, hg⟩ := hN
  unfold fX6_takes fX7_takes
  simp only [zz_inT (show m < 2147483648 by omega), Option.bind_some]
  rcases zz_cs a1 m (by omega) with ⟨i, hi, rfl, h1, c1, c2, -⟩ | ⟨h1, c1 | ⟨c1, -, c2⟩⟩
  · have e : lpd (fun s4 => sX7_takes_28 (nI m) s4.1 s4.2) FU (2 * nI i + 2, gd) = some (shTo 2 gd (2 * i) (2 * m - 2 * i - 2)) := by
      have e0 : 2 * nI i + 2 = nI (2 * i + 2) := by rw [zz_2, zz_mul, zz_add]
      have e1 : 2 * nI m = nI (2 * m) := by rw [zz_2, zz_mul]
      rw [e0]
      have h := zz_lp (st := fun s4 => sX7_takes_28 (nI m) s4.1 s4.2) (2 * m - 2 * i - 2) (2 * i + 2) (fun k => shTo 2 gd (2 * i) k) (by omega) (fun k hk => ?_) ?_
      · rw [shTo_0] at h
        exact h
      · dsimp only
        unfold sX7_takes_28
        have d1 : ¬ nI (2 * m) ≤ nI (2 * i + 2 + k) := by rw [zz_le (by omega) (by omega)]; omega
        have d2 : inb (nI (2 * i + 2 + k)) 16 = true := by rw [zz_inbt (by omega)]; omega
        have e2 : nI (2 * i + 2 + k) - 2 = nI (2 * i + k) := by rw [zz_2, zz_sub (by omega)]; congr 1; omega
        have d3 : inb (nI (2 * i + k)) 16 = true := by rw [zz_inbt (by omega)]; omega
        simp only [e1, e2, d1, d2, d3, ↓reduceIte, zz_cl (show 2 * i + k < 2147483648 by omega), zz_cl (show 2 * i + 2 + k < 2147483648 by omega)]
        rw [zz_1, zz_add, ← shTo_s 2 gd (2 * i) k (by omega), show 2 * i + k + 2 = 2 * i + 2 + k by omega]
      · dsimp only
        unfold sX7_takes_28
        have d1 : nI (2 * m) ≤ nI (2 * i + 2 + (2 * m - 2 * i - 2)) := by rw [zz_le (by omega) (by omega)]; omega
        simp only [e1, d1, ↓reduceIte]
    simp only [h1, c1, c2, er, en, e, zz_remove hm hi, zz_forget, zz_bt, Option.bind_some, ↓reduceIte]
    refine ⟨_, _, rfl, rfl, by dsimp only; rw [zz_1, zz_sub (by omega)], m - 1, fun q => if q < 2 * i then E q else E (q + 2), ⟨by omega, fun q hq => ?_, rfl, by dsimp only; rw [zz_1, zz_sub (by omega)], fun q hq => ?_, fun q hq => ?_⟩, hU2, CH.none hT3⟩
    · by_cases hqi : q < i
      · simp only [show 2 * q < 2 * i by omega, show 2 * q + 1 < 2 * i by omega, ↓reduceIte]
        exact hE q (by omega)
      · simp only [show ¬ 2 * q < 2 * i by omega, show ¬ 2 * q + 1 < 2 * i by omega, ↓reduceIte]
        exact hE (q + 1) (by omega)
    · dsimp only
      unfold shTo
      by_cases hqi : q < i
      · simp only [show 2 * q < 2 * i by omega, show 2 * q + 1 < 2 * i by omega, show ¬ (i ≤ q ∧ q < i + (m - 1 - i)) by omega, ↓reduceIte]
        exact hd q (by omega)
      · simp only [show ¬ 2 * q < 2 * i by omega, show ¬ 2 * q + 1 < 2 * i by omega, show (i ≤ q ∧ q < i + (m - 1 - i)) by omega, and_self, ↓reduceIte]
        exact hd (q + 1) (by omega)
    · dsimp only
      unfold shTo
      by_cases hqi : q < 2 * i
      · rw [if_neg (by omega), if_pos hqi]
        exact hg q (by omega)
      · rw [if_pos (by omega), if_neg hqi]
        exact hg (q + 2) (by omega)
  · simp only [h1, c1, zz_bf, ↓reduceIte]
    exact ⟨_, _, rfl, rfl, rfl, m, E, hN0, hU, hC⟩
  · simp only [h1, c1, c2, zz_bf, ↓reduceIte]
    exact ⟨_, _, rfl, rfl, rfl, m, E, hN0, hU, hC⟩
