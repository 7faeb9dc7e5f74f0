/-! innocent, odds. -/
def cIb (C : Nat → Nat) (m : Nat) (E : Nat → Nat) (t : Nat) : Nat → Int32
  | 0 => 0
  | k + 1 => if cSr C m E k (C 4) t (cRows C) = 2 then cIb C m E t k ||| (1 <<< ((nI k) &&& 31)) else cIb C m E t k
theorem zz_innM {C : Nat → Nat} {m : Nat} {E : Nat → Nat} {gl gd sel : Nat → Int32} {t : Nat} (h : MC C m E gl gd) (ht : t < C 3) : ∃ w, lpd (fun s3 => sX7_innocent_14 (nI t) (nI m) gl gd s3.1 s3.2.1 s3.2.2) FU (0, 0, sel) = some (cIb C m E t (C 1), w) := by
  have hS6 : C 1 ≤ 6 := h.1.2.2.1
  have hgl := h.2.1 1 (by omega)
  have hi : inb 1 55 = true := by decide
  have l : ∃ e : Int32 × (Nat → Int32), lpd (fun s3 => sX7_innocent_14 (nI t) (nI m) gl gd s3.1 s3.2.1 s3.2.2) FU (0, 0, sel) = some e ∧ e.1 = cIb C m E t (C 1) := by
    refine lpd_ex (fun (k : Nat) (s : Int32 × Int32 × (Nat → Int32)) => s.1 = cIb C m E t k ∧ s.2.1 = nI k) (C 1) (by omega) _ ⟨rfl, rfl⟩ (fun k s hk hI => ?_) (fun s hI => ?_)
    · obtain ⟨i1, i2⟩ := hI
      obtain ⟨w, e⟩ := zz_sureM (sel := s.2.2) (a := k) h (fun _ => hk) ht
      have c1 : ¬ nI (C 1) ≤ nI k := by rw [zz_le (by omega) (by omega)]; omega
      have en : nI k + 1 = nI (k + 1) := by rw [zz_1, zz_add]
      refine ⟨(cIb C m E t (k + 1), nI (k + 1), w), ?_, rfl, rfl⟩
      unfold sX7_innocent_14
      rw [show cIb C m E t (k + 1) = if cSr C m E k (C 4) t (cRows C) = 2 then cIb C m E t k ||| (1 <<< ((nI k) &&& 31)) else cIb C m E t k from rfl]
      simp only [hi, zz_c1, hgl, i1, i2, c1, e, en, zz_or0, Option.bind_some, ↓reduceIte]
      by_cases c : cSr C m E k (C 4) t (cRows C) = 2
      · rw [if_pos c, if_pos c]
      · rw [if_neg c, if_neg c]
    · obtain ⟨i1, i2⟩ := hI
      have c1 : nI (C 1) ≤ nI (C 1) := by rw [zz_le (by omega) (by omega)]; omega
      refine ⟨(s.1, s.2.2), ?_, i1⟩
      unfold sX7_innocent_14
      simp only [hi, zz_c1, hgl, i2, c1, ↓reduceIte]
  obtain ⟨e, el, he⟩ := l
  exact ⟨e.2, by rw [el, ← he]⟩
theorem zz_innC {C : Nat → Nat} {m : Nat} {E : Nat → Nat} {ty ts tb tt td tq ds gn : Int32} {tl tz tc tY tA tB tF tG gl dy dk gd : Nat → Int32} {t : Nat} (h : IC C ty ts tb tt td tq tl tz tc tY tA tB tF tG gl) (hN : HN C m E ds dy dk gn gd) (ht : t < C 3) (v1 v2 v3 v4 : Nat → Int32) : ∃ x, fX6_innocentBits (nI t) ty ts tb tt tq tl tz tc tY tA tB tF tG v1 v2 v3 v4 ds dy dk = some (cIb C m E t (C 1), x) := by
  have hS6 : C 1 ≤ 6 := h.1.2.2.1
  have ets : ts = nI (C 1) := h.2.2.2.1
  obtain ⟨f, g, e1, hf, hg⟩ := zz_prep h hN v1 v2
  unfold fX6_innocentBits
  rw [e1, Option.bind_some]
  have l : ∃ e : Int32 × Int32 × (Nat → Int32) × (Nat → Int32), lpd (fun s2 => sX6_innocentBits_22 (nI t) ty ts tt tl tz tY tA tB (nI (C 4)) f g s2.1 s2.2.1 s2.2.2.1 s2.2.2.2.1 s2.2.2.2.2) FU (0, 0, nI (cBeg C), v3, v4) = some e ∧ e.1 = cIb C m E t (C 1) := by
    refine lpd_ex (fun (k : Nat) (s : Int32 × Int32 × Int32 × (Nat → Int32) × (Nat → Int32)) => s.1 = cIb C m E t k ∧ s.2.1 = nI k) (C 1) (by omega) _ ⟨rfl, rfl⟩ (fun k s hk hI => ?_) (fun s hI => ?_)
    · obtain ⟨i1, i2⟩ := hI
      obtain ⟨b, w, u, e, hb⟩ := zz_surely (sel := s.2.2.2.1) (ver := s.2.2.2.2) (a := k) h hf hg (fun _ => hk) ht
      have c1 : ¬ ts ≤ nI k := by rw [ets, zz_le (by omega) (by omega)]; omega
      have en : nI k + 1 = nI (k + 1) := by rw [zz_1, zz_add]
      refine ⟨(cIb C m E t (k + 1), nI (k + 1), nI k, w, u), ?_, rfl, rfl⟩
      unfold sX6_innocentBits_22
      rw [show cIb C m E t (k + 1) = if cSr C m E k (C 4) t (cRows C) = 2 then cIb C m E t k ||| (1 <<< ((nI k) &&& 31)) else cIb C m E t k from rfl]
      simp only [i1, i2, c1, e, en, Option.bind_some, ↓reduceIte]
      cases b with
      | true =>
        rw [if_pos (cSr_acq.mpr (hb.mp rfl))]
        simp only [zz_bt, ↓reduceIte]
      | false =>
        rw [if_neg (show ¬ cSr C m E k (C 4) t (cRows C) = 2 from fun hh => by cases hb.mpr (cSr_acq.mp hh))]
        simp only [zz_bf, ↓reduceIte]
    · obtain ⟨i1, i2⟩ := hI
      have c1 : ts ≤ nI (C 1) := by rw [ets, zz_le (by omega) (by omega)]; omega
      refine ⟨(s.1, s.2.2.1, s.2.2.2.1, s.2.2.2.2), ?_, i1⟩
      unfold sX6_innocentBits_22
      simp only [i2, c1, ↓reduceIte]
  obtain ⟨e, el, he⟩ := l
  exact ⟨(e.2.1, nI (C 4), f, g, e.2.2.1, e.2.2.2), by rw [el, Option.bind_some, ← he]⟩
theorem p_innocent {C : Nat → Nat} {m : Nat} {E : Nat → Nat} {ty ts tb tt td tq ds gn a1 : Int32} {tl tz tc tY tA tB tF tG gl dy dk gd : Nat → Int32} (h : IC C ty ts tb tt td tq tl tz tc tY tA tB tF tG gl) (hN : HN C m E ds dy dk gn gd) (vt qt : Nat) (v5 v6 : Int32) (v1 v2 v3 v4 sel : Nat → Int32) : ∃ o1 o2, fX6_innocent a1 ty ts tb tt tq tl tz tc tY tA tB tF tG vt v5 v6 v1 v2 v3 v4 ds dy dk qt = some o1 ∧ fX7_innocent a1 gn gl gd sel = some o2 ∧ o1.1 = o2.1 := by
  have hT : C 3 ≤ 3 := h.1.2.2.2.2.1
  have htt : tt = nI (C 3) := h.2.2.2.2.2.1
  subst htt
  have hgn : gn = nI m := hN.2.2.2.1
  unfold fX6_innocent fX7_innocent
  rw [zz_isT (by omega), zz_mT h.2.1 hT]
  rcases zz_cs a1 (C 3) (by omega) with ⟨t, ht, rfl, d, -, -, -⟩ | ⟨d, -⟩
  · obtain ⟨x, e1⟩ := zz_innC h hN ht v1 v2 v3 v4
    obtain ⟨w, e2⟩ := zz_innM (sel := sel) (MC.of h hN) ht
    simp only [d, zz_bt, e1, e2, hgn, Option.bind_some, ↓reduceIte]
    exact ⟨_, _, rfl, rfl, rfl⟩
  · simp only [d, zz_bf, Option.bind_some, ↓reduceIte]
    exact ⟨_, _, rfl, rfl, rfl⟩
theorem zz_orb : ∀ s, s < 6 → ∀ k, k < 64 → nI k ||| (1 <<< ((nI s) &&& 31)) = nI (k ||| 2 ^ s) ∧ (k ||| 2 ^ s) < 64 := by decide +kernel
theorem cIb_lt {C : Nat → Nat} {m : Nat} {E : Nat → Nat} {t : Nat} : ∀ n, n ≤ 6 → ∃ k, k < 64 ∧ cIb C m E t n = nI k
  | 0, _ => ⟨0, by omega, rfl⟩
  | n + 1, hn => by
    obtain ⟨k, hk, e⟩ := cIb_lt (C := C) (m := m) (E := E) (t := t) n (by omega)
    unfold cIb
    by_cases c : cSr C m E n (C 4) t (cRows C) = 2
    · rw [if_pos c, e]
      obtain ⟨h1, h2⟩ := zz_orb n (by omega) k hk
      exact ⟨_, h2, h1⟩
    · rw [if_neg c]
      exact ⟨k, hk, e⟩
theorem lpd_mono {σ ε : Type} {st : σ → Option (σ ⊕ ε)} {e : ε} : ∀ (n d : Nat) (s : σ), lpd st n s = some e → lpd st (n + d) s = some e
  | 0, _, _, h => by cases h
  | n + 1, d, s, h => by
    rw [show n + 1 + d = (n + d) + 1 by omega]
    show (st s).bind _ = some e
    have h' : (st s).bind (fun r => match r with | .inl s' => lpd st n s' | .inr e => some e) = some e := h
    cases hs : st s with
    | none => rw [hs] at h'; cases h'
    | some r =>
      rw [hs] at h'
      cases r with
      | inl s' => exact lpd_mono n d s' h'
      | inr e' => exact h'
theorem lpd_FU {σ ε : Type} {st : σ → Option (σ ⊕ ε)} {e : ε} {s : σ} (h : lpd st 10 s = some e) : lpd st FU s = some e := by
  have := lpd_mono 10 99990 s h
  exact this
theorem zz_pop : ∀ k, k < 64 → ∃ c, c < 7 ∧ fJ6_bitCount_0f7a4 (nI k) = some (nI c) ∧ lpd (fun s1 => sX7_many_4 s1.1 s1.2) 10 (0, nI k) = some (nI c) := by decide +kernel
theorem zz_gcd : ∀ a, a < 7 → ∀ b, b < 7 → ¬ b = 0 → lpd (fun s1 => sX6_commonDivisor_7 (nI b) s1.1 s1.2.1 s1.2.2) 10 (nI a, nI b, 0) = some (nI (Nat.gcd a b)) ∧ lpd (fun s1 => sX7_common_4 s1.1 s1.2) 10 (nI a, nI b) = some (nI (Nat.gcd a b)) ∧ ¬ nI (Nat.gcd a b) = 0 := by decide +kernel
theorem p_odds {C : Nat → Nat} {m : Nat} {E : Nat → Nat} {ty ts tb tt td tq ds gn a1 a2 : Int32} {tl tz tc tY tA tB tF tG gl dy dk gd : Nat → Int32} (h : IC C ty ts tb tt td tq tl tz tc tY tA tB tF tG gl) (hN : HN C m E ds dy dk gn gd) (vt qt : Nat) (v5 v6 : Int32) (v1 v2 v3 v4 sel : Nat → Int32) : ∃ o1 o2, fX6_odds a1 a2 ty ts tb tt tq tl tz tc tY tA tB tF tG vt v5 v6 v1 v2 v3 v4 ds dy dk qt = some o1 ∧ fX7_odds a1 a2 gn gl gd sel = some o2 ∧ o1.1 = o2.1 := by
  have hT : C 3 ≤ 3 := h.1.2.2.2.2.1
  have hS6 : C 1 ≤ 6 := h.1.2.2.1
  have htt : tt = nI (C 3) := h.2.2.2.2.2.1
  subst htt
  have hts : ts = nI (C 1) := h.2.2.2.1
  subst hts
  have hgn : gn = nI m := hN.2.2.2.1
  have hi : inb 1 55 = true := by decide
  have hgl := h.2.1 1 (by omega)
  have ez : (nI (C 1) = 0) = (C 1 = 0) := by rw [zz_0, zz_eq (by omega) (by omega)]
  unfold fX6_odds fX7_odds
  rw [zz_isT (by omega), zz_mT h.2.1 hT]
  rcases zz_cs a1 (C 3) (by omega) with ⟨t, ht, rfl, d, -, -, -⟩ | ⟨d, -⟩
  · have body : ∃ o1 o2, (if nI (C 1) = 0 then some ((-2 : Int32), vt, v5, v6, v1, v2, v3, v4) else (fX6_innocentBits (nI t) ty (nI (C 1)) tb (nI (C 3)) tq tl tz tc tY tA tB tF tG v1 v2 v3 v4 ds dy dk).bind (fun r5 => (fJ6_bitCount_0f7a4 r5.1).bind (fun r6 => (fX6_commonDivisor r6 (nI (C 1))).bind (fun r7 => if r7 = 0 then some ((-2), qt, r5.2.1, r5.2.2.1, r5.2.2.2.1, r5.2.2.2.2.1, r5.2.2.2.2.2.1, r5.2.2.2.2.2.2) else if a2 = 0 then if ¬ r7 = 0 then some (r6 / r7, qt, r5.2.1, r5.2.2.1, r5.2.2.2.1, r5.2.2.2.2.1, r5.2.2.2.2.2.1, r5.2.2.2.2.2.2) else none else if ¬ r7 = 0 then some (nI (C 1) / r7, qt, r5.2.1, r5.2.2.1, r5.2.2.2.1, r5.2.2.2.2.1, r5.2.2.2.2.2.1, r5.2.2.2.2.2.2) else none)))) = some o1 ∧ (if nI (C 1) = 0 then some ((-2), sel) else (fX7_innocent (nI t) gn gl gd sel).bind (fun r7 => (fX7_many r7.1).bind (fun r8 => (fX7_common r8 (nI (C 1))).bind (fun r10 => if a2 = 0 then if ¬ r10 = 0 then some (r8 / r10, r7.2) else none else if ¬ r10 = 0 then some (nI (C 1) / r10, r7.2) else none)))) = some o2 ∧ o1.1 = o2.1 := by
      by_cases c : C 1 = 0
      · simp only [ez, c, ↓reduceIte]
        exact ⟨_, _, rfl, rfl, rfl⟩
      · obtain ⟨x, e1⟩ := zz_innC h hN ht v1 v2 v3 v4
        obtain ⟨w, e2⟩ := zz_innM (sel := sel) (MC.of h hN) ht
        have e3 : fX7_innocent (nI t) gn gl gd sel = some (cIb C m E t (C 1), w) := by
          unfold fX7_innocent
          rw [zz_mT h.2.1 hT, d, hgn]
          simp only [zz_bt, e2, Option.bind_some, ↓reduceIte]
        obtain ⟨k, hk, ek⟩ := cIb_lt (C := C) (m := m) (E := E) (t := t) (C 1) hS6
        obtain ⟨n, hn, p1, p2⟩ := zz_pop k hk
        obtain ⟨q1, q2, q3⟩ := zz_gcd n hn (C 1) (by omega) c
        have e4 : fX7_many (nI k) = some (nI n) := by unfold fX7_many; rw [lpd_FU p2]; rfl
        have e5 : fX7_common (nI n) (nI (C 1)) = some (nI (Nat.gcd n (C 1))) := by unfold fX7_common; rw [lpd_FU q2]; rfl
        have e6 : fX6_commonDivisor (nI n) (nI (C 1)) = some (nI (Nat.gcd n (C 1))) := by unfold fX6_commonDivisor; rw [lpd_FU q1]; rfl
        rw [e1, e3, ek]
        simp only [ez, c, p1, e4, e5, e6, q3, not_false_eq_true, Option.bind_some, ↓reduceIte]
        by_cases c2 : a2 = 0
        · simp only [c2, ↓reduceIte]
          exact ⟨_, _, rfl, rfl, rfl⟩
        · simp only [c2, ↓reduceIte]
          exact ⟨_, _, rfl, rfl, rfl⟩
    by_cases c0 : a2 = 0 ∨ a2 = 1
    · obtain ⟨o1, o2, x1, x2, x3⟩ := body
      have d' : decide (0 ≤ a2.toInt ∧ a2.toInt < (2 : Nat)) = true := by rcases c0 with rfl | rfl <;> decide
      rw [zz_in01, d', d]
      simp only [zz_bt, hi, zz_c1, hgl, Option.bind_some, ↓reduceIte]
      refine ⟨o1, o2, ?_, x2, x3⟩
      unfold jn
      rcases c0 with rfl | rfl
      · simp only [↓reduceIte]; exact x1
      · have c : ¬ (1 : Int32) = 0 := by decide
        simp only [c, ↓reduceIte]
        simp only [c, ↓reduceIte] at x1
        exact x1
    · have n0 : ¬ a2 = 0 := fun e => c0 (Or.inl e)
      have n1 : ¬ a2 = 1 := fun e => c0 (Or.inr e)
      have d' : decide (0 ≤ a2.toInt ∧ a2.toInt < (2 : Nat)) = false := by
        rcases zz_cs a2 2 (by omega) with ⟨t, ht, rfl, -⟩ | ⟨d, -⟩
        · rcases (show t = 0 ∨ t = 1 by omega) with rfl | rfl
          · exact (n0 rfl).elim
          · exact (n1 rfl).elim
        · exact d
      rw [zz_in01, d', d]
      unfold jn
      simp only [zz_bt, zz_bf, n0, n1, Option.bind_some, ↓reduceIte]
      exact ⟨_, _, rfl, rfl, rfl⟩
  · simp only [d, zz_bf, Option.bind_some, ↓reduceIte]
    exact ⟨_, _, rfl, rfl, rfl⟩
