/-! help: the class's reach. -/
/-- a set of states as bits -/
def RB (P : Nat → Prop) (x : Int32) : Prop := ∃ k : Nat, k < 64 ∧ x = nI k ∧ ∀ i, i < 6 → (k.testBit i = true ↔ P i)
theorem zz_bit : ∀ i, i < 6 → ∀ k, k < 64 → ((((nI k) >>> ((nI i) &&& 31)) &&& 1) = 1 ↔ k.testBit i = true) := by decide +kernel
theorem zz_obt : ∀ s, s < 6 → ∀ k, k < 64 → ∀ i, i < 6 → ((k ||| 2 ^ s).testBit i = true ↔ (k.testBit i = true ∨ i = s)) := by decide +kernel
theorem RB.bit {P : Nat → Prop} {x : Int32} (h : RB P x) {i : Nat} (hi : i < 6) : ((x >>> ((nI i) &&& 31)) &&& 1) = 1 ↔ P i := by
  obtain ⟨k, hk, rfl, hp⟩ := h
  exact (zz_bit i hi k hk).trans (hp i hi)
theorem RB.put {P : Nat → Prop} {x : Int32} (h : RB P x) {s : Nat} (hs : s < 6) : RB (fun i => P i ∨ i = s) (x ||| (1 <<< ((nI s) &&& 31))) := by
  obtain ⟨k, hk, rfl, hp⟩ := h
  obtain ⟨h1, h2⟩ := zz_orb s hs k hk
  refine ⟨k ||| 2 ^ s, h2, h1, fun i hi => ?_⟩
  rw [zz_obt s hs k hk i hi, hp i hi]
theorem RB.none : RB (fun _ => False) 0 := ⟨0, by omega, rfl, fun i _ => by rw [Nat.zero_testBit]; simp⟩
theorem RB.congr {P Q : Nat → Prop} {x : Int32} (h : RB P x) (hq : ∀ i, i < 6 → (P i ↔ Q i)) : RB Q x := by
  obtain ⟨k, hk, e, hp⟩ := h
  exact ⟨k, hk, e, fun i hi => (hp i hi).trans (hq i hi)⟩
theorem zz_next {C : Nat → Nat} {m : Nat} {E : Nat → Nat} {ts : Int32} {f g : Nat → Int32} {P : Nat → Prop} {x : Int32} {y nv : Nat} (hO : OKC C) (ets : ts = nI (C 1)) (hf : tabY C f) (hg : tabD C m E g) (hx : RB P x) (hy : y < C 0) (hv : nv ≤ 3) : ∃ r, fX3_reachNext x (nI y) (nI nv) f g ts = some r ∧ RB (fun i => ∃ s v, s < C 1 ∧ P s ∧ v < nv ∧ i = cDee C E y m (cBec C s v)) r := by
  have hS6 : C 1 ≤ 6 := hO.2.2.1
  have hY16 : C 0 ≤ 16 := hO.2.1
  unfold fX3_reachNext
  have l : ∃ r, lpd (fun s1 => sX3_reachNext_6 x (nI y) (nI nv) f g ts s1.1 s1.2) FU (0, 0) = some r ∧ RB (fun i => ∃ s v, s < C 1 ∧ P s ∧ v < nv ∧ i = cDee C E y m (cBec C s v)) r := by
    refine lpd_ex (fun (k : Nat) (s : Int32 × Int32) => s.2 = nI k ∧ RB (fun i => ∃ s v, s < k ∧ P s ∧ v < nv ∧ i = cDee C E y m (cBec C s v)) s.1) (C 1) (by omega) _ ⟨rfl, RB.none.congr (fun i _ => ⟨fun h => h.elim, fun ⟨s, v, h, _⟩ => absurd h (Nat.not_lt_zero s)⟩)⟩ (fun k s hk hI => ?_) (fun s hI => ?_)
    · obtain ⟨i1, i2⟩ := hI
      have c1 : ¬ ts ≤ nI k := by rw [ets, zz_le (by omega) (by omega)]; omega
      have en : nI k + 1 = nI (k + 1) := by rw [zz_1, zz_add]
      have hb := hx.bit (i := k) (by omega)
      by_cases c : P k
      · have l2 : ∃ r, lpd (fun s4 => sX3_reachNext_31 (nI y) (nI nv) (nI k) f g s4.1 s4.2) FU (s.1, 0) = some r ∧ RB (fun i => ∃ s v, s < k + 1 ∧ P s ∧ v < nv ∧ i = cDee C E y m (cBec C s v)) r := by
          refine lpd_ex (fun (n : Nat) (z : Int32 × Int32) => z.2 = nI n ∧ RB (fun i => (∃ s v, s < k ∧ P s ∧ v < nv ∧ i = cDee C E y m (cBec C s v)) ∨ ∃ v, v < n ∧ i = cDee C E y m (cBec C k v)) z.1) nv (by omega) _ ⟨rfl, i2.congr (fun i _ => ⟨fun h => Or.inl h, fun h => h.elim (fun h => h) (fun ⟨v, hv, _⟩ => absurd hv (Nat.not_lt_zero v))⟩)⟩ (fun n z hn hJ => ?_) (fun z hJ => ?_)
          · obtain ⟨j1, j2⟩ := hJ
            have d1 : ¬ nI nv ≤ nI n := by rw [zz_le (by omega) (by omega)]; omega
            have e1 : nI k * 3 + nI n = nI (3 * k + n) := by rw [zz_3, zz_mul, zz_add]; congr 1; omega
            have d2 : inb (nI (3 * k + n)) 18 = true := by rw [zz_inbt (by omega)]; omega
            have hbl := cBec_lt (C := C) (v := n) hk
            have e2 : nI y * 6 + nI (cBec C k n) = nI (6 * y + cBec C k n) := by rw [zz_6, zz_mul, zz_add]; congr 1; omega
            have d3 : inb (nI (6 * y + cBec C k n)) 96 = true := by rw [zz_inbt (by omega)]; omega
            have hdl := cDee_lt (E := E) (y := y) hbl m
            refine ⟨(z.1 ||| (1 <<< ((nI (cDee C E y m (cBec C k n))) &&& 31)), nI (n + 1)), ?_, rfl, ?_⟩
            · unfold sX3_reachNext_31
              simp only [j1, d1, e1, d2, zz_cl (show 3 * k + n < 2147483648 by omega), hf k n hk (show n < 3 by omega), e2, d3, zz_cl (show 6 * y + cBec C k n < 2147483648 by omega), hg y _ hy hbl, ↓reduceIte]
              rw [zz_1, zz_add]
            · refine (j2.put (s := cDee C E y m (cBec C k n)) (by omega)).congr (fun i _ => ⟨fun h => ?_, fun h => ?_⟩)
              · rcases h with (h | ⟨v, h1, h2⟩) | h
                · exact Or.inl h
                · exact Or.inr ⟨v, by omega, h2⟩
                · exact Or.inr ⟨n, by omega, h⟩
              · rcases h with h | ⟨v, h1, h2⟩
                · exact Or.inl (Or.inl h)
                · by_cases c : v = n
                  · subst c; exact Or.inr h2
                  · exact Or.inl (Or.inr ⟨v, by omega, h2⟩)
          · obtain ⟨j1, j2⟩ := hJ
            have d1 : nI nv ≤ nI nv := by rw [zz_le (by omega) (by omega)]; omega
            refine ⟨z.1, ?_, j2.congr (fun i _ => ⟨fun h => ?_, fun h => ?_⟩)⟩
            · unfold sX3_reachNext_31
              simp only [j1, d1, ↓reduceIte]
            · rcases h with ⟨s, v, h1, h2⟩ | ⟨v, h1, h2⟩
              · exact ⟨s, v, by omega, h2⟩
              · exact ⟨k, v, by omega, c, h1, h2⟩
            · obtain ⟨s, v, h1, h2, h3, h4⟩ := h
              by_cases e : s = k
              · subst e; exact Or.inr ⟨v, h3, h4⟩
              · exact Or.inl ⟨s, v, by omega, h2, h3, h4⟩
        obtain ⟨r, er, hr⟩ := l2
        refine ⟨(r, nI (k + 1)), ?_, rfl, hr⟩
        unfold sX3_reachNext_6
        simp only [i1, c1, hb.mpr c, er, en, Option.bind_some, ↓reduceIte]
      · refine ⟨(s.1, nI (k + 1)), ?_, rfl, i2.congr (fun i _ => ⟨fun ⟨s, v, h1, h2⟩ => ⟨s, v, by omega, h2⟩, fun ⟨s, v, h1, h2, h3⟩ => ?_⟩)⟩
        · unfold sX3_reachNext_6
          have hb' : ¬ ((x >>> ((nI k) &&& 31)) &&& 1) = 1 := fun h => c (hb.mp h)
          simp only [i1, c1, hb', en, ↓reduceIte]
        · by_cases e : s = k
          · subst e; exact (c h2).elim
          · exact ⟨s, v, by omega, h2, h3⟩
    · obtain ⟨i1, i2⟩ := hI
      have c1 : ts ≤ nI (C 1) := by rw [ets, zz_le (by omega) (by omega)]; omega
      refine ⟨s.1, ?_, i2⟩
      unfold sX3_reachNext_6
      simp only [i1, c1, ↓reduceIte]
  obtain ⟨r, e, hr⟩ := l
  exact ⟨r, by rw [e]; rfl, hr⟩
theorem zz_reach {C : Nat → Nat} {m : Nat} {E : Nat → Nat} {ty ts tb tt td tq : Int32} {tl tz tc tY tA tB tF tG gl f g : Nat → Int32} {a : Nat} (h : IC C ty ts tb tt td tq tl tz tc tY tA tB tF tG gl) (hf : tabY C f) (hg : tabD C m E g) (ha : 0 < C 1 → a < C 1) (r0 : Nat → Int32) : ∃ r, fX3_reach (nI a) f g ty ts tt tY r0 = some r ∧ ∀ y, y < C 0 → RB (cRe C m E a y) (r y) := by
  obtain ⟨hO, hl, ety, ets, etb, ett, etd, etq, hst, htr, hde⟩ := h
  have hS6 : C 1 ≤ 6 := hO.2.2.1
  have hT3 : C 3 ≤ 3 := hO.2.2.2.2.1
  have hY2 : 2 ≤ C 0 := hO.1
  have hY16 : C 0 ≤ 16 := hO.2.1
  have c2 : inb 0 16 = true := by decide
  have l : ∀ x1, RB (cRe C m E a 0) x1 → ∃ r, lpd (fun s3 => sX3_reach_35 f g ty ts tt tY s3.1 s3.2.1 s3.2.2.1 s3.2.2.2) FU (x1, 0, 1, upd r0 0 x1) = some r ∧ ∀ y, y < C 0 → RB (cRe C m E a y) (r y) := by
    intro x1 hx1
    refine lpd_ex (fun (k : Nat) (s : Int32 × Int32 × Int32 × (Nat → Int32)) => RB (cRe C m E a k) s.1 ∧ s.2.2.1 = nI (k + 1) ∧ (∃ t0, t0 ≤ C 3 ∧ s.2.1 = nI t0 ∧ (∀ t, t < t0 → C (38 + 3 * t) < k) ∧ (∀ t, t0 ≤ t → t < C 3 → k ≤ C (38 + 3 * t))) ∧ ∀ y, y ≤ k → RB (cRe C m E a y) (s.2.2.2 y)) (C 0 - 1) (by omega) _ ⟨hx1, rfl, ⟨0, by omega, rfl, fun t h => by omega, fun t _ _ => by omega⟩, fun y hy => ?_⟩ (fun k s hk hI => ?_) (fun s hI => ?_)
    · have : y = 0 := by omega
      subst this
      show RB _ (upd r0 0 x1 0)
      rw [pk_us]
      exact hx1
    · obtain ⟨i1, i2, ⟨t0, j0, j1, j2, j3⟩, i3⟩ := hI
      have d1 : ¬ nI (C 0) ≤ nI (k + 1) := by rw [zz_le (by omega) (by omega)]; omega
      have d2 : inb (nI (k + 1)) 16 = true := by rw [zz_inbt (by omega)]; omega
      have e1 : nI (k + 1) - 1 = nI k := by rw [zz_1, zz_sub (by omega)]; rfl
      have en : nI (k + 1) + 1 = nI (k + 1 + 1) := by rw [zz_1, zz_add]
      have fin : ∀ nv, nv ≤ 3 → (∀ v, v < nv ↔ v < 3 ∧ (v = 0 ∨ ∃ t, t < C 3 ∧ C (38 + 3 * t) = k)) → ∃ x, fX3_reachNext s.1 (nI (k + 1)) (nI nv) f g ts = some x ∧ RB (cRe C m E a (k + 1)) x := by
        intro nv hnv hiff
        obtain ⟨x, ex, hx⟩ := zz_next (y := k + 1) hO ets hf hg i1 (by omega) hnv
        refine ⟨x, ex, hx.congr (fun i _ => ⟨fun ⟨s', v, h1, h2, h3, h4⟩ => ?_, fun ⟨s', v, h1, h2, h3, h4⟩ => ?_⟩)⟩
        · exact ⟨s', v, h2, ((hiff v).mp h3).1, ((hiff v).mp h3).2, h4⟩
        · exact ⟨s', v, cRe_lt ha k s' h1, h1, (hiff v).mpr ⟨h2, h3⟩, h4⟩
      have upto : ∀ x, RB (cRe C m E a (k + 1)) x → ∀ y, y ≤ k + 1 → RB (cRe C m E a y) (upd s.2.2.2 (k + 1) x y) := by
        intro x hx y hy
        by_cases hyk : y = k + 1
        · subst hyk; rw [pk_us]; exact hx
        · rw [pk_un hyk]; exact i3 y (by omega)
      have none1 : (∀ t, t < C 3 → C (38 + 3 * t) ≠ k) → ∀ v, v < 1 ↔ v < 3 ∧ (v = 0 ∨ ∃ t, t < C 3 ∧ C (38 + 3 * t) = k) := by
        intro hn v
        constructor
        · intro hv; exact ⟨by omega, Or.inl (by omega)⟩
        · intro ⟨_, hh⟩
          rcases hh with hh | ⟨t, q1, q2⟩
          · omega
          · exact (hn t q1 q2).elim
      by_cases a1 : C 3 ≤ t0
      · have b1 : nI (C 3) ≤ nI t0 := by rw [zz_le (by omega) (by omega)]; exact a1
        obtain ⟨x, ex, hx⟩ := fin 1 (by omega) (none1 (fun t ht => by have := j2 t (by omega); omega))
        rw [← zz_1] at ex
        refine ⟨(x, nI t0, nI (k + 1 + 1), upd s.2.2.2 (k + 1) x), ?_, hx, rfl, ⟨t0, j0, rfl, fun t h => by have := j2 t h; omega, fun t h1 h2 => by omega⟩, upto x hx⟩
        unfold sX3_reach_35
        simp only [jn, i2, j1, ety, ett, d1, d2, b1, ex, en, zz_cl (show k + 1 < 2147483648 by omega), Option.bind_some, ↓reduceIte]
      · have b1 : ¬ nI (C 3) ≤ nI t0 := by rw [zz_le (by omega) (by omega)]; exact a1
        have b2 : inb (nI t0) 3 = true := by rw [zz_inbt (by omega)]; omega
        have htY := (htr t0 (by omega)).1
        have hb3 := (hO.2.2.2.2.2.2.2.2.2.1 t0 (by omega))
        by_cases a2 : C (38 + 3 * t0) = k
        · obtain ⟨x, ex, hx⟩ := fin 3 (by omega) (fun v => ⟨fun hv => ⟨hv, Or.inr ⟨t0, by omega, a2⟩⟩, fun hv => hv.1⟩)
          rw [← zz_3] at ex
          refine ⟨(x, nI (t0 + 1), nI (k + 1 + 1), upd s.2.2.2 (k + 1) x), ?_, hx, rfl, ⟨t0 + 1, by omega, rfl, fun t h => ?_, fun t h1 h2 => ?_⟩, upto x hx⟩
          · unfold sX3_reach_35
            have b3 : nI (C (38 + 3 * t0)) = nI k := by rw [a2]
            simp only [jn, i2, j1, ety, ett, d1, d2, b1, b2, e1, zz_cl (show t0 < 2147483648 by omega), htY, b3, ex, en, zz_cl (show k + 1 < 2147483648 by omega), Option.bind_some, ↓reduceIte]
            rw [zz_1, zz_add]
          · by_cases htt : t = t0
            · subst htt; omega
            · have := j2 t (by omega); omega
          · have := tY_mono hO (show t0 < t by omega) h2; omega
        · have b3 : ¬ nI (C (38 + 3 * t0)) = nI k := by rw [zz_eq (by omega) (by omega)]; exact a2
          obtain ⟨x, ex, hx⟩ := fin 1 (by omega) (none1 (fun t ht he => by
            by_cases htt : t < t0
            · have := j2 t htt; omega
            · by_cases htt2 : t = t0
              · subst htt2; exact a2 he
              · have h1 := tY_mono hO (show t0 < t by omega) ht
                have h2 := j3 t0 (Nat.le_refl _) (by omega)
                omega))
          rw [← zz_1] at ex
          refine ⟨(x, nI t0, nI (k + 1 + 1), upd s.2.2.2 (k + 1) x), ?_, hx, rfl, ⟨t0, j0, rfl, fun t h => by have := j2 t h; omega, fun t h1 h2 => ?_⟩, upto x hx⟩
          · unfold sX3_reach_35
            simp only [jn, i2, j1, ety, ett, d1, d2, b1, b2, e1, zz_cl (show t0 < 2147483648 by omega), htY, b3, ex, en, zz_cl (show k + 1 < 2147483648 by omega), Option.bind_some, ↓reduceIte]
          · have h3 := j3 t0 (Nat.le_refl _) (by omega)
            by_cases htt2 : t = t0
            · subst htt2; omega
            · have h1 := tY_mono hO (show t0 < t by omega) h2
              omega
    · obtain ⟨i1, i2, -, i3⟩ := hI
      refine ⟨s.2.2.2, ?_, fun y hy => i3 y (by omega)⟩
      unfold sX3_reach_35
      have d1 : nI (C 0) ≤ nI (C 0 - 1 + 1) := by rw [zz_le (by omega) (by omega)]; omega
      simp only [i2, ety, d1, ↓reduceIte]
  have ez : (nI (C 1) = 0) = (C 1 = 0) := by rw [zz_0, zz_eq (by omega) (by omega)]
  unfold fX3_reach jn
  by_cases c : C 1 = 0
  · obtain ⟨r, er, hr⟩ := l 0 (RB.none.congr (fun i _ => ⟨fun h => h.elim, fun h => absurd h.1 (by omega)⟩))
    refine ⟨r, ?_, hr⟩
    simp only [ets, ez, c, c2, zz_c0, ↓reduceIte]
    simp only [ets, c] at er
    rw [er]
    rfl
  · have hal := ha (by omega)
    have c1 : inb (nI a) 96 = true := by rw [zz_inbt (by omega)]; omega
    have g0 : g a = nI (cDee C E 0 m a) := by
      have := hg 0 a (by omega) hal
      rw [show 6 * 0 + a = a by omega] at this
      exact this
    have hdl := cDee_lt (E := E) (y := 0) hal m
    obtain ⟨r, er, hr⟩ := l (1 <<< ((nI (cDee C E 0 m a)) &&& 31)) (by
      have := (RB.none.put (s := cDee C E 0 m a) (by omega)).congr (Q := cRe C m E a 0) (fun i _ => ⟨fun h => ⟨by omega, h.elim (fun h => h.elim) (fun h => h)⟩, fun h => Or.inr h.2⟩)
      rw [show (0 : Int32) ||| (1 <<< ((nI (cDee C E 0 m a)) &&& 31)) = 1 <<< ((nI (cDee C E 0 m a)) &&& 31) from by rw [Int32.or_comm, zz_or0]] at this
      exact this)
    refine ⟨r, ?_, hr⟩
    simp only [ets, ez, c, c1, c2, zz_c0, zz_cl (show a < 2147483648 by omega), g0, ↓reduceIte]
    simp only [ets] at er
    rw [er]
    rfl
