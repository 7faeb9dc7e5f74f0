/-! help: the reference's search; help alike on both sides. -/
theorem MC.add {C : Nat → Nat} {m : Nat} {E : Nat → Nat} {gl gd : Nat → Int32} {y d : Nat} (h : MC C m E gl gd) (hm : m ≤ 7) (hy : y < C 0) (hd : d < C 5) : MC C (m + 1) (cAdd m E y d) gl (upd (upd gd (2 * m) (nI y)) (2 * m + 1) (nI d)) := by
  refine ⟨h.1, h.2.1, by omega, OKE.add h.2.2.2.1 hy hd, fun i hi => ?_⟩
  unfold cAdd
  by_cases c1 : i = 2 * m + 1
  · subst c1
    rw [pk_us, if_neg (by omega), if_pos rfl]
  · rw [pk_un c1]
    by_cases c2 : i = 2 * m
    · subst c2
      rw [pk_us, if_pos rfl]
    · rw [pk_un c2, if_neg c2, if_neg c1]
      exact h.2.2.2.2 i (by omega)
theorem MC.drop {C : Nat → Nat} {m : Nat} {E : Nat → Nat} {gl gd : Nat → Int32} {x y : Int32} (h : MC C m E gl gd) : MC C m E gl (upd (upd gd (2 * m) x) (2 * m + 1) y) := by
  refine ⟨h.1, h.2.1, h.2.2.1, h.2.2.2.1, fun i hi => ?_⟩
  rw [pk_un (by omega), pk_un (by omega)]
  exact h.2.2.2.2 i hi
theorem MC.drop2 {C : Nat → Nat} {m : Nat} {E : Nat → Nat} {gl gd : Nat → Int32} {x y z w : Int32} (h : MC C m E gl gd) : MC C m E gl (upd (upd (upd (upd gd (2 * m) x) (2 * m + 1) y) (2 * (m + 1)) z) (2 * (m + 1) + 1) w) := by
  refine ⟨h.1, h.2.1, h.2.2.1, h.2.2.2.1, fun i hi => ?_⟩
  rw [pk_un (by omega), pk_un (by omega), pk_un (by omega), pk_un (by omega)]
  exact h.2.2.2.2 i hi
def hA1 (C : Nat → Nat) (w a : Nat) : Int32 := if w = 0 then 1 else if w = 1 then hCode C a else -5
def hA2 (C : Nat → Nat) (w a b : Nat) : Int32 := if w = 0 then 2 else if w = 1 then hCode C a else hCode C b
theorem zz_cod {C : Nat → Nat} {a : Nat} (hO : OKC C) (ha : a < C 0 * C 5) : a / C 5 < C 0 ∧ a % C 5 < C 5 ∧ ¬ C 5 = 0 ∧ C 0 * C 5 ≤ 64 ∧ nI a / nI (C 5) = nI (a / C 5) ∧ nI a - nI (a / C 5) * nI (C 5) = nI (a % C 5) ∧ ¬ hCode C a = -9 := by
  have hD4 : C 5 ≤ 4 := hO.2.2.2.2.2.2.2.1
  have hY16 : C 0 ≤ 16 := hO.2.1
  have hle : C 0 * C 5 ≤ 16 * 4 := Nat.mul_le_mul hY16 hD4
  have hn5 : ¬ C 5 = 0 := fun c => by rw [c, Nat.mul_zero] at ha; omega
  have h1 : a / C 5 < C 0 := Nat.div_lt_of_lt_mul (by rw [Nat.mul_comm]; exact ha)
  have h2 : a % C 5 < C 5 := Nat.mod_lt _ (by omega)
  have e1 : nI a / nI (C 5) = nI (a / C 5) := zz_div (by omega) (by omega) (by omega)
  refine ⟨h1, h2, hn5, hle, e1, ?_, ?_⟩
  · rw [← e1, zz_rem (by omega) (by omega) (by omega)]
  · unfold hCode
    rw [zz_10, zz_mul, zz_add]
    intro e
    have := congrArg Int32.toInt e
    rw [zz_ti (by omega)] at this
    have e9 : (-9 : Int32).toInt = -9 := by decide
    rw [e9] at this
    omega
theorem hA1_n {C : Nat → Nat} {w a : Nat} (hO : OKC C) (ha : a < C 0 * C 5) : ¬ hA1 C w a = -9 := by
  unfold hA1
  by_cases c : w = 0
  · rw [if_pos c]; decide
  · rw [if_neg c]
    by_cases c2 : w = 1
    · rw [if_pos c2]; exact (zz_cod hO ha).2.2.2.2.2.2
    · rw [if_neg c2]; decide
theorem hA2_n {C : Nat → Nat} {w a b : Nat} (hO : OKC C) (ha : a < C 0 * C 5) (hb : b < C 0 * C 5) : ¬ hA2 C w a b = -9 := by
  unfold hA2
  by_cases c : w = 0
  · rw [if_pos c]; decide
  · rw [if_neg c]
    by_cases c2 : w = 1
    · rw [if_pos c2]; exact (zz_cod hO ha).2.2.2.2.2.2
    · rw [if_neg c2]; exact (zz_cod hO hb).2.2.2.2.2.2
theorem zz_oneM {C : Nat → Nat} {m : Nat} {E : Nat → Nat} {gl gd sel : Nat → Int32} {t w : Nat} (h : MC C m E gl gd) (hm : m ≤ 6) (ht : t < C 3) (hw : w < 3) : ∃ e : Int32 × Int32 × (Nat → Int32) × (Nat → Int32), lpd (fun s10 => sX7_help_73 (nI t) (nI w) (nI m) (nI (C 0 * C 5)) gl s10.1 s10.2.1 s10.2.2.1 s10.2.2.2.1 s10.2.2.2.2) FU ((-9), 0, nI m, gd, sel) = some e ∧ e.2.1 = nI m ∧ MC C m E gl e.2.2.1 ∧ ((e.1 = -9 ∧ ∀ z, z < C 0 * C 5 → ¬ hOne C m E t z) ∨ ∃ a, hFirst C (hOne C m E t) a ∧ e.1 = hA1 C w a) := by
  have hO := h.1
  have hD4 : C 5 ≤ 4 := h.1.2.2.2.2.2.2.2.1
  have hY16 : C 0 ≤ 16 := h.1.2.1
  have hle : C 0 * C 5 ≤ 16 * 4 := Nat.mul_le_mul hY16 hD4
  have hi : inb 5 55 = true := by decide
  have hgl := h.2.1 5 (by omega)
  have ez : (nI (C 5) = 0) = (C 5 = 0) := by rw [zz_0, zz_eq (by omega) (by omega)]
  refine lpd_ex2 (fun (k : Nat) (s : Int32 × Int32 × Int32 × (Nat → Int32) × (Nat → Int32)) => s.2.1 = nI k ∧ s.2.2.1 = nI m ∧ MC C m E gl s.2.2.2.1 ∧ ((s.1 = -9 ∧ ∀ z, z < k → ¬ hOne C m E t z) ∨ ∃ a, hFirst C (hOne C m E t) a ∧ s.1 = hA1 C w a)) (C 0 * C 5) (by omega) _ ⟨rfl, rfl, h, Or.inl ⟨rfl, fun z hz => absurd hz (Nat.not_lt_zero z)⟩⟩ (fun k s hk hI => ?_) (fun s hI => ?_)
  · obtain ⟨i1, i2, i3, i4⟩ := hI
    have c1 : ¬ nI (C 0 * C 5) ≤ nI k := by rw [zz_le (by omega) (by omega)]; omega
    obtain ⟨y1, d1, n5, -, x1, x2, -⟩ := zz_cod h.1 hk
    rcases i4 with ⟨j1, j2⟩ | ⟨a, j1, j2⟩
    · have hmc := MC.add i3 (by omega) y1 d1
      obtain ⟨wS, eS⟩ := zz_sureM (sel := s.2.2.2.2) (a := cBeg C) hmc (fun hp => cBeg_lt hp) ht
      have hacq := cSr_acq (C := C) (m := m + 1) (E := cAdd m E (k / C 5) (k % C 5)) (a := cBeg C) (t := t)
      have en : nI k + 1 = nI (k + 1) := by rw [zz_1, zz_add]
      have base : ∀ x, x = (if cSr C (m + 1) (cAdd m E (k / C 5) (k % C 5)) (cBeg C) (C 4) t (cRows C) = 2 then hA1 C w k else -9) → sX7_help_73 (nI t) (nI w) (nI m) (nI (C 0 * C 5)) gl s.1 s.2.1 s.2.2.1 s.2.2.2.1 s.2.2.2.2 = some (.inl (x, nI (k + 1), nI m, upd (upd s.2.2.2.1 (2 * m) (nI (k / C 5))) (2 * m + 1) (nI (k % C 5)), wS)) := by
        intro x hx
        unfold sX7_help_73 jn
        simp only [i1, i2, j1, c1, hi, zz_c5, hgl, ez, n5, x1, x2, zz_adds (show m ≤ 7 by omega), zz_begM h.1 h.2.1, eS, en, not_false_eq_true, Option.bind_some, ↓reduceIte]
        rw [hx]
        by_cases c : cSr C (m + 1) (cAdd m E (k / C 5) (k % C 5)) (cBeg C) (C 4) t (cRows C) = 2
        · simp only [c, ↓reduceIte]
          unfold hA1
          rcases zz_c01 hw with ⟨rfl, r1, r2, r3⟩ | ⟨rfl, r1, r2, r3⟩ | ⟨rfl, r1, r2, r3⟩
          · rfl
          · rfl
          · rfl
        · simp only [c, ↓reduceIte]
      by_cases c : cSr C (m + 1) (cAdd m E (k / C 5) (k % C 5)) (cBeg C) (C 4) t (cRows C) = 2
      · refine Or.inl ⟨_, base (hA1 C w k) (by rw [if_pos c]), rfl, rfl, i3.drop, Or.inr ⟨k, ⟨hk, hacq.mp c, j2⟩, rfl⟩⟩
      · refine Or.inl ⟨_, base (-9) (by rw [if_neg c]), rfl, rfl, i3.drop, Or.inl ⟨rfl, fun z hz hh => ?_⟩⟩
        by_cases c2 : z = k
        · subst c2; exact c (hacq.mpr hh)
        · exact j2 z (by omega) hh
    · refine Or.inr ⟨(s.1, s.2.2.1, s.2.2.2.1, s.2.2.2.2), ?_, i2, i3, Or.inr ⟨a, j1, j2⟩⟩
      unfold sX7_help_73
      have n9 : ¬ s.1 = -9 := by rw [j2]; exact hA1_n h.1 j1.1
      simp only [i1, c1, n9, ↓reduceIte]
  · obtain ⟨i1, i2, i3, i4⟩ := hI
    have c1 : nI (C 0 * C 5) ≤ nI (C 0 * C 5) := by rw [zz_le (by omega) (by omega)]; omega
    refine ⟨(s.1, s.2.2.1, s.2.2.2.1, s.2.2.2.2), ?_, i2, i3, i4⟩
    unfold sX7_help_73
    simp only [i1, c1, ↓reduceIte]
theorem zz_twoM1 {C : Nat → Nat} {m : Nat} {E : Nat → Nat} {gl gd sel : Nat → Int32} {t w a : Nat} (h : MC C m E gl gd) (hm : m ≤ 6) (ht : t < C 3) (hw : w < 3) (ha : a < C 0 * C 5) : ∃ e : Int32 × Int32 × (Nat → Int32) × (Nat → Int32), lpd (fun s14 => sX7_help_200 (nI t) (nI w) (nI m) (nI (C 0 * C 5)) (nI a) gl s14.1 s14.2.1 s14.2.2.1 s14.2.2.2.1 s14.2.2.2.2) FU ((-9), 0, nI m, gd, sel) = some e ∧ e.2.1 = nI m ∧ MC C m E gl e.2.2.1 ∧ ((e.1 = -9 ∧ ∀ z, z < C 0 * C 5 → ¬ hTwo C m E t a z) ∨ ∃ b, hFirst C (hTwo C m E t a) b ∧ e.1 = hA2 C w a b) := by
  have hO := h.1
  have hD4 : C 5 ≤ 4 := h.1.2.2.2.2.2.2.2.1
  have hY16 : C 0 ≤ 16 := h.1.2.1
  have hle : C 0 * C 5 ≤ 16 * 4 := Nat.mul_le_mul hY16 hD4
  have hi : inb 5 55 = true := by decide
  have hgl := h.2.1 5 (by omega)
  have ez : (nI (C 5) = 0) = (C 5 = 0) := by rw [zz_0, zz_eq (by omega) (by omega)]
  obtain ⟨ya, da, n5, -, xa, xa2, -⟩ := zz_cod h.1 ha
  refine lpd_ex2 (fun (k : Nat) (s : Int32 × Int32 × Int32 × (Nat → Int32) × (Nat → Int32)) => s.2.1 = nI k ∧ s.2.2.1 = nI m ∧ MC C m E gl s.2.2.2.1 ∧ ((s.1 = -9 ∧ ∀ z, z < k → ¬ hTwo C m E t a z) ∨ ∃ b, hFirst C (hTwo C m E t a) b ∧ s.1 = hA2 C w a b)) (C 0 * C 5) (by omega) _ ⟨rfl, rfl, h, Or.inl ⟨rfl, fun z hz => absurd hz (Nat.not_lt_zero z)⟩⟩ (fun k s hk hI => ?_) (fun s hI => ?_)
  · obtain ⟨i1, i2, i3, i4⟩ := hI
    have c1 : ¬ nI (C 0 * C 5) ≤ nI k := by rw [zz_le (by omega) (by omega)]; omega
    obtain ⟨y1, d1, -, -, x1, x2, -⟩ := zz_cod h.1 hk
    rcases i4 with ⟨j1, j2⟩ | ⟨b, j1, j2⟩
    · have hmc := MC.add (MC.add i3 (by omega) ya da) (by omega) y1 d1
      obtain ⟨wS, eS⟩ := zz_sureM (sel := s.2.2.2.2) (a := cBeg C) hmc (fun hp => cBeg_lt hp) ht
      have hacq : _ ↔ hTwo C m E t a k := cSr_acq (C := C) (m := m + 1 + 1) (E := cAdd (m + 1) (cAdd m E (a / C 5) (a % C 5)) (k / C 5) (k % C 5)) (a := cBeg C) (t := t)
      have en : nI k + 1 = nI (k + 1) := by rw [zz_1, zz_add]
      have base : ∀ x, x = (if cSr C (m + 1 + 1) (cAdd (m + 1) (cAdd m E (a / C 5) (a % C 5)) (k / C 5) (k % C 5)) (cBeg C) (C 4) t (cRows C) = 2 then hA2 C w a k else -9) → sX7_help_200 (nI t) (nI w) (nI m) (nI (C 0 * C 5)) (nI a) gl s.1 s.2.1 s.2.2.1 s.2.2.2.1 s.2.2.2.2 = some (.inl (x, nI (k + 1), nI m, upd (upd (upd (upd s.2.2.2.1 (2 * m) (nI (a / C 5))) (2 * m + 1) (nI (a % C 5))) (2 * (m + 1)) (nI (k / C 5))) (2 * (m + 1) + 1) (nI (k % C 5)), wS)) := by
        intro x hx
        unfold sX7_help_200 jn
        simp only [i1, i2, j1, c1, hi, zz_c5, hgl, ez, n5, xa, xa2, x1, x2, zz_adds (show m ≤ 7 by omega), zz_adds (show m + 1 ≤ 7 by omega), zz_begM h.1 h.2.1, eS, en, not_false_eq_true, Option.bind_some, ↓reduceIte]
        rw [hx]
        unfold hA2
        rcases zz_c01 hw with ⟨rfl, r1, r2, r3⟩ | ⟨rfl, r1, r2, r3⟩ | ⟨rfl, r1, r2, r3⟩
        · have z1 : ¬ (0 : Int32) = 1 := by decide
          simp only [r1, z1, ↓reduceIte]
          by_cases c : cSr C (m + 1 + 1) (cAdd (m + 1) (cAdd m E (a / C 5) (a % C 5)) (k / C 5) (k % C 5)) (cBeg C) (C 4) t (cRows C) = 2
          · simp only [c, ↓reduceIte]
          · simp only [c, ↓reduceIte]
        · have w0 : ¬ (1 : Nat) = 0 := by omega
          simp only [r1, r2, w0, xa, xa2, ↓reduceIte]
          by_cases c : cSr C (m + 1 + 1) (cAdd (m + 1) (cAdd m E (a / C 5) (a % C 5)) (k / C 5) (k % C 5)) (cBeg C) (C 4) t (cRows C) = 2
          · simp only [c, ↓reduceIte]
            rfl
          · simp only [c, ↓reduceIte]
        · have w0 : ¬ (2 : Nat) = 0 := by omega
          have w1 : ¬ (2 : Nat) = 1 := by omega
          simp only [r1, r2, w0, w1, x1, x2, ↓reduceIte]
          by_cases c : cSr C (m + 1 + 1) (cAdd (m + 1) (cAdd m E (a / C 5) (a % C 5)) (k / C 5) (k % C 5)) (cBeg C) (C 4) t (cRows C) = 2
          · simp only [c, ↓reduceIte]
            rfl
          · simp only [c, ↓reduceIte]
      by_cases c : cSr C (m + 1 + 1) (cAdd (m + 1) (cAdd m E (a / C 5) (a % C 5)) (k / C 5) (k % C 5)) (cBeg C) (C 4) t (cRows C) = 2
      · refine Or.inl ⟨_, base (hA2 C w a k) (by rw [if_pos c]), rfl, rfl, i3.drop2, Or.inr ⟨k, ⟨hk, hacq.mp c, j2⟩, rfl⟩⟩
      · refine Or.inl ⟨_, base (-9) (by rw [if_neg c]), rfl, rfl, i3.drop2, Or.inl ⟨rfl, fun z hz hh => ?_⟩⟩
        by_cases c2 : z = k
        · subst c2; exact c (hacq.mpr hh)
        · exact j2 z (by omega) hh
    · refine Or.inr ⟨(s.1, s.2.2.1, s.2.2.2.1, s.2.2.2.2), ?_, i2, i3, Or.inr ⟨b, j1, j2⟩⟩
      unfold sX7_help_200
      have n9 : ¬ s.1 = -9 := by rw [j2]; exact hA2_n h.1 ha j1.1
      simp only [i1, c1, n9, ↓reduceIte]
  · obtain ⟨i1, i2, i3, i4⟩ := hI
    have c1 : nI (C 0 * C 5) ≤ nI (C 0 * C 5) := by rw [zz_le (by omega) (by omega)]; omega
    refine ⟨(s.1, s.2.2.1, s.2.2.2.1, s.2.2.2.2), ?_, i2, i3, i4⟩
    unfold sX7_help_200
    simp only [i1, c1, ↓reduceIte]
theorem zz_twoM {C : Nat → Nat} {m : Nat} {E : Nat → Nat} {gl gd sel : Nat → Int32} {t w : Nat} {x : Int32} (h : MC C m E gl gd) (hm : m ≤ 6) (ht : t < C 3) (hw : w < 3) : ∃ e : Int32 × Int32 × (Nat → Int32) × (Nat → Int32), lpd (fun s11 => sX7_help_183 (nI t) (nI w) (nI m) (nI (C 0 * C 5)) gl s11.1 s11.2.1 s11.2.2.1 s11.2.2.2.1 s11.2.2.2.2) FU (x, 0, nI m, gd, sel) = some e ∧ e.2.1 = nI m ∧ MC C m E gl e.2.2.1 ∧ (¬ x = -9 ∧ e.1 = x ∨ x = -9 ∧ ((e.1 = -9 ∧ ∀ a b, a < C 0 * C 5 → b < C 0 * C 5 → ¬ hTwo C m E t a b) ∨ ∃ a b, hFirst C (fun a => ∃ b, b < C 0 * C 5 ∧ hTwo C m E t a b) a ∧ hFirst C (hTwo C m E t a) b ∧ e.1 = hA2 C w a b)) := by
  have hD4 : C 5 ≤ 4 := h.1.2.2.2.2.2.2.2.1
  have hY16 : C 0 ≤ 16 := h.1.2.1
  have hle : C 0 * C 5 ≤ 16 * 4 := Nat.mul_le_mul hY16 hD4
  refine lpd_ex2 (fun (k : Nat) (s : Int32 × Int32 × Int32 × (Nat → Int32) × (Nat → Int32)) => s.2.1 = nI k ∧ s.2.2.1 = nI m ∧ MC C m E gl s.2.2.2.1 ∧ (¬ x = -9 ∧ s.1 = x ∨ x = -9 ∧ ((s.1 = -9 ∧ ∀ a b, a < k → b < C 0 * C 5 → ¬ hTwo C m E t a b) ∨ ∃ a b, hFirst C (fun a => ∃ b, b < C 0 * C 5 ∧ hTwo C m E t a b) a ∧ hFirst C (hTwo C m E t a) b ∧ s.1 = hA2 C w a b))) (C 0 * C 5) (by omega) _ ⟨rfl, rfl, h, ?_⟩ (fun k s hk hI => ?_) (fun s hI => ?_)
  · by_cases c : x = -9
    · exact Or.inr ⟨c, Or.inl ⟨c, fun a b ha => absurd ha (Nat.not_lt_zero a)⟩⟩
    · exact Or.inl ⟨c, rfl⟩
  · obtain ⟨i1, i2, i3, i4⟩ := hI
    have c1 : ¬ nI (C 0 * C 5) ≤ nI k := by rw [zz_le (by omega) (by omega)]; omega
    have en : nI k + 1 = nI (k + 1) := by rw [zz_1, zz_add]
    have stop : ¬ s.1 = -9 → sX7_help_183 (nI t) (nI w) (nI m) (nI (C 0 * C 5)) gl s.1 s.2.1 s.2.2.1 s.2.2.2.1 s.2.2.2.2 = some (.inr (s.1, s.2.2.1, s.2.2.2.1, s.2.2.2.2)) := by
      intro n9
      unfold sX7_help_183
      simp only [i1, c1, n9, ↓reduceIte]
    rcases i4 with ⟨j0, j1⟩ | ⟨j0, ⟨j1, j2⟩ | ⟨a, b, j1, j2, j3⟩⟩
    · exact Or.inr ⟨_, stop (by rw [j1]; exact j0), i2, i3, Or.inl ⟨j0, j1⟩⟩
    · obtain ⟨e, el, e2, e3, he⟩ := zz_twoM1 (sel := s.2.2.2.2) i3 hm ht hw hk
      refine Or.inl ⟨(e.1, nI (k + 1), e.2.1, e.2.2.1, e.2.2.2), ?_, rfl, e2, e3, Or.inr ⟨j0, ?_⟩⟩
      · unfold sX7_help_183
        simp only [i1, i2, j1, c1, el, en, Option.bind_some, ↓reduceIte]
      · rcases he with ⟨q1, q2⟩ | ⟨b, q1, q2⟩
        · refine Or.inl ⟨q1, fun a b ha hb hh => ?_⟩
          by_cases c : a = k
          · subst c; exact q2 b hb hh
          · exact j2 a b (by omega) hb hh
        · exact Or.inr ⟨k, b, ⟨hk, ⟨b, q1.1, q1.2.1⟩, fun z hz ⟨b', hb', hh⟩ => j2 z b' hz hb' hh⟩, q1, q2⟩
    · exact Or.inr ⟨_, stop (by rw [j3]; exact hA2_n h.1 j1.1 j2.1), i2, i3, Or.inr ⟨j0, Or.inr ⟨a, b, j1, j2, j3⟩⟩⟩
  · obtain ⟨i1, i2, i3, i4⟩ := hI
    have c1 : nI (C 0 * C 5) ≤ nI (C 0 * C 5) := by rw [zz_le (by omega) (by omega)]; omega
    refine ⟨(s.1, s.2.2.1, s.2.2.2.1, s.2.2.2.2), ?_, i2, i3, i4⟩
    unfold sX7_help_183
    simp only [i1, c1, ↓reduceIte]
theorem zz_in02 (a : Int32) : fX7_in a.toInt64 0 2 = some (decide (0 ≤ a.toInt ∧ a.toInt < (3 : Nat))) := zz_ch (n := 2) (by decide)
def hSel (w : Nat) (h0 h1 h2 : Int32) : Int32 := if w = 0 then h0 else if w = 1 then h1 else h2
theorem zz_helpM {C : Nat → Nat} {m : Nat} {E : Nat → Nat} {gl gd sel : Nat → Int32} {t w : Nat} (h : MC C m E gl gd) (hm : m ≤ 6) (ht : t < C 3) (hw : w < 3) : ∃ h0 h1 h2 o, HL C m E t h0 h1 h2 ∧ fX7_help (nI t) (nI w) (nI m) gl gd sel = some o ∧ o.1 = hSel w h0 h1 h2 ∧ o.2.1 = nI m ∧ MC C m E gl o.2.2.1 := by
  have hT3 : C 3 ≤ 3 := h.1.2.2.2.2.1
  have hD4 : C 5 ≤ 4 := h.1.2.2.2.2.2.2.2.1
  have hY16 : C 0 ≤ 16 := h.1.2.1
  have d1 : decide (0 ≤ (nI t).toInt ∧ (nI t).toInt < (C 3 : Nat)) = true := decide_eq_true (by rw [zz_ti (by omega)]; omega)
  have d2 : decide (0 ≤ (nI w).toInt ∧ (nI w).toInt < (3 : Nat)) = true := decide_eq_true (by rw [zz_ti (by omega)]; omega)
  obtain ⟨wS, eS⟩ := zz_sureM (sel := sel) (a := cBeg C) h (fun hp => cBeg_lt hp) ht
  have hacq := cSr_acq (C := C) (m := m) (E := E) (a := cBeg C) (t := t)
  have hi0 : inb 0 55 = true := by decide
  have hi5 : inb 5 55 = true := by decide
  have g0 := h.2.1 0 (by omega)
  have g5 := h.2.1 5 (by omega)
  unfold fX7_help
  rw [zz_mT h.2.1 hT3, d1, zz_in02, d2]
  simp only [zz_bt, zz_begM h.1 h.2.1, eS, Option.bind_some, ↓reduceIte]
  have ew0 : (nI w = 0) = (w = 0) := by rw [zz_0, zz_eq (by omega) (by omega)]
  by_cases c : cSr C m E (cBeg C) (C 4) t (cRows C) = 2
  · simp only [c, ew0, ↓reduceIte]
    by_cases c0 : w = 0
    · rw [if_pos c0]
      exact ⟨0, -5, -5, _, Or.inl ⟨hacq.mp c, rfl, rfl, rfl⟩, rfl, by unfold hSel; rw [if_pos c0], rfl, h⟩
    · rw [if_neg c0]
      exact ⟨0, -5, -5, _, Or.inl ⟨hacq.mp c, rfl, rfl, rfl⟩, rfl, by unfold hSel; rw [if_neg c0]; by_cases c1 : w = 1 <;> simp [c1], rfl, h⟩
  · have hn : ¬ cAcq C m E (cBeg C) t := fun hh => c (hacq.mpr hh)
    obtain ⟨e, el, e2, e3, he⟩ := zz_oneM (sel := wS) h hm ht hw
    obtain ⟨e', el', e2', e3', he'⟩ := zz_twoM (x := e.1) (sel := e.2.2.2) e3 hm ht hw
    simp only [c, hi0, hi5, zz_c0, zz_c5, g0, g5, zz_mul, el, Option.bind_some, e2, el', ↓reduceIte]
    rcases he with ⟨q1, q2⟩ | ⟨a, q1, q2⟩
    · rcases he' with ⟨p1, -⟩ | ⟨-, ⟨p1, p2⟩ | ⟨a, b, p1, p2, p3⟩⟩
      · exact (p1 q1).elim
      · refine ⟨-9, -9, -9, _, Or.inr ⟨hn, Or.inr ⟨q2, Or.inr ⟨p2, rfl, rfl, rfl⟩⟩⟩, rfl, ?_, e2', e3'⟩
        show e'.1 = _
        rw [p1]
        unfold hSel
        by_cases c0 : w = 0 <;> by_cases c1 : w = 1 <;> simp [c0, c1]
      · exact ⟨2, hCode C a, hCode C b, _, Or.inr ⟨hn, Or.inr ⟨q2, Or.inl ⟨a, b, p1, p2, rfl, rfl, rfl⟩⟩⟩, rfl, p3, e2', e3'⟩
    · rcases he' with ⟨-, p1⟩ | ⟨p0, -⟩
      · refine ⟨1, hCode C a, -5, _, Or.inr ⟨hn, Or.inl ⟨a, q1, rfl, rfl, rfl⟩⟩, rfl, ?_, e2', e3'⟩
        show e'.1 = _
        rw [p1, q2]
        rfl
      · rw [q2] at p0
        exact (hA1_n h.1 q1.1 p0).elim
theorem p_help {C : Nat → Nat} {m : Nat} {E : Nat → Nat} {ty ts tb tt td tq ds gn a1 a2 : Int32} {tl tz tc tY tA tB tF tG gl dy dk gd kn kh kf ks : Nat → Int32} (h : IC C ty ts tb tt td tq tl tz tc tY tA tB tF tG gl) (hN : HN C m E ds dy dk gn gd) (hC : CH C m E kn kh kf ks) (vt qt : Nat) (v5 v6 : Int32) (v1 v2 v3 v4 ky ky2 r r2 sel : Nat → Int32) : ∃ o1 o2, fX6_help a1 a2 ty ts tb tt td tq tl tz tc tY tA tB tF tG vt v5 v6 v1 v2 v3 v4 kn kh kf ks ky ky2 r r2 ds dy dk qt = some o1 ∧ fX7_help a1 a2 gn gl gd sel = some o2 ∧ o1.1 = o2.1 ∧ CH C m E o1.2.2.2.2.2.2.2.2.1 o1.2.2.2.2.2.2.2.2.2.1 o1.2.2.2.2.2.2.2.2.2.2.1 o1.2.2.2.2.2.2.2.2.2.2.2.1 ∧ HN C m E ds dy dk o2.2.1 o2.2.2.1 := by
  have hT : C 3 ≤ 3 := h.1.2.2.2.2.1
  have htt : tt = nI (C 3) := h.2.2.2.2.2.1
  subst htt
  have hgn : gn = nI m := hN.2.2.2.1
  have hm6 := hN.1
  rcases zz_cs a1 (C 3) (by omega) with ⟨t, ht, rfl, d, -, -, -⟩ | ⟨d, -⟩
  · rcases zz_cs a2 3 (by omega) with ⟨w, hw, rfl, d2, x1, x2, x3⟩ | ⟨d2, x1⟩
    · obtain ⟨h0, h1, h2, o, hHL, eo, o1, o2, o3⟩ := zz_helpM (sel := sel) (w := w) (MC.of h hN) hm6 ht hw
      have ci : inb (nI t) 3 = true := by rw [zz_inbt (by omega)]; omega
      have x4 : nI w ≤ 2 := by rw [zz_2, zz_le (by omega) (by omega)]; omega
      have hN' : HN C m E ds dy dk o.2.1 o.2.2.1 := ⟨hN.1, hN.2.1, hN.2.2.1, o2, hN.2.2.2.2.1, o3.2.2.2.2⟩
      have key : ∀ X : Nat × Int32 × Int32 × (Nat → Int32) × (Nat → Int32) × (Nat → Int32) × (Nat → Int32) × (Nat → Int32) × (Nat → Int32) × (Nat → Int32) × (Nat → Int32) × (Nat → Int32) × (Nat → Int32) × (Nat → Int32) × (Nat → Int32), CH C m E X.2.2.2.2.2.2.2.1 X.2.2.2.2.2.2.2.2.1 X.2.2.2.2.2.2.2.2.2.1 X.2.2.2.2.2.2.2.2.2.2.1 → ¬ X.2.2.2.2.2.2.2.1 t = 0 → ∃ o1 : Int32 × Nat × Int32 × Int32 × (Nat → Int32) × (Nat → Int32) × (Nat → Int32) × (Nat → Int32) × (Nat → Int32) × (Nat → Int32) × (Nat → Int32) × (Nat → Int32) × (Nat → Int32) × (Nat → Int32) × (Nat → Int32) × (Nat → Int32), (if nI w = 0 then if inb (nI t) 3 = true then some (X.2.2.2.2.2.2.2.2.1 (nI t).toNatClampNeg, X.1, X.2.1, X.2.2.1, X.2.2.2.1, X.2.2.2.2.1, X.2.2.2.2.2.1, X.2.2.2.2.2.2.1, X.2.2.2.2.2.2.2.1, X.2.2.2.2.2.2.2.2.1, X.2.2.2.2.2.2.2.2.2.1, X.2.2.2.2.2.2.2.2.2.2.1, X.2.2.2.2.2.2.2.2.2.2.2.1, X.2.2.2.2.2.2.2.2.2.2.2.2.1, X.2.2.2.2.2.2.2.2.2.2.2.2.2.1, X.2.2.2.2.2.2.2.2.2.2.2.2.2.2) else none else (if nI w = 1 then if inb (nI t) 3 = true then some (X.2.2.2.2.2.2.2.2.2.1 (nI t).toNatClampNeg, X.1, X.2.1, X.2.2.1, X.2.2.2.1, X.2.2.2.2.1, X.2.2.2.2.2.1, X.2.2.2.2.2.2.1, X.2.2.2.2.2.2.2.1, X.2.2.2.2.2.2.2.2.1, X.2.2.2.2.2.2.2.2.2.1, X.2.2.2.2.2.2.2.2.2.2.1, X.2.2.2.2.2.2.2.2.2.2.2.1, X.2.2.2.2.2.2.2.2.2.2.2.2.1, X.2.2.2.2.2.2.2.2.2.2.2.2.2.1, X.2.2.2.2.2.2.2.2.2.2.2.2.2.2) else none else (if inb (nI t) 3 = true then some (X.2.2.2.2.2.2.2.2.2.2.1 (nI t).toNatClampNeg, X.1, X.2.1, X.2.2.1, X.2.2.2.1, X.2.2.2.2.1, X.2.2.2.2.2.1, X.2.2.2.2.2.2.1, X.2.2.2.2.2.2.2.1, X.2.2.2.2.2.2.2.2.1, X.2.2.2.2.2.2.2.2.2.1, X.2.2.2.2.2.2.2.2.2.2.1, X.2.2.2.2.2.2.2.2.2.2.2.1, X.2.2.2.2.2.2.2.2.2.2.2.2.1, X.2.2.2.2.2.2.2.2.2.2.2.2.2.1, X.2.2.2.2.2.2.2.2.2.2.2.2.2.2) else none))) = some o1 ∧ o1.1 = o.1 ∧ CH C m E o1.2.2.2.2.2.2.2.2.1 o1.2.2.2.2.2.2.2.2.2.1 o1.2.2.2.2.2.2.2.2.2.2.1 o1.2.2.2.2.2.2.2.2.2.2.2.1 := by
        intro X hX hk
        obtain ⟨u0, u1, u2⟩ := HL_uniq (hX t ht hk) hHL
        rcases zz_c01 hw with ⟨rfl, r1, r2, r3⟩ | ⟨rfl, r1, r2, r3⟩ | ⟨rfl, r1, r2, r3⟩
        · simp only [r1, ci, zz_cl (show t < 2147483648 by omega), ↓reduceIte]
          exact ⟨_, rfl, by rw [o1]; exact u0, hX⟩
        · simp only [r1, r2, ci, zz_cl (show t < 2147483648 by omega), ↓reduceIte]
          exact ⟨_, rfl, by rw [o1]; exact u1, hX⟩
        · simp only [r1, r2, ci, zz_cl (show t < 2147483648 by omega), ↓reduceIte]
          exact ⟨_, rfl, by rw [o1]; exact u2, hX⟩
      rw [hgn, eo]
      unfold fX6_help jn
      rw [zz_isT (by omega), d]
      simp only [zz_bt, x1, x4, ci, zz_cl (show t < 2147483648 by omega), Option.bind_some, ↓reduceIte]
      by_cases c : kn t = 0
      · obtain ⟨f, g, e1, hf, hg⟩ := zz_prep h hN v1 v2
        obtain ⟨e, el, k0, k1, k2, hk, q1, q2, q3, q4⟩ := zz_search (kn := kn) (kh := kh) (kf := kf) (ks := ks) (ky := ky) (ky2 := ky2) (r := r) (r2 := r2) (sel := v3) (ver := v4) h hf hg ht
        have hX : CH C m E e.1 e.2.1 e.2.2.1 e.2.2.2.1 := by
          intro t' ht' hne
          by_cases c' : t' = t
          · subst c'
            rw [q2, q3, q4, pk_us, pk_us, pk_us]
            exact hk
          · rw [q1, pk_un c'] at hne
            rw [q2, q3, q4, pk_un c', pk_un c', pk_un c']
            exact hC t' ht' hne
        have hne : ¬ e.1 t = 0 := by rw [q1, pk_us]; decide
        obtain ⟨p, p1, p2, p3⟩ := key (qt, nI (cBeg C), nI (C 4), f, e.2.2.2.2.2.2.2.2.1, e.2.2.2.2.2.2.2.2.2.1, e.2.2.2.2.2.2.2.2.2.2, e.1, e.2.1, e.2.2.1, e.2.2.2.1, e.2.2.2.2.1, e.2.2.2.2.2.1, e.2.2.2.2.2.2.1, e.2.2.2.2.2.2.2.1) hX hne
        refine ⟨p, o, ?_, rfl, p2, p3, hN'⟩
        simp only [c, e1, el, Option.bind_some, ↓reduceIte]
        simp only [ci, zz_cl (show t < 2147483648 by omega), ↓reduceIte] at p1
        exact p1
      · obtain ⟨p, p1, p2, p3⟩ := key (vt, v5, v6, v1, v2, v3, v4, kn, kh, kf, ks, ky, ky2, r, r2) hC c
        refine ⟨p, o, ?_, rfl, p2, p3, hN'⟩
        simp only [c, ↓reduceIte]
        simp only [ci, zz_cl (show t < 2147483648 by omega), ↓reduceIte] at p1
        exact p1
    · unfold fX6_help fX7_help
      rw [zz_isT (by omega), zz_mT h.2.1 hT, d, zz_in02, d2]
      have e3 : (3 : Int32) = nI 3 := rfl
      rcases x1 with c | ⟨c, c2, -⟩
      · simp only [zz_bt, zz_bf, c, Option.bind_some, ↓reduceIte]
        exact ⟨_, _, rfl, rfl, rfl, hC, hN⟩
      · have c3 : ¬ a2 ≤ 2 := by
          have t2 : (2 : Int32).toInt = 2 := by decide
          rw [zz_lei, zz_ti (by omega)] at c2
          rw [zz_lei, t2]
          omega
        simp only [zz_bt, zz_bf, c, c3, Option.bind_some, ↓reduceIte]
        exact ⟨_, _, rfl, rfl, rfl, hC, hN⟩
  · unfold fX6_help fX7_help
    rw [zz_isT (by omega), zz_mT h.2.1 hT, d]
    simp only [zz_bf, Option.bind_some, ↓reduceIte]
    exact ⟨_, _, rfl, rfl, rfl, hC, hN⟩
