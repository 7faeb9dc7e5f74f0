/-! fits. -/
def cSo (k : Nat) (Z : Nat → Nat) (gy gz : Nat → Int32) : Prop := ∀ i, i < k → nI (Z (gy i).toNatClampNeg) = gz i
def cFt (C : Nat → Nat) (m : Nat) (E : Nat → Nat) (k : Nat) (gy gz : Nat → Int32) (s : Nat) : Prop := ∃ v, v < cRows C ∧ cLife C m E s (C 4) v ∧ cSo k (cSelf C m E v s) gy gz
noncomputable def cBt (P : Nat → Prop) : Nat → Int32
  | 0 => 0
  | k + 1 => @ite Int32 (P k) (Classical.propDecidable _) (cBt P k ||| (1 <<< ((nI k) &&& 31))) (cBt P k)
theorem cBt_t {P : Nat → Prop} {k : Nat} (h : P k) : cBt P (k + 1) = cBt P k ||| (1 <<< ((nI k) &&& 31)) := by
  rw [show cBt P (k + 1) = @ite Int32 (P k) (Classical.propDecidable _) (cBt P k ||| (1 <<< ((nI k) &&& 31))) (cBt P k) from rfl, if_pos h]
theorem cBt_f {P : Nat → Prop} {k : Nat} (h : ¬ P k) : cBt P (k + 1) = cBt P k := by
  rw [show cBt P (k + 1) = @ite Int32 (P k) (Classical.propDecidable _) (cBt P k ||| (1 <<< ((nI k) &&& 31))) (cBt P k) from rfl, if_neg h]
theorem zz_seenC {C : Nat → Nat} {js gs : Int32} {jy jz gy gz w : Nat → Int32} {Z : Nat → Nat} {k : Nat} (hY : C 0 ≤ 16) (hk : k ≤ 6) (ejs : js = nI k) (hs : ∀ i, i < k → ∃ y z : Nat, y < C 0 ∧ z < C 1 ∧ jy i = nI y ∧ gy i = nI y ∧ jz i = nI z ∧ gz i = nI z) (hw : ∀ y, y < C 0 → w y = nI (Z y)) : ∃ b, fX6_allSeenIsSo js jy jz w = some b ∧ (b = true ↔ cSo k Z gy gz) := by
  unfold fX6_allSeenIsSo
  have l : ∃ e : Unit ⊕ Unit, lpd (fun s1 => sX6_allSeenIsSo_2 js jy jz w s1) FU 0 = some e ∧ ((e = .inr () ∧ cSo k Z gy gz) ∨ (e = .inl () ∧ ¬ cSo k Z gy gz)) := by
    refine lpd_ex2 (fun (n : Nat) (s : Int32) => s = nI n ∧ cSo n Z gy gz) k (by omega) 0 ⟨rfl, fun i hi => absurd hi (Nat.not_lt_zero i)⟩ (fun n s hn hI => ?_) (fun s hI => ?_)
    · obtain ⟨rfl, i2⟩ := hI
      obtain ⟨y, z, y1, z1, x1, x2, x3, x4⟩ := hs n hn
      have c1 : ¬ js ≤ nI n := by rw [ejs, zz_le (by omega) (by omega)]; omega
      have c2 : inb (nI n) 6 = true := by rw [zz_inbt (by omega)]; omega
      have c3 : inb (nI y) 16 = true := by rw [zz_inbt (by omega)]; omega
      have eq : (nI (Z (gy n).toNatClampNeg) = gz n) = (nI (Z y) = nI z) := by rw [x2, x4, zz_cl (by omega)]
      by_cases c : nI (Z y) = nI z
      · refine Or.inl ⟨nI (n + 1), ?_, rfl, fun i hi => ?_⟩
        · unfold sX6_allSeenIsSo_2
          simp only [c1, c2, zz_cl (show n < 2147483648 by omega), x1, x3, c3, zz_cl (show y < 2147483648 by omega), hw y y1, c, ↓reduceIte]
          rw [zz_1, zz_add]
        · by_cases d : i = n
          · subst d; rw [eq]; exact c
          · exact i2 i (by omega)
      · refine Or.inr ⟨.inl (), ?_, Or.inr ⟨rfl, fun hh => ?_⟩⟩
        · unfold sX6_allSeenIsSo_2
          simp only [c1, c2, zz_cl (show n < 2147483648 by omega), x1, x3, c3, zz_cl (show y < 2147483648 by omega), hw y y1, c, ↓reduceIte]
        · have := hh n hn
          rw [eq] at this
          exact c this
    · obtain ⟨rfl, i2⟩ := hI
      have c1 : js ≤ nI k := by rw [ejs, zz_le (by omega) (by omega)]; omega
      refine ⟨.inr (), ?_, Or.inl ⟨rfl, i2⟩⟩
      unfold sX6_allSeenIsSo_2
      simp only [c1, ↓reduceIte]
  obtain ⟨e, el, ⟨rfl, hL⟩ | ⟨rfl, hL⟩⟩ := l
  · exact ⟨true, by rw [el]; rfl, ⟨fun _ => hL, fun _ => rfl⟩⟩
  · exact ⟨false, by rw [el]; rfl, ⟨fun h => (by cases h), fun h => absurd h hL⟩⟩
theorem zz_fitC {C : Nat → Nat} {m : Nat} {E : Nat → Nat} {ty ts tb tt td tq js : Int32} {tl tz tc tY tA tB tF tG gl f g sel ver jy jz gy gz : Nat → Int32} {a k : Nat} (h : IC C ty ts tb tt td tq tl tz tc tY tA tB tF tG gl) (hf : tabY C f) (hg : tabD C m E g) (ha : a < C 1) (hk : k ≤ 6) (ejs : js = nI k) (hs : ∀ i, i < k → ∃ y z : Nat, y < C 0 ∧ z < C 1 ∧ jy i = nI y ∧ gy i = nI y ∧ jz i = nI z ∧ gz i = nI z) : ∃ (b : Bool) (w u : Nat → Int32), fX6_someLifeFits js jy jz ty ts tt tl tz tY tA tB (nI a) (nI (C 4)) f g sel ver = some (b, w, u) ∧ (b = true ↔ cFt C m E k gy gz a) := by
  obtain ⟨hr1, hr2⟩ := cRows_le h.1
  have h4 : C 4 ≤ 9 := h.1.2.2.2.2.2.2.1
  unfold fX6_someLifeFits
  rw [zz_rows h, Option.bind_some]
  have l : ∃ e : ((Nat → Int32) × (Nat → Int32)) ⊕ ((Nat → Int32) × (Nat → Int32)), lpd (fun s2 => sX6_someLifeFits_10 (nI (cRows C)) js jy jz ty tt tl tz tY tA tB (nI a) (nI (C 4)) f g s2.1 s2.2.1 s2.2.2) FU (0, sel, ver) = some e ∧ ((∃ x, e = Sum.inl x ∧ cFt C m E k gy gz a) ∨ (∃ x, e = Sum.inr x ∧ ¬ cFt C m E k gy gz a)) := by
    refine lpd_ex2 (fun (n : Nat) (s : Int32 × (Nat → Int32) × (Nat → Int32)) => s.1 = nI n ∧ ∀ v, v < n → cLife C m E a (C 4) v → ¬ cSo k (cSelf C m E v a) gy gz) (cRows C) (by omega) _ ⟨rfl, fun v hv => absurd hv (Nat.not_lt_zero v)⟩ (fun n s hn hI => ?_) (fun s hI => ?_)
    · obtain ⟨i1, i2⟩ := hI
      have c1 : ¬ nI (cRows C) ≤ nI n := by rw [zz_le (by omega) (by omega)]; omega
      have en : nI n + 1 = nI (n + 1) := by rw [zz_1, zz_add]
      obtain ⟨b, w, u, e, hb, hw, hu⟩ := zz_life (sel := s.2.1) (ver := s.2.2) (v := n) h hf hg ha (q := C 4) (by omega) (by omega)
      obtain ⟨b2, e2, hb2⟩ := zz_seenC (gs := js) (gy := gy) (gz := gz) h.1.2.1 hk ejs hs hw
      cases b with
      | true =>
        have hL : cLife C m E a (C 4) n := hb.mp rfl
        cases b2 with
        | true =>
          refine Or.inr ⟨Sum.inl (w, u), ?_, Or.inl ⟨(w, u), rfl, n, hn, hL, hb2.mp rfl⟩⟩
          unfold sX6_someLifeFits_10
          simp only [i1, c1, e, e2, zz_bt, Option.bind_some, ↓reduceIte]
        | false =>
          refine Or.inl ⟨(nI (n + 1), w, u), ?_, rfl, fun v hv hl hh => ?_⟩
          · unfold sX6_someLifeFits_10
            simp only [i1, c1, e, e2, zz_bt, zz_bf, en, Option.bind_some, ↓reduceIte]
          · by_cases c : v = n
            · subst c; cases hb2.mpr hh
            · exact i2 v (by omega) hl hh
      | false =>
        refine Or.inl ⟨(nI (n + 1), w, u), ?_, rfl, fun v hv hl hh => ?_⟩
        · unfold sX6_someLifeFits_10
          simp only [i1, c1, e, zz_bf, en, Option.bind_some, ↓reduceIte]
        · by_cases c : v = n
          · subst c; cases hb.mpr hl
          · exact i2 v (by omega) hl hh
    · obtain ⟨i1, i2⟩ := hI
      have c1 : nI (cRows C) ≤ nI (cRows C) := by rw [zz_le (by omega) (by omega)]; omega
      refine ⟨Sum.inr s.2, ?_, Or.inr ⟨_, rfl, fun ⟨v, x1, x2, x3⟩ => i2 v x1 x2 x3⟩⟩
      unfold sX6_someLifeFits_10
      simp only [i1, c1, ↓reduceIte]
  obtain ⟨e, el, he⟩ := l
  rw [el, Option.bind_some]
  rcases he with ⟨x, rfl, hx⟩ | ⟨x, rfl, hx⟩
  · exact ⟨true, x.1, x.2, rfl, fun _ => hx, fun _ => rfl⟩
  · exact ⟨false, x.1, x.2, rfl, fun h => (by cases h), fun h => (hx h).elim⟩
theorem zz_seenM {C : Nat → Nat} {gs : Int32} {jy jz gy gz w : Nat → Int32} {Z : Nat → Nat} {k : Nat} (b : Bool) (hY : C 0 ≤ 16) (hk : k ≤ 6) (egs : gs = nI k) (hs : ∀ i, i < k → ∃ y z : Nat, y < C 0 ∧ z < C 1 ∧ jy i = nI y ∧ gy i = nI y ∧ jz i = nI z ∧ gz i = nI z) (hw : ∀ y, y < C 0 → w y = nI (Z y)) : ∃ e, lpd (fun s8 => sX7_fits_41 gs w gy gz s8.1 s8.2) FU (bI b, 0) = some e ∧ ((¬ e = 0 ∧ b = true ∧ cSo k Z gy gz) ∨ (e = 0 ∧ ¬ (b = true ∧ cSo k Z gy gz))) := by
  refine lpd_ex (fun (n : Nat) (s : Int32 × Int32) => s.2 = nI n ∧ ((¬ s.1 = 0 ∧ b = true ∧ cSo n Z gy gz) ∨ (s.1 = 0 ∧ ¬ (b = true ∧ cSo n Z gy gz)))) k (by omega) _ ⟨rfl, ?_⟩ (fun n s hn hI => ?_) (fun s hI => ?_)
  · cases b with
    | true => exact Or.inl ⟨by decide, rfl, fun i hi => absurd hi (Nat.not_lt_zero i)⟩
    | false => exact Or.inr ⟨by decide, fun h => by cases h.1⟩
  · obtain ⟨i1, i2⟩ := hI
    obtain ⟨y, z, y1, z1, x1, x2, x3, x4⟩ := hs n hn
    have c1 : ¬ gs ≤ nI n := by rw [egs, zz_le (by omega) (by omega)]; omega
    have c2 : inb (nI n) 6 = true := by rw [zz_inbt (by omega)]; omega
    have c3 : inb (nI y) 16 = true := by rw [zz_inbt (by omega)]; omega
    have en : nI n + 1 = nI (n + 1) := by rw [zz_1, zz_add]
    have eq : (nI (Z (gy n).toNatClampNeg) = gz n) = (nI (Z y) = nI z) := by rw [x2, x4, zz_cl (by omega)]
    have up : cSo (n + 1) Z gy gz ↔ cSo n Z gy gz ∧ nI (Z y) = nI z := by
      constructor
      · intro hh
        refine ⟨fun i hi => hh i (by omega), ?_⟩
        have := hh n (by omega)
        rw [eq] at this
        exact this
      · intro ⟨h1, h2⟩ i hi
        by_cases d : i = n
        · subst d; rw [eq]; exact h2
        · exact h1 i (by omega)
    rcases i2 with ⟨q1, q2, q3⟩ | ⟨q1, q2⟩
    · by_cases c : nI (Z y) = nI z
      · refine ⟨(1, nI (n + 1)), ?_, rfl, Or.inl ⟨by show ¬ (1 : Int32) = 0; decide, q2, up.mpr ⟨q3, c⟩⟩⟩
        unfold sX7_fits_41
        simp only [i1, c1, q1, c2, zz_cl (show n < 2147483648 by omega), x2, x4, c3, zz_cl (show y < 2147483648 by omega), hw y y1, c, en, ↓reduceIte]
      · refine ⟨(0, nI (n + 1)), ?_, rfl, Or.inr ⟨rfl, fun hh => c (up.mp hh.2).2⟩⟩
        unfold sX7_fits_41
        simp only [i1, c1, q1, c2, zz_cl (show n < 2147483648 by omega), x2, x4, c3, zz_cl (show y < 2147483648 by omega), hw y y1, c, en, ↓reduceIte]
    · refine ⟨(0, nI (n + 1)), ?_, rfl, Or.inr ⟨rfl, fun hh => q2 ⟨hh.1, (up.mp hh.2).1⟩⟩⟩
      unfold sX7_fits_41
      simp only [i1, c1, q1, en, ↓reduceIte]
  · obtain ⟨i1, i2⟩ := hI
    have c1 : gs ≤ nI k := by rw [egs, zz_le (by omega) (by omega)]; omega
    refine ⟨s.1, ?_, i2⟩
    unfold sX7_fits_41
    simp only [i1, c1, ↓reduceIte]
theorem zz_fitM {C : Nat → Nat} {m : Nat} {E : Nat → Nat} {gs : Int32} {gl gd sel jy jz gy gz : Nat → Int32} {a k : Nat} (S : Int32) (h : MC C m E gl gd) (ha : a < C 1) (hk : k ≤ 6) (egs : gs = nI k) (hs : ∀ i, i < k → ∃ y z : Nat, y < C 0 ∧ z < C 1 ∧ jy i = nI y ∧ gy i = nI y ∧ jz i = nI z ∧ gz i = nI z) : ∃ e : Int32 × (Nat → Int32), lpd (fun s4 => sX7_fits_16 (nI a) (nI m) gs gl gd gy gz s4.1 s4.2.1 s4.2.2) FU (S, 0, sel) = some e ∧ ((cFt C m E k gy gz a ∧ e.1 = S ||| (1 <<< ((nI a) &&& 31))) ∨ (¬ cFt C m E k gy gz a ∧ e.1 = S)) := by
  obtain ⟨hr1, hr2⟩ := cRows_le h.1
  have hrows := zz_mrows h.1 h.2.1
  have h4 : C 4 ≤ 9 := h.1.2.2.2.2.2.2.1
  have hgl := h.2.1 4 (by omega)
  have hi : inb 4 55 = true := by decide
  refine lpd_ex (fun (n : Nat) (s : Int32 × Int32 × (Nat → Int32)) => s.2.1 = nI n ∧ (((∃ v, v < n ∧ cLife C m E a (C 4) v ∧ cSo k (cSelf C m E v a) gy gz) ∧ s.1 = S ||| (1 <<< ((nI a) &&& 31))) ∨ ((∀ v, v < n → cLife C m E a (C 4) v → ¬ cSo k (cSelf C m E v a) gy gz) ∧ s.1 = S))) (cRows C) (by omega) _ ⟨rfl, Or.inr ⟨fun v hv => absurd hv (Nat.not_lt_zero v), rfl⟩⟩ (fun n s hn hI => ?_) (fun s hI => ?_)
  · obtain ⟨i1, i2⟩ := hI
    have c1 : ¬ nI (cRows C) ≤ nI n := by rw [zz_le (by omega) (by omega)]; omega
    have en : nI n + 1 = nI (n + 1) := by rw [zz_1, zz_add]
    obtain ⟨b, hb, e⟩ := zz_mlife (sel := s.2.2) (v := n) (q := C 4) h (by omega) ha (by omega)
    have hw : ∀ y, y < C 0 → cpTo s.2.2 (fun i => nI (cSelf C m E n a i)) (C 0) y = nI (cSelf C m E n a y) := fun y hy => if_pos hy
    obtain ⟨x, ex, hx⟩ := zz_seenM (jy := jy) (jz := jz) b h.1.2.1 hk egs hs hw
    rcases hx with ⟨q1, q2, q3⟩ | ⟨q1, q2⟩
    · refine ⟨(s.1 ||| (1 <<< ((nI a) &&& 31)), nI (n + 1), cpTo s.2.2 (fun i => nI (cSelf C m E n a i)) (C 0)), ?_, rfl, Or.inl ⟨⟨n, by omega, hb.mp q2, q3⟩, ?_⟩⟩
      · unfold sX7_fits_16
        simp only [hrows, hi, zz_c4, hgl, i1, c1, e, ex, q1, en, Option.bind_some, ↓reduceIte]
      · rcases i2 with ⟨-, i3⟩ | ⟨-, i3⟩
        · show s.1 ||| _ = _
          rw [i3, Int32.or_assoc, Int32.or_self]
        · show s.1 ||| _ = _
          rw [i3]
    · refine ⟨(s.1, nI (n + 1), cpTo s.2.2 (fun i => nI (cSelf C m E n a i)) (C 0)), ?_, rfl, ?_⟩
      · unfold sX7_fits_16
        simp only [hrows, hi, zz_c4, hgl, i1, c1, e, ex, q1, en, zz_or0, Option.bind_some, ↓reduceIte]
      · rcases i2 with ⟨⟨v, x1, x2⟩, i3⟩ | ⟨i3, i4⟩
        · exact Or.inl ⟨⟨v, by omega, x2⟩, i3⟩
        · refine Or.inr ⟨fun v hv hl hh => ?_, i4⟩
          by_cases c : v = n
          · subst c; exact q2 ⟨hb.mpr hl, hh⟩
          · exact i3 v (by omega) hl hh
  · obtain ⟨i1, i2⟩ := hI
    have c1 : nI (cRows C) ≤ nI (cRows C) := by rw [zz_le (by omega) (by omega)]; omega
    refine ⟨(s.1, s.2.2), ?_, ?_⟩
    · unfold sX7_fits_16
      simp only [hrows, i1, c1, Option.bind_some, ↓reduceIte]
    · rcases i2 with ⟨i3, i4⟩ | ⟨i3, i4⟩
      · exact Or.inl ⟨i3, i4⟩
      · exact Or.inr ⟨fun ⟨v, x1, x2, x3⟩ => i3 v x1 x2 x3, i4⟩
theorem p_fits {C : Nat → Nat} {m : Nat} {E : Nat → Nat} {ty ts tb tt td tq ds gn js gs : Int32} {tl tz tc tY tA tB tF tG gl dy dk gd jy jz gy gz : Nat → Int32} (h : IC C ty ts tb tt td tq tl tz tc tY tA tB tF tG gl) (hN : HN C m E ds dy dk gn gd) (hS : SR C js jy jz gs gy gz) (v1 v2 v3 v4 sel : Nat → Int32) : ∃ o1 o2, fX6_fits js jy jz ty ts tb tt tq tl tz tc tY tA tB tF tG v1 v2 v3 v4 ds dy dk = some o1 ∧ fX7_fits gn gs gl gd sel gy gz = some o2 ∧ o1.1 = o2.1 := by
  have hS6 : C 1 ≤ 6 := h.1.2.2.1
  have ets : ts = nI (C 1) := h.2.2.2.1
  have hgn : gn = nI m := hN.2.2.2.1
  obtain ⟨ejs, k, hk, egs, hs⟩ := hS
  have ejs' : js = nI k := by rw [ejs, egs]
  obtain ⟨f, g, e1, hf, hg⟩ := zz_prep h hN v1 v2
  have hgl := h.2.1 1 (by omega)
  have hi : inb 1 55 = true := by decide
  have l1 : ∃ e : Int32 × Int32 × (Nat → Int32) × (Nat → Int32), lpd (fun s2 => sX6_fits_22 js jy jz ty ts tt tl tz tY tA tB (nI (C 4)) f g s2.1 s2.2.1 s2.2.2.1 s2.2.2.2.1 s2.2.2.2.2) FU (0, 0, nI (cBeg C), v3, v4) = some e ∧ e.1 = cBt (cFt C m E k gy gz) (C 1) := by
    refine lpd_ex (fun (n : Nat) (s : Int32 × Int32 × Int32 × (Nat → Int32) × (Nat → Int32)) => s.1 = cBt (cFt C m E k gy gz) n ∧ s.2.1 = nI n) (C 1) (by omega) _ ⟨rfl, rfl⟩ (fun n s hn hI => ?_) (fun s hI => ?_)
    · obtain ⟨i1, i2⟩ := hI
      obtain ⟨b, w, u, e, hb⟩ := zz_fitC (sel := s.2.2.2.1) (ver := s.2.2.2.2) (a := n) h hf hg hn hk ejs' hs
      have c1 : ¬ ts ≤ nI n := by rw [ets, zz_le (by omega) (by omega)]; omega
      have en : nI n + 1 = nI (n + 1) := by rw [zz_1, zz_add]
      refine ⟨(cBt (cFt C m E k gy gz) (n + 1), nI (n + 1), nI n, w, u), ?_, rfl, rfl⟩
      unfold sX6_fits_22
      cases b with
      | true =>
        rw [cBt_t (hb.mp rfl)]
        simp only [i1, i2, c1, e, en, zz_bt, Option.bind_some, ↓reduceIte]
      | false =>
        rw [cBt_f (fun hh => by cases hb.mpr hh)]
        simp only [i1, i2, c1, e, en, zz_bf, Option.bind_some, ↓reduceIte]
    · obtain ⟨i1, i2⟩ := hI
      have c1 : ts ≤ nI (C 1) := by rw [ets, zz_le (by omega) (by omega)]; omega
      refine ⟨(s.1, s.2.2.1, s.2.2.2.1, s.2.2.2.2), ?_, i1⟩
      unfold sX6_fits_22
      simp only [i2, c1, ↓reduceIte]
  have l2 : ∃ e : Int32 × (Nat → Int32), lpd (fun s1 => sX7_fits_4 gn gs gl gd gy gz s1.1 s1.2.1 s1.2.2) FU (0, 0, sel) = some e ∧ e.1 = cBt (cFt C m E k gy gz) (C 1) := by
    refine lpd_ex (fun (n : Nat) (s : Int32 × Int32 × (Nat → Int32)) => s.1 = cBt (cFt C m E k gy gz) n ∧ s.2.1 = nI n) (C 1) (by omega) _ ⟨rfl, rfl⟩ (fun n s hn hI => ?_) (fun s hI => ?_)
    · obtain ⟨i1, i2⟩ := hI
      obtain ⟨e, el, he⟩ := zz_fitM (sel := s.2.2) (a := n) s.1 (MC.of h hN) hn hk egs hs
      have c1 : ¬ nI (C 1) ≤ nI n := by rw [zz_le (by omega) (by omega)]; omega
      have en : nI n + 1 = nI (n + 1) := by rw [zz_1, zz_add]
      refine ⟨(e.1, nI (n + 1), e.2), ?_, ?_, rfl⟩
      · unfold sX7_fits_4
        simp only [hi, zz_c1, hgl, i2, c1, hgn, el, en, Option.bind_some, ↓reduceIte]
      · rcases he with ⟨x1, x2⟩ | ⟨x1, x2⟩
        · rw [cBt_t x1, ← i1]; exact x2
        · rw [cBt_f x1, ← i1]; exact x2
    · obtain ⟨i1, i2⟩ := hI
      have c1 : nI (C 1) ≤ nI (C 1) := by rw [zz_le (by omega) (by omega)]; omega
      refine ⟨(s.1, s.2.2), ?_, i1⟩
      unfold sX7_fits_4
      simp only [hi, zz_c1, hgl, i2, c1, ↓reduceIte]
  obtain ⟨x1, y1, z1⟩ := l1
  obtain ⟨x2, y2, z2⟩ := l2
  unfold fX6_fits fX7_fits
  simp only [e1, y1, y2, Option.bind_some]
  exact ⟨_, _, rfl, rfl, by dsimp only; rw [z1, z2]⟩
