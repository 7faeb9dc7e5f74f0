/-! ring. -/
def cIt (C : Nat → Nat) (m : Nat) (E : Nat → Nat) (a q : Nat) : Nat → Nat
  | 0 => 0
  | n + 1 => cWords C (cSelf C m E (cIt C m E a q n) a) q (C 3)
def cRep (F : Nat → Nat) (k j : Nat) : Prop := j < k ∧ F j = F k ∧ ∀ i i', i < i' → i' < k → F i ≠ F i'
theorem cRep_uniq {F : Nat → Nat} {k j k' j' : Nat} (h : cRep F k j) (h' : cRep F k' j') : k = k' ∧ j = j' := by
  have e : k = k' := by
    rcases Nat.lt_trichotomy k k' with c | c | c
    · exact (h'.2.2 j k h.1 c h.2.1).elim
    · exact c
    · exact (h.2.2 j' k' h'.1 c h'.2.1).elim
  subst e
  refine ⟨rfl, ?_⟩
  rcases Nat.lt_trichotomy j j' with c | c | c
  · exact (h.2.2 j j' c h'.1 (by rw [h.2.1, h'.2.1])).elim
  · exact c
  · exact (h.2.2 j' j c h.1 (by rw [h.2.1, h'.2.1])).elim
theorem zz_pig : ∀ (n : Nat) (f : Nat → Nat), (∀ i, i ≤ n → f i < n) → ∃ i j, i < j ∧ j ≤ n ∧ f i = f j
  | 0, f, h => absurd (h 0 (Nat.le_refl _)) (by omega)
  | n + 1, f, h => by
    by_cases hx : ∃ i, i ≤ n ∧ f i = f (n + 1)
    · obtain ⟨i, h1, h2⟩ := hx
      exact ⟨i, n + 1, by omega, by omega, h2⟩
    · have hn : ∀ i, i ≤ n → f i ≠ f (n + 1) := fun i hi e => hx ⟨i, hi, e⟩
      have hl := h (n + 1) (Nat.le_refl _)
      obtain ⟨i, j, h1, h2, h3⟩ := zz_pig n (fun i => if f i = n then f (n + 1) else f i) (fun i hi => by
        have a1 := h i (by omega)
        have a2 := hn i hi
        by_cases c : f i = n
        · rw [if_pos c]; omega
        · rw [if_neg c]; omega)
      have a1 := hn i (by omega)
      have a2 := hn j (by omega)
      refine ⟨i, j, h1, by omega, ?_⟩
      by_cases c1 : f i = n
      · by_cases c2 : f j = n
        · omega
        · rw [if_pos c1, if_neg c2] at h3; omega
      · by_cases c2 : f j = n
        · rw [if_neg c1, if_pos c2] at h3; omega
        · rw [if_neg c1, if_neg c2] at h3; exact h3
/-- at which step a row was reached -/
def cWn (F : Nat → Nat) (k R : Nat) (W : Nat → Int32) : Prop := ∀ x, x < R → (∃ j, j < k ∧ F j = x ∧ W x = nI j) ∨ ((∀ j, j < k → F j ≠ x) ∧ W x = -1)
theorem cWn_s {F : Nat → Nat} {k R : Nat} {W : Nat → Int32} (h : cWn F k R W) : cWn F (k + 1) R (upd W (F k) (nI k)) := by
  intro x hx
  by_cases e : x = F k
  · subst e
    exact Or.inl ⟨k, by omega, rfl, pk_us⟩
  · rw [pk_un e]
    rcases h x hx with ⟨j, h1, h2, h3⟩ | ⟨h1, h2⟩
    · exact Or.inl ⟨j, by omega, h2, h3⟩
    · refine Or.inr ⟨fun j hj => ?_, h2⟩
      by_cases c : j = k
      · subst c; exact fun hh => e hh.symm
      · exact h1 j (by omega)
theorem cWn_0 {F : Nat → Nat} {R : Nat} (W : Nat → Int32) : cWn F 0 R (cpTo W (fun _ => -1) R) := fun x hx => Or.inr ⟨fun j hj => by omega, by unfold cpTo; rw [if_pos hx]⟩
theorem zz_roww {C : Nat → Nat} {m : Nat} {E : Nat → Nat} {ty ts tb tt td tq : Int32} {tl tz tc tY tA tB tF tG gl f g sel ver : Nat → Int32} {v a q : Nat} (h : IC C ty ts tb tt td tq tl tz tc tY tA tB tF tG gl) (hf : tabY C f) (hg : tabD C m E g) (ha : a < C 1) (hq : q < 1000) (hv : v < 1000) : ∃ (w u : Nat → Int32), fX3_rowOfWords (nI v) (nI a) (nI q) f g sel ver ty tt tl tz tY tA tB = some (nI (cWords C (cSelf C m E v a) q (C 3)), w, u) := by
  have hT3 : C 3 ≤ 3 := h.1.2.2.2.2.1
  have ett : tt = nI (C 3) := h.2.2.2.2.2.1
  obtain ⟨u, eu, hu⟩ := zz_give (v := v) (by omega) hT3 ver
  obtain ⟨w, ew, hw⟩ := zz_live (sel := sel) h hf hg hu ha
  refine ⟨w, u, ?_⟩
  have l : lpd (fun s3 => sX3_rowOfWords_13 (nI q) w tt tl tz tA tB s3.1 s3.2) FU (0, 0) = some (nI (cWords C (cSelf C m E v a) q (C 3))) := by
    have hh := lpd_run (st := fun s3 => sX3_rowOfWords_13 (nI q) w tt tl tz tA tB s3.1 s3.2) (fun k => (nI (cWords C (cSelf C m E v a) q k), nI k)) (nI (cWords C (cSelf C m E v a) q (C 3))) (C 3) FU (FU_lt (by omega)) (fun k hk => ?_) ?_
    · exact hh
    · dsimp only
      unfold sX3_rowOfWords_13
      have c1 : ¬ nI (C 3) ≤ nI k := by rw [zz_le (by omega) (by omega)]; omega
      simp only [ett, c1, zz_jw h hw (cSelf_lt ha) hq hk, Option.bind_some, ↓reduceIte]
      rw [zz_3, zz_mul, zz_add, zz_1, zz_add, Nat.mul_comm]
      rfl
    · dsimp only
      unfold sX3_rowOfWords_13
      have c1 : nI (C 3) ≤ nI (C 3) := by rw [zz_le (by omega) (by omega)]; omega
      simp only [ett, c1, ↓reduceIte]
  unfold fX3_rowOfWords
  rw [ett, eu, Option.bind_some, ← ett, ew, Option.bind_some, l]
  rfl
theorem cIt_lt {C : Nat → Nat} {m : Nat} {E : Nat → Nat} {a q : Nat} (n : Nat) : cIt C m E a q n < 3 ^ C 3 := by
  cases n with
  | zero => exact Nat.pow_pos (by omega)
  | succ n => exact cWords_lt _
theorem zz_neg1 : ¬ (0 : Int32) ≤ -1 := by decide
theorem zz_neg2 : (-1 : Int32) < 0 := by decide
/-- where the row was, if it was -/
theorem zz_was {F : Nat → Nat} {k R : Nat} {W : Nat → Int32} (h : cWn F k R W) (hk : F k < R) : (∃ j, j < k ∧ F j = F k ∧ W (F k) = nI j) ∨ ((∀ j, j < k → F j ≠ F k) ∧ W (F k) = -1) := h _ hk
theorem zz_ringC {C : Nat → Nat} {m : Nat} {E : Nat → Nat} {ty ts tb tt td tq : Int32} {tl tz tc tY tA tB tF tG gl f g sel ver sr : Nat → Int32} {a q : Nat} (h : IC C ty ts tb tt td tq tl tz tc tY tA tB tF tG gl) (hf : tabY C f) (hg : tabD C m E g) (ha : a < C 1) (hq : q < 1000) (hsr : cWn (cIt C m E a q) 0 (cRows C) sr) : ∃ (k j : Nat) (w u r : Nat → Int32), k ≤ 27 ∧ cRep (cIt C m E a q) k j ∧ r (cIt C m E a q k) = nI j ∧ lpd (fun s3 => sX3_ringPart_30 (nI (cRows C)) (nI a) (nI q) f g ty tt tl tz tY tA tB s3.1 s3.2.1 s3.2.2.1 s3.2.2.2.1 s3.2.2.2.2) FU (0, 0, sel, ver, sr) = some (Sum.inl (nI (cIt C m E a q k), nI k, w, u, r)) := by
  obtain ⟨hr1, hr2⟩ := cRows_le h.1
  have hR : cRows C = 3 ^ C 3 := by unfold cRows; rw [if_neg (by omega)]
  have l : ∃ e : (Int32 × Int32 × (Nat → Int32) × (Nat → Int32) × (Nat → Int32)) ⊕ ((Nat → Int32) × (Nat → Int32) × (Nat → Int32)), lpd (fun s3 => sX3_ringPart_30 (nI (cRows C)) (nI a) (nI q) f g ty tt tl tz tY tA tB s3.1 s3.2.1 s3.2.2.1 s3.2.2.2.1 s3.2.2.2.2) FU (0, 0, sel, ver, sr) = some e ∧ ∃ (k j : Nat) (w u r : Nat → Int32), k ≤ 27 ∧ cRep (cIt C m E a q) k j ∧ r (cIt C m E a q k) = nI j ∧ e = Sum.inl (nI (cIt C m E a q k), nI k, w, u, r) := by
    have key : ∀ (k : Nat) (s : Int32 × Int32 × (Nat → Int32) × (Nat → Int32) × (Nat → Int32)), k ≤ cRows C → s.1 = nI (cIt C m E a q k) → s.2.1 = nI k → cWn (cIt C m E a q) k (cRows C) s.2.2.2.2 → (∀ i i', i < i' → i' < k → cIt C m E a q i ≠ cIt C m E a q i') → ((∀ j, j < k → cIt C m E a q j ≠ cIt C m E a q k) ∧ ∃ w u, sX3_ringPart_30 (nI (cRows C)) (nI a) (nI q) f g ty tt tl tz tY tA tB s.1 s.2.1 s.2.2.1 s.2.2.2.1 s.2.2.2.2 = some (.inl (nI (cIt C m E a q (k + 1)), nI (k + 1), w, u, upd s.2.2.2.2 (cIt C m E a q k) (nI k)))) ∨ (∃ j, j < k ∧ cIt C m E a q j = cIt C m E a q k ∧ s.2.2.2.2 (cIt C m E a q k) = nI j ∧ sX3_ringPart_30 (nI (cRows C)) (nI a) (nI q) f g ty tt tl tz tY tA tB s.1 s.2.1 s.2.2.1 s.2.2.2.1 s.2.2.2.2 = some (.inr (.inl (nI (cIt C m E a q k), nI k, s.2.2.1, s.2.2.2.1, s.2.2.2.2)))) := by
      intro k s hk i1 i2 i3 i4
      have hlt := cIt_lt (C := C) (m := m) (E := E) (a := a) (q := q) k
      have c1 : ¬ nI (cRows C) < nI k := by rw [zz_lt (by omega) (by omega)]; omega
      have c2 : ¬ nI (cRows C) ≤ nI (cIt C m E a q k) := by rw [zz_le (by omega) (by omega)]; omega
      have c3 : inb (nI (cIt C m E a q k)) 27 = true := by rw [zz_inbt (by omega)]; omega
      rcases zz_was i3 (by omega) with ⟨j, h1, h2, h3⟩ | ⟨h1, h2⟩
      · refine Or.inr ⟨j, h1, h2, h3, ?_⟩
        have c4 : ¬ nI j < 0 := zz_nn j (by omega)
        unfold sX3_ringPart_30
        simp only [i1, i2, c1, c2, c3, c4, h3, zz_cl (show cIt C m E a q k < 2147483648 by omega), ↓reduceIte]
      · obtain ⟨w, u, e⟩ := zz_roww (sel := s.2.2.1) (ver := s.2.2.2.1) (v := cIt C m E a q k) h hf hg ha hq (by omega)
        refine Or.inl ⟨h1, w, u, ?_⟩
        unfold sX3_ringPart_30
        simp only [i1, i2, c1, c2, c3, h2, zz_neg2, e, zz_cl (show cIt C m E a q k < 2147483648 by omega), Option.bind_some, ↓reduceIte]
        rw [zz_1, zz_add]
        rfl
    refine lpd_ex2 (fun (k : Nat) (s : Int32 × Int32 × (Nat → Int32) × (Nat → Int32) × (Nat → Int32)) => s.1 = nI (cIt C m E a q k) ∧ s.2.1 = nI k ∧ cWn (cIt C m E a q) k (cRows C) s.2.2.2.2 ∧ (∀ i i', i < i' → i' < k → cIt C m E a q i ≠ cIt C m E a q i')) (cRows C) (by omega) _ ⟨rfl, rfl, hsr, fun i i' h1 h2 => by omega⟩ (fun k s hk hI => ?_) (fun s hI => ?_)
    · obtain ⟨i1, i2, i3, i4⟩ := hI
      rcases key k s (by omega) i1 i2 i3 i4 with ⟨h1, w, u, e⟩ | ⟨j, h1, h2, h3, e⟩
      · refine Or.inl ⟨_, e, rfl, rfl, cWn_s i3, fun i i' x1 x2 => ?_⟩
        by_cases c : i' = k
        · subst c; exact h1 i x1
        · exact i4 i i' x1 (by omega)
      · exact Or.inr ⟨_, e, k, j, _, _, _, by omega, ⟨h1, h2, i4⟩, h3, rfl⟩
    · obtain ⟨i1, i2, i3, i4⟩ := hI
      rcases key _ s (Nat.le_refl _) i1 i2 i3 i4 with ⟨h1, w, u, e⟩ | ⟨j, h1, h2, h3, e⟩
      · obtain ⟨i, j, x1, x2, x3⟩ := zz_pig (cRows C) (cIt C m E a q) (fun i _ => by rw [hR]; exact cIt_lt i)
        by_cases c : j = cRows C
        · subst c; exact (h1 i x1 x3).elim
        · exact (i4 i j x1 (by omega) x3).elim
      · exact ⟨_, e, _, j, _, _, _, by omega, ⟨h1, h2, i4⟩, h3, rfl⟩
  obtain ⟨e, el, k, j, w, u, r, p1, p2, p3, rfl⟩ := l
  exact ⟨k, j, w, u, r, p1, p2, p3, el⟩
theorem zz_ringM {C : Nat → Nat} {m : Nat} {E : Nat → Nat} {gl gd sel wh : Nat → Int32} (h : MC C m E gl gd) (hp : 0 < C 1) (hsr : cWn (cIt C m E (cBeg C) (C 4)) 0 27 wh) : ∃ (k j : Nat) (w r : Nat → Int32), k ≤ 27 ∧ cRep (cIt C m E (cBeg C) (C 4)) k j ∧ r (cIt C m E (cBeg C) (C 4) k) = nI j ∧ lpd (fun s6 => sX7_ring_48 (nI m) gl gd s6.1 s6.2.1 s6.2.2.1 s6.2.2.2) FU (0, 0, sel, wh) = some (nI (cIt C m E (cBeg C) (C 4) k), nI k, w, r) := by
  obtain ⟨hr1, hr2⟩ := cRows_le h.1
  have hbeg := zz_begM h.1 h.2.1
  have h4 : C 4 ≤ 9 := h.1.2.2.2.2.2.2.1
  have hgl := h.2.1 4 (by omega)
  have hi : inb 4 55 = true := by decide
  have l : ∃ e : Int32 × Int32 × (Nat → Int32) × (Nat → Int32), lpd (fun s6 => sX7_ring_48 (nI m) gl gd s6.1 s6.2.1 s6.2.2.1 s6.2.2.2) FU (0, 0, sel, wh) = some e ∧ ∃ (k j : Nat) (w r : Nat → Int32), k ≤ 27 ∧ cRep (cIt C m E (cBeg C) (C 4)) k j ∧ r (cIt C m E (cBeg C) (C 4) k) = nI j ∧ e = (nI (cIt C m E (cBeg C) (C 4) k), nI k, w, r) := by
    have key : ∀ (k : Nat) (s : Int32 × Int32 × (Nat → Int32) × (Nat → Int32)), k ≤ 27 → s.1 = nI (cIt C m E (cBeg C) (C 4) k) → s.2.1 = nI k → cWn (cIt C m E (cBeg C) (C 4)) k 27 s.2.2.2 → ((∀ j, j < k → cIt C m E (cBeg C) (C 4) j ≠ cIt C m E (cBeg C) (C 4) k) ∧ ∃ w, sX7_ring_48 (nI m) gl gd s.1 s.2.1 s.2.2.1 s.2.2.2 = some (.inl (nI (cIt C m E (cBeg C) (C 4) (k + 1)), nI (k + 1), w, upd s.2.2.2 (cIt C m E (cBeg C) (C 4) k) (nI k)))) ∨ (∃ j, j < k ∧ cIt C m E (cBeg C) (C 4) j = cIt C m E (cBeg C) (C 4) k ∧ s.2.2.2 (cIt C m E (cBeg C) (C 4) k) = nI j ∧ sX7_ring_48 (nI m) gl gd s.1 s.2.1 s.2.2.1 s.2.2.2 = some (.inr (nI (cIt C m E (cBeg C) (C 4) k), nI k, s.2.2.1, s.2.2.2))) := by
      intro k s hk i1 i2 i3
      have hlt := cIt_lt (C := C) (m := m) (E := E) (a := cBeg C) (q := C 4) k
      have c3 : inb (nI (cIt C m E (cBeg C) (C 4) k)) 27 = true := by rw [zz_inbt (by omega)]; omega
      rcases zz_was i3 (by omega) with ⟨j, h1, h2, h3⟩ | ⟨h1, h2⟩
      · refine Or.inr ⟨j, h1, h2, h3, ?_⟩
        have c4 : (0 : Int32) ≤ nI j := by rw [zz_0, zz_le (by omega) (by omega)]; omega
        unfold sX7_ring_48
        simp only [i1, i2, c3, c4, h3, zz_cl (show cIt C m E (cBeg C) (C 4) k < 2147483648 by omega), ↓reduceIte]
      · have hsel : ∀ y, y < C 0 → cpTo s.2.2.1 (fun i => nI (cSelf C m E (cIt C m E (cBeg C) (C 4) k) (cBeg C) i)) (C 0) y = nI (cSelf C m E (cIt C m E (cBeg C) (C 4) k) (cBeg C) y) := fun y hy => if_pos hy
        have hwd := zz_mwords (q := C 4) h.1 h.2.1 hsel (cSelf_lt (cBeg_lt hp)) (by omega)
        refine Or.inl ⟨h1, cpTo s.2.2.1 (fun i => nI (cSelf C m E (cIt C m E (cBeg C) (C 4) k) (cBeg C) i)) (C 0), ?_⟩
        unfold sX7_ring_48
        simp only [i1, i2, c3, h2, zz_neg1, hbeg, hi, zz_c4, hgl, zz_mgoes (sel := s.2.2.1) (v := cIt C m E (cBeg C) (C 4) k) h (by omega) (cBeg_lt hp), hwd, zz_cl (show cIt C m E (cBeg C) (C 4) k < 2147483648 by omega), Option.bind_some, ↓reduceIte]
        rw [zz_1, zz_add]
        rfl
    refine lpd_ex2 (fun (k : Nat) (s : Int32 × Int32 × (Nat → Int32) × (Nat → Int32)) => s.1 = nI (cIt C m E (cBeg C) (C 4) k) ∧ s.2.1 = nI k ∧ cWn (cIt C m E (cBeg C) (C 4)) k 27 s.2.2.2 ∧ (∀ i i', i < i' → i' < k → cIt C m E (cBeg C) (C 4) i ≠ cIt C m E (cBeg C) (C 4) i')) 27 (by omega) _ ⟨rfl, rfl, hsr, fun i i' h1 h2 => by omega⟩ (fun k s hk hI => ?_) (fun s hI => ?_)
    · obtain ⟨i1, i2, i3, i4⟩ := hI
      rcases key k s (by omega) i1 i2 i3 with ⟨h1, w, e⟩ | ⟨j, h1, h2, h3, e⟩
      · refine Or.inl ⟨_, e, rfl, rfl, cWn_s i3, fun i i' x1 x2 => ?_⟩
        by_cases c : i' = k
        · subst c; exact h1 i x1
        · exact i4 i i' x1 (by omega)
      · exact Or.inr ⟨_, e, k, j, _, _, by omega, ⟨h1, h2, i4⟩, h3, rfl⟩
    · obtain ⟨i1, i2, i3, i4⟩ := hI
      rcases key _ s (Nat.le_refl _) i1 i2 i3 with ⟨h1, w, e⟩ | ⟨j, h1, h2, h3, e⟩
      · obtain ⟨i, j, x1, x2, x3⟩ := zz_pig 27 (cIt C m E (cBeg C) (C 4)) (fun i _ => Nat.lt_of_lt_of_le (cIt_lt i) hr2)
        by_cases c : j = 27
        · subst c; exact (h1 i x1 x3).elim
        · exact (i4 i j x1 (by omega) x3).elim
      · exact ⟨_, e, _, j, _, _, by omega, ⟨h1, h2, i4⟩, h3, rfl⟩
  obtain ⟨e, el, k, j, w, r, p1, p2, p3, rfl⟩ := l
  exact ⟨k, j, w, r, p1, p2, p3, el⟩
theorem zz_in01 (a : Int32) : fX7_in a.toInt64 0 1 = some (decide (0 ≤ a.toInt ∧ a.toInt < (2 : Nat))) := zz_ch (n := 1) (by decide)
theorem zz_fillM (wh : Nat → Int32) : lpd (fun s5 => sX7_ring_25 s5.1 s5.2) FU (0, wh) = some (cpTo wh (fun _ => -1) 27) := by
  have h := zz_lp (st := fun s5 => sX7_ring_25 s5.1 s5.2) 27 0 (fun k => cpTo wh (fun _ => -1) k) (by omega) (fun k hk => ?_) ?_
  · rw [cpTo_0] at h
    exact h
  · dsimp only
    unfold sX7_ring_25
    have c1 : ¬ (27 : Int32) ≤ nI (0 + k) := by rw [show (27 : Int32) = nI 27 from rfl, zz_le (by omega) (by omega)]; omega
    have c2 : inb (nI (0 + k)) 27 = true := by rw [zz_inbt (by omega)]; omega
    simp only [c1, c2, zz_cl (show 0 + k < 2147483648 by omega), ↓reduceIte]
    rw [zz_1, zz_add, ← cpTo_s, Nat.zero_add]
  · rfl
theorem zz_fillC {R : Nat} (hR : R ≤ 27) (wh : Nat → Int32) : lpd (fun s2 => sX3_ringPart_7 (nI R) s2.1 s2.2) FU (0, wh) = some (cpTo wh (fun _ => -1) R) := by
  have h := zz_lp (st := fun s2 => sX3_ringPart_7 (nI R) s2.1 s2.2) R 0 (fun k => cpTo wh (fun _ => -1) k) (by omega) (fun k hk => ?_) ?_
  · rw [cpTo_0] at h
    exact h
  · dsimp only
    unfold sX3_ringPart_7
    have c1 : ¬ nI R ≤ nI (0 + k) := by rw [zz_le (by omega) (by omega)]; omega
    have c2 : inb (nI (0 + k)) 27 = true := by rw [zz_inbt (by omega)]; omega
    simp only [c1, c2, zz_cl (show 0 + k < 2147483648 by omega), ↓reduceIte]
    rw [zz_1, zz_add, ← cpTo_s, Nat.zero_add]
  · dsimp only
    unfold sX3_ringPart_7
    have c1 : nI R ≤ nI (0 + R) := by rw [zz_le (by omega) (by omega)]; omega
    simp only [c1, ↓reduceIte]
theorem p_ring {C : Nat → Nat} {m : Nat} {E : Nat → Nat} {ty ts tb tt td tq ds gn a1 : Int32} {tl tz tc tY tA tB tF tG gl dy dk gd : Nat → Int32} (h : IC C ty ts tb tt td tq tl tz tc tY tA tB tF tG gl) (hN : HN C m E ds dy dk gn gd) (vt qt : Nat) (v5 v6 : Int32) (v1 v2 v3 v4 v7 sel wh : Nat → Int32) : ∃ o1 o2, fX6_ring a1 ty ts tb tt tq tl tz tc tY tA tB tF tG vt v5 v6 v1 v2 v3 v4 v7 ds dy dk qt = some o1 ∧ fX7_ring a1 gn gl gd sel wh = some o2 ∧ o1.1 = o2.1 := by
  have h4 : C 4 ≤ 9 := h.1.2.2.2.2.2.2.1
  have hS : C 1 ≤ 6 := h.1.2.2.1
  have hgn : gn = nI m := hN.2.2.2.1
  obtain ⟨hr1, hr2⟩ := cRows_le h.1
  obtain ⟨f, g, e1, hf, hg⟩ := zz_prep h hN v1 v2
  have hi : inb 1 55 = true := by decide
  have hgl := h.2.1 1 (by omega)
  unfold fX6_ring fX7_ring
  have ez : (nI (C 1) = 0) = (C 1 = 0) := by rw [zz_0, zz_eq (by omega) (by omega)]
  have body : a1 = 0 ∨ a1 = 1 → ∃ (o1 : Int32 × (Nat → Int32) × (Nat → Int32) × (Nat → Int32)) (o2 : Int32 × (Nat → Int32) × (Nat → Int32)), fX3_ringPart a1 (nI (cBeg C)) (nI (C 4)) f g v3 v4 v7 ty ts tt tl tz tY tA tB = some o1 ∧ (if (nI (C 1)) = 0 then some (0, sel, wh) else (lpd (fun s5 => sX7_ring_25 s5.1 s5.2) FU (0, wh)).bind (fun (y5_0 : (Nat → Int32)) => (lpd (fun s6 => sX7_ring_48 gn gl gd s6.1 s6.2.1 s6.2.2.1 s6.2.2.2) FU (0, 0, sel, y5_0)).bind (fun (y6_0 : Int32 × Int32 × (Nat → Int32) × (Nat → Int32)) => if a1 = 0 then if inb y6_0.1 27 = true then some (y6_0.2.2.2 y6_0.1.toNatClampNeg, y6_0.2.2.1, y6_0.2.2.2) else none else if inb y6_0.1 27 = true then some (y6_0.2.1 - (y6_0.2.2.2 y6_0.1.toNatClampNeg), y6_0.2.2.1, y6_0.2.2.2) else none))) = some o2 ∧ o1.1 = o2.1 := by
    intro _
    unfold fX3_ringPart
    rw [zz_rows h, Option.bind_some, zz_fillC (by omega), Option.bind_some, zz_fillM, Option.bind_some]
    by_cases hp : C 1 = 0
    · have hR : cRows C = 0 := by unfold cRows; rw [if_pos hp]
      have e0 : lpd (fun s3 => sX3_ringPart_30 (nI (cRows C)) (nI (cBeg C)) (nI (C 4)) f g ty tt tl tz tY tA tB s3.1 s3.2.1 s3.2.2.1 s3.2.2.2.1 s3.2.2.2.2) FU (0, 0, v3, v4, cpTo v7 (fun _ => -1) (cRows C)) = some (Sum.inr (v3, v4, cpTo v7 (fun _ => -1) (cRows C))) := by
        refine lpd_run (st := fun s3 => sX3_ringPart_30 (nI (cRows C)) (nI (cBeg C)) (nI (C 4)) f g ty tt tl tz tY tA tB s3.1 s3.2.1 s3.2.2.1 s3.2.2.2.1 s3.2.2.2.2) (fun _ => (0, 0, v3, v4, cpTo v7 (fun _ => -1) (cRows C))) _ 0 FU (FU_lt (by omega)) (fun i hi => by omega) ?_
        dsimp only
        unfold sX3_ringPart_30
        have c1 : ¬ nI (cRows C) < 0 := zz_nn _ (by omega)
        have c2 : nI (cRows C) ≤ 0 := by rw [hR]; decide
        simp only [c1, c2, ↓reduceIte]
      rw [e0, Option.bind_some, if_pos (by rw [ez]; exact hp)]
      exact ⟨_, _, rfl, rfl, rfl⟩
    · rw [if_neg (by rw [ez]; exact hp)]
      obtain ⟨k, j, w, u, r, b1, b2, b3, e2⟩ := zz_ringC (sel := v3) (ver := v4) (sr := cpTo v7 (fun _ => -1) (cRows C)) h hf hg (cBeg_lt (by omega)) (q := C 4) (by omega) (cWn_0 _)
      obtain ⟨k', j', w', r', b1', b2', b3', e3⟩ := zz_ringM (sel := sel) (wh := cpTo wh (fun _ => -1) 27) (MC.of h hN) (by omega) (cWn_0 _)
      obtain ⟨rfl, rfl⟩ := cRep_uniq b2 b2'
      have hlt := cIt_lt (C := C) (m := m) (E := E) (a := cBeg C) (q := C 4) k
      have c3 : inb (nI (cIt C m E (cBeg C) (C 4) k)) 27 = true := by rw [zz_inbt (by omega)]; omega
      rw [e2, Option.bind_some, hgn, e3, Option.bind_some]
      simp only [Sum.elim_inl, c3, zz_cl (show cIt C m E (cBeg C) (C 4) k < 2147483648 by omega), b3, b3', ↓reduceIte]
      by_cases c : a1 = 0
      · simp only [c, ↓reduceIte]
        exact ⟨_, _, rfl, rfl, rfl⟩
      · simp only [c, ↓reduceIte]
        exact ⟨_, _, rfl, rfl, rfl⟩
  have d2 : (2 : Nat) < 2147483648 := by omega
  by_cases c0 : a1 = 0 ∨ a1 = 1
  · obtain ⟨o1, o2, x1, x2, x3⟩ := body c0
    have d : decide (0 ≤ a1.toInt ∧ a1.toInt < (2 : Nat)) = true := by rcases c0 with rfl | rfl <;> decide
    rw [zz_in01, d]
    simp only [zz_bt, hi, zz_c1, hgl, Option.bind_some, ↓reduceIte]
    rw [x2]
    refine ⟨(o1.1, qt, nI (cBeg C), nI (C 4), f, g, o1.2.1, o1.2.2.1, o1.2.2.2), o2, ?_, rfl, x3⟩
    unfold jn
    rcases c0 with rfl | rfl
    · simp only [e1, x1, Option.bind_some, ↓reduceIte]
    · have c : ¬ (1 : Int32) = 0 := by decide
      simp only [e1, x1, c, Option.bind_some, ↓reduceIte]
  · have n0 : ¬ a1 = 0 := fun e => c0 (Or.inl e)
    have n1 : ¬ a1 = 1 := fun e => c0 (Or.inr e)
    have d : decide (0 ≤ a1.toInt ∧ a1.toInt < (2 : Nat)) = false := by
      rcases zz_cs a1 2 d2 with ⟨t, ht, rfl, -⟩ | ⟨d, -⟩
      · rcases (show t = 0 ∨ t = 1 by omega) with rfl | rfl
        · exact (n0 rfl).elim
        · exact (n1 rfl).elim
      · exact d
    rw [zz_in01, d]
    unfold jn
    simp only [zz_bf, n0, n1, Option.bind_some, ↓reduceIte]
    exact ⟨_, _, rfl, rfl, rfl⟩
