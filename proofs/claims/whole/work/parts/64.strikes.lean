/-! strikes. -/
def cIns (own : Int32) : Nat → (Nat → Int32) → Nat × (Nat → Int32)
  | 0, J => (0, J)
  | p + 1, J => if J p ≤ own then (p + 1, J) else cIns own p (upd J (p + 1) (J p))
theorem cIns_le (own : Int32) : ∀ p J, (cIns own p J).1 ≤ p
  | 0, _ => Nat.le_refl _
  | p + 1, J => by
    unfold cIns
    by_cases h : J p ≤ own
    · rw [if_pos h]; exact Nat.le_refl _
    · rw [if_neg h]; exact Nat.le_succ_of_le (cIns_le own p _)
theorem cIns_same (own : Int32) {n : Nat} : ∀ p J J', p ≤ n → (∀ i, i ≤ n → i ≠ p → J i = J' i) → (cIns own p J).1 = (cIns own p J').1 ∧ ∀ i, i ≤ n → i ≠ (cIns own p J).1 → (cIns own p J).2 i = (cIns own p J').2 i
  | 0, J, J', _, h => ⟨rfl, h⟩
  | p + 1, J, J', hp, h => by
    have e := h p (by omega) (by omega)
    unfold cIns
    by_cases c : J p ≤ own
    · rw [if_pos c, if_pos (by rw [← e]; exact c)]
      exact ⟨rfl, h⟩
    · rw [if_neg c, if_neg (by rw [← e]; exact c)]
      refine cIns_same own p _ _ (by omega) (fun i hi hn => ?_)
      by_cases x : i = p + 1
      · subst x; rw [pk_us, pk_us, e]
      · rw [pk_un x, pk_un x]; exact h i hi x
theorem zz_insM (own : Int32) (p : Nat) : ∀ (J : Nat → Int32) (n : Nat), p < 16 → p < n → lpd (fun s16 => sX7_strikes_99 own s16.1 s16.2) n (nI p, J) = some (nI (cIns own p J).1, (cIns own p J).2) := by
  induction p with
  | zero =>
    intro J n _ hn
    obtain ⟨n, rfl⟩ : ∃ q, n = q + 1 := ⟨n - 1, by omega⟩
    show (sX7_strikes_99 own (nI 0) J).bind _ = _
    have c : nI 0 ≤ 0 := by decide
    unfold sX7_strikes_99
    rw [if_pos c]
    rfl
  | succ p ih =>
    intro J n hp hn
    obtain ⟨n, rfl⟩ : ∃ q, n = q + 1 := ⟨n - 1, by omega⟩
    show (sX7_strikes_99 own (nI (p + 1)) J).bind _ = _
    have c : ¬ nI (p + 1) ≤ 0 := by rw [zz_0, zz_le (by omega) (by omega)]; omega
    have e : nI (p + 1) - 1 = nI p := by rw [zz_1, zz_sub (by omega)]; rfl
    have c2 : inb (nI p) 16 = true := by rw [zz_inbt (by omega)]; omega
    have c3 : inb (nI (p + 1)) 16 = true := by rw [zz_inbt (by omega)]; omega
    unfold sX7_strikes_99 cIns
    simp only [c, e, c2, c3, zz_cl (show p < 2147483648 by omega), zz_cl (show p + 1 < 2147483648 by omega), zz_pred, ↓reduceIte]
    by_cases x : J p ≤ own
    · rw [if_pos x, if_pos x]; rfl
    · rw [if_neg x, if_neg x]
      exact ih _ n (by omega) (by omega)
theorem zz_insC {tl : Nat → Int32} {z : Nat} (hz : z < 6) (p : Nat) : ∀ (J : Nat → Int32) (n : Nat), p < 16 → p < n → lpd (fun s8 => sX3_seatJury_49 (nI z) tl s8.1 s8.2) n (nI p, J) = some (nI (cIns (tl z) p J).1, (cIns (tl z) p J).2) := by
  have c0 : inb (nI z) 6 = true := by rw [zz_inbt (by omega)]; omega
  induction p with
  | zero =>
    intro J n _ hn
    obtain ⟨n, rfl⟩ : ∃ q, n = q + 1 := ⟨n - 1, by omega⟩
    show (sX3_seatJury_49 (nI z) tl (nI 0) J).bind _ = _
    have c : nI 0 ≤ 0 := by decide
    unfold sX3_seatJury_49
    rw [if_pos c]
    rfl
  | succ p ih =>
    intro J n hp hn
    obtain ⟨n, rfl⟩ : ∃ q, n = q + 1 := ⟨n - 1, by omega⟩
    show (sX3_seatJury_49 (nI z) tl (nI (p + 1)) J).bind _ = _
    have c : ¬ nI (p + 1) ≤ 0 := by rw [zz_0, zz_le (by omega) (by omega)]; omega
    have e : nI (p + 1) - 1 = nI p := by rw [zz_1, zz_sub (by omega)]; rfl
    have c2 : inb (nI p) 16 = true := by rw [zz_inbt (by omega)]; omega
    have c3 : inb (nI (p + 1)) 16 = true := by rw [zz_inbt (by omega)]; omega
    have es : sX3_seatJury_49 (nI z) tl (nI (p + 1)) J = if J p ≤ tl z then some (.inr (nI (p + 1), J)) else some (.inl (nI p, upd J (p + 1) (J p))) := by
      unfold sX3_seatJury_49
      simp only [c0, c, e, c2, c3, zz_cl (show z < 2147483648 by omega), zz_cl (show p < 2147483648 by omega), zz_cl (show p + 1 < 2147483648 by omega), zz_pred, ↓reduceIte]
    rw [es]
    unfold cIns
    by_cases x : J p ≤ tl z
    · rw [if_pos x, if_pos x]; rfl
    · rw [if_neg x, if_neg x]
      exact ih _ n (by omega) (by omega)
def cJu (C Z : Nat → Nat) (a : Nat) (J : Nat → Int32) : Nat → Nat × (Nat → Int32)
  | 0 => (0, J)
  | k + 1 => if C (9 + 5 * Z (a + k)) = 0 then ((cJu C Z a J k).1 + 1, upd (cIns (nI (C (8 + 5 * Z (a + k))) - 9) (cJu C Z a J k).1 (cJu C Z a J k).2).2 (cIns (nI (C (8 + 5 * Z (a + k))) - 9) (cJu C Z a J k).1 (cJu C Z a J k).2).1 (nI (C (8 + 5 * Z (a + k))) - 9)) else cJu C Z a J k
theorem cJu_le {C Z : Nat → Nat} {a : Nat} {J : Nat → Int32} : ∀ k, (cJu C Z a J k).1 ≤ k
  | 0 => Nat.le_refl _
  | k + 1 => by
    have ih := cJu_le (C := C) (Z := Z) (a := a) (J := J) k
    unfold cJu
    by_cases h : C (9 + 5 * Z (a + k)) = 0
    · rw [if_pos h]; exact Nat.succ_le_succ ih
    · rw [if_neg h]; omega
theorem cJu_same {C Z : Nat → Nat} {a : Nat} (J J' : Nat → Int32) : ∀ k, (cJu C Z a J k).1 = (cJu C Z a J' k).1 ∧ ∀ i, i < (cJu C Z a J k).1 → (cJu C Z a J k).2 i = (cJu C Z a J' k).2 i
  | 0 => ⟨rfl, fun i h => absurd h (Nat.not_lt_zero i)⟩
  | k + 1 => by
    obtain ⟨h1, h2⟩ := cJu_same (C := C) (Z := Z) (a := a) J J' k
    unfold cJu
    by_cases h : C (9 + 5 * Z (a + k)) = 0
    · rw [if_pos h, if_pos h, ← h1]
      obtain ⟨q1, q2⟩ := cIns_same (nI (C (8 + 5 * Z (a + k))) - 9) (n := (cJu C Z a J k).1) (cJu C Z a J k).1 (cJu C Z a J k).2 (cJu C Z a J' k).2 (Nat.le_refl _) (fun i hi hn => h2 i (by omega))
      refine ⟨rfl, fun i hi => ?_⟩
      dsimp only at hi ⊢
      rw [← q1]
      by_cases x : i = (cIns (nI (C (8 + 5 * Z (a + k))) - 9) (cJu C Z a J k).1 (cJu C Z a J k).2).1
      · rw [x, pk_us, pk_us]
      · rw [pk_un x, pk_un x]
        exact q2 i (by omega) x
    · rw [if_neg h, if_neg h]
      exact ⟨h1, h2⟩
theorem zz_seatM {C : Nat → Nat} {gl sel J : Nat → Int32} {Z : Nat → Nat} {t : Nat} (hO : OKC C) (hl : ∀ i, i < 55 → gl i = nI (C i)) (hZ : ∀ y, y < C 0 → sel y = nI (Z y)) (hz : ∀ y, Z y < C 1) (ht : t < C 3) : lpd (fun s8 => sX7_strikes_49 (nI t) gl sel s8.1 s8.2.1 s8.2.2) FU (0, nI (C (39 + 3 * t)), J) = some (nI (cJu C Z (C (39 + 3 * t)) J (C (40 + 3 * t) + 1 - C (39 + 3 * t))).1, (cJu C Z (C (39 + 3 * t)) J (C (40 + 3 * t) + 1 - C (39 + 3 * t))).2) := by
  have hS6 : C 1 ≤ 6 := hO.2.2.1
  have hT3 : C 3 ≤ 3 := hO.2.2.2.2.1
  have hY16 : C 0 ≤ 16 := hO.2.1
  have hss := hO.2.2.2.2.2.2.2.2.1
  obtain ⟨b1, b2, b3⟩ := hO.2.2.2.2.2.2.2.2.2.1 t ht
  have e2 : (38 : Int32) + 3 * nI t + 2 = nI (40 + 3 * t) := by rw [show (38 : Int32) = nI 38 from rfl, zz_3, zz_mul, zz_2, zz_add, zz_add]; congr 1; omega
  have c2 : inb (nI (40 + 3 * t)) 55 = true := by rw [zz_inbt (by omega)]; omega
  have h := lpd_run (st := fun s8 => sX7_strikes_49 (nI t) gl sel s8.1 s8.2.1 s8.2.2) (fun k => (nI (cJu C Z (C (39 + 3 * t)) J k).1, nI (C (39 + 3 * t) + k), (cJu C Z (C (39 + 3 * t)) J k).2)) (nI (cJu C Z (C (39 + 3 * t)) J (C (40 + 3 * t) + 1 - C (39 + 3 * t))).1, (cJu C Z (C (39 + 3 * t)) J (C (40 + 3 * t) + 1 - C (39 + 3 * t))).2) (C (40 + 3 * t) + 1 - C (39 + 3 * t)) FU (FU_lt (by omega)) (fun k hk => ?_) ?_
  · exact h
  · dsimp only
    unfold sX7_strikes_49
    have d1 : ¬ nI (C (40 + 3 * t)) < nI (C (39 + 3 * t) + k) := by rw [zz_lt (by omega) (by omega)]; omega
    have d2 : inb (nI (C (39 + 3 * t) + k)) 16 = true := by rw [zz_inbt (by omega)]; omega
    have hsy := hZ (C (39 + 3 * t) + k) (by omega)
    have hzy := hz (C (39 + 3 * t) + k)
    have hd1 := (hss _ hzy).2.1
    have hof : fX7_of (nI (Z (C (39 + 3 * t) + k))) 1 gl = some (nI (C (9 + 5 * Z (C (39 + 3 * t) + k)))) := by
      have := zz_of (s := Z (C (39 + 3 * t) + k)) (w := 1) hl (by omega) (by omega)
      rw [show 8 + 5 * Z (C (39 + 3 * t) + k) + 1 = 9 + 5 * Z (C (39 + 3 * t) + k) by omega] at this
      exact this
    have ea : (nI (C (9 + 5 * Z (C (39 + 3 * t) + k))) = 0) = (C (9 + 5 * Z (C (39 + 3 * t) + k)) = 0) := by rw [zz_0, zz_eq (by omega) (by omega)]
    have hle := cJu_le (C := C) (Z := Z) (a := C (39 + 3 * t)) (J := J) k
    have hin := cIns_le (nI (C (8 + 5 * Z (C (39 + 3 * t) + k))) - 9) (cJu C Z (C (39 + 3 * t)) J k).1 (cJu C Z (C (39 + 3 * t)) J k).2
    have hlp := zz_insM (nI (C (8 + 5 * Z (C (39 + 3 * t) + k))) - 9) (cJu C Z (C (39 + 3 * t)) J k).1 (cJu C Z (C (39 + 3 * t)) J k).2 FU (by omega) (FU_lt (by omega))
    have c5 : inb (nI (cIns (nI (C (8 + 5 * Z (C (39 + 3 * t) + k))) - 9) (cJu C Z (C (39 + 3 * t)) J k).1 (cJu C Z (C (39 + 3 * t)) J k).2).1) 16 = true := by rw [zz_inbt (by omega)]; omega
    rw [show cJu C Z (C (39 + 3 * t)) J (k + 1) = if C (9 + 5 * Z (C (39 + 3 * t) + k)) = 0 then ((cJu C Z (C (39 + 3 * t)) J k).1 + 1, upd (cIns (nI (C (8 + 5 * Z (C (39 + 3 * t) + k))) - 9) (cJu C Z (C (39 + 3 * t)) J k).1 (cJu C Z (C (39 + 3 * t)) J k).2).2 (cIns (nI (C (8 + 5 * Z (C (39 + 3 * t) + k))) - 9) (cJu C Z (C (39 + 3 * t)) J k).1 (cJu C Z (C (39 + 3 * t)) J k).2).1 (nI (C (8 + 5 * Z (C (39 + 3 * t) + k))) - 9)) else cJu C Z (C (39 + 3 * t)) J k from rfl]
    simp only [e2, c2, zz_cl (show 40 + 3 * t < 2147483648 by omega), hl (40 + 3 * t) (by omega), d1, d2, zz_cl (show C (39 + 3 * t) + k < 2147483648 by omega), hsy, hof, Option.bind_some, ea, ↓reduceIte, zz_lean hl (show Z (C (39 + 3 * t) + k) < 6 by omega), hlp, c5, zz_cl (show (cIns (nI (C (8 + 5 * Z (C (39 + 3 * t) + k))) - 9) (cJu C Z (C (39 + 3 * t)) J k).1 (cJu C Z (C (39 + 3 * t)) J k).2).1 < 2147483648 by omega)]
    rw [zz_1, zz_add, zz_add]
    by_cases a1 : C (9 + 5 * Z (C (39 + 3 * t) + k)) = 0
    · rw [if_pos a1, if_pos a1]
      rfl
    · rw [if_neg a1, if_neg a1]
      rfl
  · dsimp only
    unfold sX7_strikes_49
    have d1 : nI (C (40 + 3 * t)) < nI (C (39 + 3 * t) + (C (40 + 3 * t) + 1 - C (39 + 3 * t))) := by rw [zz_lt (by omega) (by omega)]; omega
    simp only [e2, c2, zz_cl (show 40 + 3 * t < 2147483648 by omega), hl (40 + 3 * t) (by omega), d1, ↓reduceIte]
theorem zz_seatC {C : Nat → Nat} {ty ts tb tt td tq : Int32} {tl tz tc tY tA tB tF tG gl sel J : Nat → Int32} {Z : Nat → Nat} {t : Nat} (h : IC C ty ts tb tt td tq tl tz tc tY tA tB tF tG gl) (hZ : ∀ y, y < C 0 → sel y = nI (Z y)) (hz : ∀ y, Z y < C 1) (ht : t < C 3) : fX3_seatJury (nI t) sel J tl tz tA tB = some (nI (cJu C Z (C (39 + 3 * t)) J (C (40 + 3 * t) + 1 - C (39 + 3 * t))).1, (cJu C Z (C (39 + 3 * t)) J (C (40 + 3 * t) + 1 - C (39 + 3 * t))).2) := by
  obtain ⟨hO, hl, -, -, -, -, -, -, hst, htr, -⟩ := h
  have hS6 : C 1 ≤ 6 := hO.2.2.1
  have hT3 : C 3 ≤ 3 := hO.2.2.2.2.1
  have hY16 : C 0 ≤ 16 := hO.2.1
  have hss := hO.2.2.2.2.2.2.2.2.1
  obtain ⟨b1, b2, b3⟩ := hO.2.2.2.2.2.2.2.2.2.1 t ht
  obtain ⟨-, r2, r3⟩ := htr t ht
  have c1 : inb (nI t) 3 = true := by rw [zz_inbt (by omega)]; omega
  have l : lpd (fun s2 => sX3_seatJury_12 (nI t) sel tl tz tB s2.1 s2.2.1 s2.2.2) FU (0, nI (C (39 + 3 * t)), J) = some (nI (cJu C Z (C (39 + 3 * t)) J (C (40 + 3 * t) + 1 - C (39 + 3 * t))).1, (cJu C Z (C (39 + 3 * t)) J (C (40 + 3 * t) + 1 - C (39 + 3 * t))).2) := by
    have h := lpd_run (st := fun s2 => sX3_seatJury_12 (nI t) sel tl tz tB s2.1 s2.2.1 s2.2.2) (fun k => (nI (cJu C Z (C (39 + 3 * t)) J k).1, nI (C (39 + 3 * t) + k), (cJu C Z (C (39 + 3 * t)) J k).2)) (nI (cJu C Z (C (39 + 3 * t)) J (C (40 + 3 * t) + 1 - C (39 + 3 * t))).1, (cJu C Z (C (39 + 3 * t)) J (C (40 + 3 * t) + 1 - C (39 + 3 * t))).2) (C (40 + 3 * t) + 1 - C (39 + 3 * t)) FU (FU_lt (by omega)) (fun k hk => ?_) ?_
    · exact h
    · dsimp only
      unfold sX3_seatJury_12
      have d1 : ¬ nI (C (40 + 3 * t)) < nI (C (39 + 3 * t) + k) := by rw [zz_lt (by omega) (by omega)]; omega
      have d2 : inb (nI (C (39 + 3 * t) + k)) 16 = true := by rw [zz_inbt (by omega)]; omega
      have hsy := hZ (C (39 + 3 * t) + k) (by omega)
      have hzy := hz (C (39 + 3 * t) + k)
      have hd1 := (hss _ hzy).2.1
      have d3 : inb (nI (Z (C (39 + 3 * t) + k))) 6 = true := by rw [zz_inbt (by omega)]; omega
      obtain ⟨u1, u2, -⟩ := hst _ hzy
      have ea : (nI (C (9 + 5 * Z (C (39 + 3 * t) + k))) = 0) = (C (9 + 5 * Z (C (39 + 3 * t) + k)) = 0) := by rw [zz_0, zz_eq (by omega) (by omega)]
      have hle := cJu_le (C := C) (Z := Z) (a := C (39 + 3 * t)) (J := J) k
      have hin := cIns_le (nI (C (8 + 5 * Z (C (39 + 3 * t) + k))) - 9) (cJu C Z (C (39 + 3 * t)) J k).1 (cJu C Z (C (39 + 3 * t)) J k).2
      have hlp := zz_insC (tl := tl) (z := Z (C (39 + 3 * t) + k)) (by omega) (cJu C Z (C (39 + 3 * t)) J k).1 (cJu C Z (C (39 + 3 * t)) J k).2 FU (by omega) (FU_lt (by omega))
      rw [u1] at hlp
      have c5 : inb (nI (cIns (nI (C (8 + 5 * Z (C (39 + 3 * t) + k))) - 9) (cJu C Z (C (39 + 3 * t)) J k).1 (cJu C Z (C (39 + 3 * t)) J k).2).1) 16 = true := by rw [zz_inbt (by omega)]; omega
      rw [show cJu C Z (C (39 + 3 * t)) J (k + 1) = if C (9 + 5 * Z (C (39 + 3 * t) + k)) = 0 then ((cJu C Z (C (39 + 3 * t)) J k).1 + 1, upd (cIns (nI (C (8 + 5 * Z (C (39 + 3 * t) + k))) - 9) (cJu C Z (C (39 + 3 * t)) J k).1 (cJu C Z (C (39 + 3 * t)) J k).2).2 (cIns (nI (C (8 + 5 * Z (C (39 + 3 * t) + k))) - 9) (cJu C Z (C (39 + 3 * t)) J k).1 (cJu C Z (C (39 + 3 * t)) J k).2).1 (nI (C (8 + 5 * Z (C (39 + 3 * t) + k))) - 9)) else cJu C Z (C (39 + 3 * t)) J k from rfl]
      simp only [c1, zz_cl (show t < 2147483648 by omega), r3, d1, d2, zz_cl (show C (39 + 3 * t) + k < 2147483648 by omega), hsy, d3, zz_cl (show Z (C (39 + 3 * t) + k) < 2147483648 by omega), u1, u2, ea, hlp, c5, Option.bind_some, ↓reduceIte, zz_cl (show (cIns (nI (C (8 + 5 * Z (C (39 + 3 * t) + k))) - 9) (cJu C Z (C (39 + 3 * t)) J k).1 (cJu C Z (C (39 + 3 * t)) J k).2).1 < 2147483648 by omega)]
      rw [zz_1, zz_add, zz_add]
      by_cases a1 : C (9 + 5 * Z (C (39 + 3 * t) + k)) = 0
      · rw [if_pos a1, if_pos a1]
        rfl
      · rw [if_neg a1, if_neg a1]
        rfl
    · dsimp only
      unfold sX3_seatJury_12
      have d1 : nI (C (40 + 3 * t)) < nI (C (39 + 3 * t) + (C (40 + 3 * t) + 1 - C (39 + 3 * t))) := by rw [zz_lt (by omega) (by omega)]; omega
      simp only [c1, zz_cl (show t < 2147483648 by omega), r3, d1, ↓reduceIte]
  unfold fX3_seatJury
  rw [if_pos c1, zz_cl (show t < 2147483648 by omega), r2, l]
  rfl
def cSj (J : Nat → Int32) (lo : Nat) : Nat → Int32
  | 0 => 0
  | k + 1 => cSj J lo k + J (lo + k)
theorem cSj_same {J J' : Nat → Int32} {lo n : Nat} (h : ∀ i, i < n → J i = J' i) : ∀ k, lo + k ≤ n → cSj J lo k = cSj J' lo k
  | 0, _ => rfl
  | k + 1, hk => by
    unfold cSj
    rw [cSj_same h k (by omega), h (lo + k) (by omega)]
theorem zz_sumC {J : Nat → Int32} {n k : Nat} (hk : k ≤ n) (hn : n ≤ 16) : fX3_leanBehindStrikes (nI n) (nI k) J = some (cSj J ((n - k) / 2) k) := by
  have e1 : (nI n - nI k) / 2 = nI ((n - k) / 2) := by rw [zz_sub hk, zz_2, zz_div (by omega) (by omega) (by omega)]
  unfold fX3_leanBehindStrikes
  rw [e1]
  have l : lpd (fun s1 => sX3_leanBehindStrikes_12 (nI n) (nI k) (nI ((n - k) / 2)) J s1.1 s1.2) FU (0, nI ((n - k) / 2)) = some (cSj J ((n - k) / 2) k) := by
    have h := lpd_run (st := fun s1 => sX3_leanBehindStrikes_12 (nI n) (nI k) (nI ((n - k) / 2)) J s1.1 s1.2) (fun i => (cSj J ((n - k) / 2) i, nI ((n - k) / 2 + i))) (cSj J ((n - k) / 2) k) k FU (FU_lt (by omega)) (fun i hi => ?_) ?_
    · exact h
    · dsimp only
      unfold sX3_leanBehindStrikes_12
      have c1 : ¬ nI ((n - k) / 2) + nI k ≤ nI ((n - k) / 2 + i) := by rw [zz_add, zz_le (by omega) (by omega)]; omega
      have c2 : ¬ nI n ≤ nI ((n - k) / 2 + i) := by rw [zz_le (by omega) (by omega)]; omega
      have c3 : inb (nI ((n - k) / 2 + i)) 16 = true := by rw [zz_inbt (by omega)]; omega
      simp only [c1, c2, c3, zz_cl (show (n - k) / 2 + i < 2147483648 by omega), ↓reduceIte]
      rw [zz_1, zz_add]
      rfl
    · dsimp only
      unfold sX3_leanBehindStrikes_12
      have c1 : nI ((n - k) / 2) + nI k ≤ nI ((n - k) / 2 + k) := by rw [zz_add, zz_le (by omega) (by omega)]; omega
      simp only [c1, ↓reduceIte]
  rw [l]; rfl
theorem zz_turns {n k : Nat} (hk : k ≤ n) (hn : n ≤ 16) : lpd (fun s10 => sX7_strikes_177 (nI k) (nI n) s10.1 s10.2.1 s10.2.2) FU (0, nI n, 0) = some (nI ((n - k) / 2), nI ((n - k) / 2 + k)) := by
  have e0 : nI n - nI k = nI (n - k) := zz_sub hk
  have h := lpd_run (st := fun s10 => sX7_strikes_177 (nI k) (nI n) s10.1 s10.2.1 s10.2.2) (fun i => (nI (i / 2), nI (n - (i + 1) / 2), nI i)) (nI ((n - k) / 2), nI ((n - k) / 2 + k)) (n - k) FU (FU_lt (by omega)) (fun i hi => ?_) ?_
  · exact h
  · dsimp only
    unfold sX7_strikes_177
    have c1 : ¬ nI (n - k) ≤ nI i := by rw [zz_le (by omega) (by omega)]; omega
    have e2 : nI i - nI i / 2 * 2 = nI (i % 2) := by rw [zz_2, zz_rem (by omega) (by omega) (by omega)]
    have e3 : nI i + 1 = nI (i + 1) := by rw [zz_1, zz_add]
    rcases (show i % 2 = 0 ∨ i % 2 = 1 by omega) with c | c
    · have c2 : nI (i % 2) = 0 := by rw [c]; rfl
      simp only [jn, e0, c1, e2, c2, e3, ↓reduceIte]
      rw [Int32.add_zero, zz_1, zz_sub (by omega), show (i + 1) / 2 = i / 2 by omega, show (i + 1 + 1) / 2 = i / 2 + 1 by omega, show n - (i / 2 + 1) = n - i / 2 - 1 by omega]
    · have c2 : ¬ nI (i % 2) = 0 := by rw [c]; decide
      simp only [jn, e0, c1, e2, c2, e3, ↓reduceIte]
      rw [Int32.sub_zero, zz_1, zz_add, show (i + 1) / 2 = i / 2 + 1 by omega, show (i + 1 + 1) / 2 = i / 2 + 1 by omega]
  · dsimp only
    unfold sX7_strikes_177
    have c1 : nI (n - k) ≤ nI (n - k) := by rw [zz_le (by omega) (by omega)]; omega
    simp only [e0, c1, ↓reduceIte]
    rw [show n - (n - k + 1) / 2 = (n - k) / 2 + k by omega]
theorem zz_sumM {J : Nat → Int32} {lo k : Nat} (hn : lo + k ≤ 16) : lpd (fun s11 => sX7_strikes_233 (nI (lo + k)) J s11.1 s11.2) FU (0, nI lo) = some (cSj J lo k) := by
  have h := lpd_run (st := fun s11 => sX7_strikes_233 (nI (lo + k)) J s11.1 s11.2) (fun i => (cSj J lo i, nI (lo + i))) (cSj J lo k) k FU (FU_lt (by omega)) (fun i hi => ?_) ?_
  · exact h
  · dsimp only
    unfold sX7_strikes_233
    have c1 : ¬ nI (lo + k) ≤ nI (lo + i) := by rw [zz_le (by omega) (by omega)]; omega
    have c3 : inb (nI (lo + i)) 16 = true := by rw [zz_inbt (by omega)]; omega
    simp only [c1, c3, zz_cl (show lo + i < 2147483648 by omega), ↓reduceIte]
    rw [zz_1, zz_add]
    rfl
  · dsimp only
    unfold sX7_strikes_233
    have c1 : nI (lo + k) ≤ nI (lo + k) := by rw [zz_le (by omega) (by omega)]; omega
    simp only [c1, ↓reduceIte]
theorem p_strikes {C : Nat → Nat} {m : Nat} {E : Nat → Nat} {ty ts tb tt td tq ds gn a1 a2 a3 : Int32} {tl tz tc tY tA tB tF tG gl dy dk gd : Nat → Int32} (h : IC C ty ts tb tt td tq tl tz tc tY tA tB tF tG gl) (hN : HN C m E ds dy dk gn gd) (vt qt : Nat) (v5 v6 : Int32) (v1 v2 v3 v4 v7 sel jr : Nat → Int32) : ∃ o1 o2, fX6_strikes a1 a2 a3 ty ts tb tt tq tl tz tc tY tA tB tF tG vt v5 v6 v1 v2 v3 v4 v7 ds dy dk qt = some o1 ∧ fX7_strikes a1 a2 a3 gn gl gd sel jr = some o2 ∧ o1.1 = o2.1 := by
  have hT : C 3 ≤ 3 := h.1.2.2.2.2.1
  have hY16 : C 0 ≤ 16 := h.1.2.1
  have htt : tt = nI (C 3) := h.2.2.2.2.2.1
  subst htt
  have hgn : gn = nI m := hN.2.2.2.1
  have d1 : (1 : Int32).toInt = 1 := by decide
  have d9 : (9 : Int32).toInt = 9 := by decide
  have n1 : ¬ (0 : Int32) ≤ -1 := by decide
  unfold fX6_strikes fX7_strikes
  rw [zz_isT (by omega), zz_mT h.2.1 hT]
  rcases zz_cs a2 (C 3) (by omega) with ⟨t, ht, rfl, d, -, -, -⟩ | ⟨d, -⟩
  · by_cases c1 : a3 < 1
    · have c2 : decide (1 ≤ a3.toInt ∧ a3.toInt ≤ 9) = false := decide_eq_false (by rw [zz_lti, d1] at c1; omega)
      simp only [d, zz_in19, c1, c2, zz_bt, zz_bf, Option.bind_some, ↓reduceIte]
      exact ⟨_, _, rfl, rfl, rfl⟩
    · by_cases c3 : 9 < a3
      · have c2 : decide (1 ≤ a3.toInt ∧ a3.toInt ≤ 9) = false := decide_eq_false (by rw [zz_lti, d9] at c3; omega)
        simp only [d, zz_in19, c1, c2, c3, zz_bt, zz_bf, Option.bind_some, ↓reduceIte]
        exact ⟨_, _, rfl, rfl, rfl⟩
      · have c2 : decide (1 ≤ a3.toInt ∧ a3.toInt ≤ 9) = true := decide_eq_true (by rw [zz_lti, d1] at c1; rw [zz_lti, d9] at c3; omega)
        obtain ⟨k, hk, rfl⟩ := zz_arg (a := a3) (T := 10) (by omega) (by rw [zz_lti, d1] at c1; rw [zz_lti, d9] at c3; omega)
        obtain ⟨b, w, u, f, g, e1, hb⟩ := zz_findL (a1 := a1) h hN v1 v2 v3 v4
        obtain ⟨r, w', e2, hr⟩ := zz_gone (a1 := a1) (sel := sel) (MC.of h hN)
        simp only [d, zz_in19, c1, c2, c3, e1, e2, hgn, zz_bt, Option.bind_some, ↓reduceIte]
        rcases hb with ⟨rfl, hb⟩ | ⟨rfl, v, hv, hw, -⟩
        · rcases hr with ⟨rfl, -⟩ | ⟨v, hv, -⟩
          · simp only [zz_bf, n1, ↓reduceIte]
            exact ⟨_, _, rfl, rfl, rfl⟩
          · exact (hb v hv).elim
        · rcases hr with ⟨-, hr⟩ | ⟨v', hv', rfl, hw'⟩
          · exact (hr v hv).elim
          · obtain rfl := isN_uniq h.1 hv hv'
            have hv27 := zz_row h.1 hv
            have hp : 0 < C 1 := zz_pos hv.1
            have p1 : (0 : Int32) ≤ nI v := by rw [zz_0, zz_le (by omega) (by omega)]; omega
            have hz := cSelf_lt (C := C) (m := m) (E := E) (v := v) (cBeg_lt hp)
            have s1 := zz_seatC (J := v7) h hw hz ht
            have s2 := zz_seatM (J := jr) h.1 h.2.1 hw' hz ht
            obtain ⟨b1, b2, b3⟩ := h.1.2.2.2.2.2.2.2.2.2.1 t ht
            have e3 : (38 : Int32) + 3 * nI t + 1 = nI (39 + 3 * t) := by rw [show (38 : Int32) = nI 38 from rfl, zz_3, zz_mul, zz_1, zz_add, zz_add]; congr 1; omega
            have c4 : inb (nI (39 + 3 * t)) 55 = true := by rw [zz_inbt (by omega)]; omega
            have hgl := h.2.1 (39 + 3 * t) (by omega)
            obtain ⟨q1, q2⟩ := cJu_same (C := C) (Z := cSelf C m E v (cBeg C)) (a := C (39 + 3 * t)) v7 jr (C (40 + 3 * t) + 1 - C (39 + 3 * t))
            have q3 := cJu_le (C := C) (Z := cSelf C m E v (cBeg C)) (a := C (39 + 3 * t)) (J := v7) (C (40 + 3 * t) + 1 - C (39 + 3 * t))
            rw [← q1] at s2
            generalize hJ : cJu C (cSelf C m E v (cBeg C)) (C (39 + 3 * t)) v7 (C (40 + 3 * t) + 1 - C (39 + 3 * t)) = JA at *
            generalize hJ' : cJu C (cSelf C m E v (cBeg C)) (C (39 + 3 * t)) jr (C (40 + 3 * t) + 1 - C (39 + 3 * t)) = JB at *
            simp only [zz_bt, p1, e3, c4, zz_cl (show 39 + 3 * t < 2147483648 by omega), hgl, s1, s2, Option.bind_some, ↓reduceIte]
            by_cases x : k ≤ JA.1
            · have x' : nI k ≤ nI JA.1 := by rw [zz_le (by omega) (by omega)]; exact x
              have t1 := zz_sumC (J := JA.2) x (by omega)
              have t2 := zz_turns x (show JA.1 ≤ 16 by omega)
              have t3 := zz_sumM (J := JB.2) (lo := (JA.1 - k) / 2) (k := k) (by omega)
              simp only [x', t1, t2, t3, Option.bind_some, ↓reduceIte]
              exact ⟨_, _, rfl, rfl, cSj_same q2 k (by omega)⟩
            · have x' : ¬ nI k ≤ nI JA.1 := by rw [zz_le (by omega) (by omega)]; exact x
              simp only [x', ↓reduceIte]
              exact ⟨_, _, rfl, rfl, rfl⟩
  · simp only [d, zz_bf, Option.bind_some, ↓reduceIte]
    exact ⟨_, _, rfl, rfl, rfl⟩
