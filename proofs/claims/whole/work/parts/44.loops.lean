/-! Loops that copy and shift. -/
theorem zz_lp {st : Int32 × (Nat → Int32) → Option ((Int32 × (Nat → Int32)) ⊕ (Nat → Int32))} (n i0 : Nat) (F : Nat → Nat → Int32) (hn : n < 1000) (hs : ∀ k, k < n → st (nI (i0 + k), F k) = some (.inl (nI (i0 + k + 1), F (k + 1)))) (he : st (nI (i0 + n), F n) = some (.inr (F n))) : lpd st FU (nI i0, F 0) = some (F n) :=
  lpd_run (fun k => (nI (i0 + k), F k)) (F n) n FU (FU_lt (by omega)) (fun k hk => hs k hk) he
/-- the first k places from b, the others from a -/
def cpTo {α : Type} (a b : Nat → α) (k : Nat) : Nat → α := fun j => if j < k then b j else a j
theorem cpTo_0 {α : Type} (a b : Nat → α) : cpTo a b 0 = a := by funext j; simp [cpTo]
theorem cpTo_s (a b : Nat → Int32) (k : Nat) : upd (cpTo a b k) k (b k) = cpTo a b (k + 1) := by
  funext j
  unfold cpTo upd
  by_cases h : j = k
  · subst h; simp
  · by_cases h2 : j < k
    · rw [if_neg h]; dsimp only; rw [if_pos h2, if_pos (by omega)]
    · rw [if_neg h]; dsimp only; rw [if_neg h2, if_neg (by omega)]
theorem cpTo_in {α : Type} {a b : Nat → α} {k j : Nat} (h : j < k) : cpTo a b k j = b j := if_pos h
/-- places i .. i + k - 1 filled from the place behind each -/
def shTo {α : Type} (s : Nat) (f : Nat → α) (i k : Nat) : Nat → α := fun j => if i ≤ j ∧ j < i + k then f (j + s) else f j
theorem shTo_0 {α : Type} (s : Nat) (f : Nat → α) (i : Nat) : shTo s f i 0 = f := by
  funext j
  unfold shTo
  rw [if_neg (by omega)]
theorem shTo_s (s : Nat) (f : Nat → Int32) (i k : Nat) (hs : 0 < s) : upd (shTo s f i k) (i + k) (shTo s f i k (i + k + s)) = shTo s f i (k + 1) := by
  funext j
  unfold shTo upd
  by_cases h : j = i + k
  · subst h
    rw [if_pos rfl, if_neg (by omega), if_pos (by omega)]
  · by_cases h2 : i ≤ j ∧ j < i + k
    · rw [if_neg h]; dsimp only; rw [if_pos h2, if_pos (by omega)]
    · rw [if_neg h]; dsimp only; rw [if_neg h2, if_neg (by omega)]
/-- places o .. o + k - 1 from b -/
def atTo (o : Nat) (a b : Nat → Int32) (k : Nat) : Nat → Int32 := fun j => if o ≤ j ∧ j < o + k then b (j - o) else a j
theorem atTo_0 (o : Nat) (a b : Nat → Int32) : atTo o a b 0 = a := by
  funext j
  unfold atTo
  rw [if_neg (by omega)]
theorem atTo_s (o : Nat) (a b : Nat → Int32) (k : Nat) : upd (atTo o a b k) (o + k) (b k) = atTo o a b (k + 1) := by
  funext j
  unfold atTo upd
  by_cases h : j = o + k
  · subst h
    rw [if_pos rfl, if_pos (by omega), show o + k - o = k by omega]
  · by_cases h2 : o ≤ j ∧ j < o + k
    · rw [if_neg h]; dsimp only; rw [if_pos h2, if_pos (by omega)]
    · rw [if_neg h]; dsimp only; rw [if_neg h2, if_neg (by omega)]
theorem zz_copy {m : Nat} (hm : m ≤ 6) (dy dk fy fk : Nat → Int32) : fX0_copyFrom dy dk (nI m) fy fk = some (nI m, cpTo dy fy m, cpTo dk fk m) := by
  unfold fX0_copyFrom
  have e : lpd (fun s1 => sX0_copyFrom_10 (nI m) fy fk s1.1 s1.2.1 s1.2.2) FU (0, dy, dk) = some (cpTo dy fy m, cpTo dk fk m) := by
    have h := lpd_run (st := fun s1 => sX0_copyFrom_10 (nI m) fy fk s1.1 s1.2.1 s1.2.2) (fun k => (nI k, cpTo dy fy k, cpTo dk fk k)) (cpTo dy fy m, cpTo dk fk m) m FU (FU_lt (by omega)) (fun k hk => ?_) ?_
    · try dsimp only at h
      rw [cpTo_0, cpTo_0] at h
      exact h
    · dsimp only
      unfold sX0_copyFrom_10
      have c1 : ¬ nI m ≤ nI k := by rw [zz_le (by omega) (by omega)]; omega
      have c2 : inb (nI k) 6 = true := by rw [zz_inbt (by omega)]; omega
      simp only [c1, c2, ↓reduceIte, zz_cl (show k < 2147483648 by omega), cpTo_s, zz_1, zz_add]
    · dsimp only
      unfold sX0_copyFrom_10
      have c1 : nI m ≤ nI m := by rw [zz_le (by omega) (by omega)]; omega
      simp only [c1, ↓reduceIte]
  rw [e]; rfl
theorem zz_remove {m i : Nat} (hm : m ≤ 6) (hi : i < m) (dy dk : Nat → Int32) : fX0_removeAt (nI i) (nI m) dy dk = some (nI (m - 1), shTo 1 dy i (m - 1 - i), shTo 1 dk i (m - 1 - i)) := by
  unfold fX0_removeAt
  have e : lpd (fun s1 => sX0_removeAt_2 (nI m) s1.1 s1.2.1 s1.2.2) FU (nI i, dy, dk) = some (shTo 1 dy i (m - 1 - i), shTo 1 dk i (m - 1 - i)) := by
    have h := lpd_run (st := fun s1 => sX0_removeAt_2 (nI m) s1.1 s1.2.1 s1.2.2) (fun k => (nI (i + k), shTo 1 dy i k, shTo 1 dk i k)) (shTo 1 dy i (m - 1 - i), shTo 1 dk i (m - 1 - i)) (m - 1 - i) FU (FU_lt (by omega)) (fun k hk => ?_) ?_
    · try dsimp only at h
      rw [shTo_0, shTo_0] at h
      exact h
    · dsimp only
      unfold sX0_removeAt_2
      have e1 : nI (i + k) + 1 = nI (i + k + 1) := by rw [zz_1, zz_add]
      have c1 : ¬ nI m ≤ nI (i + k + 1) := by rw [zz_le (by omega) (by omega)]; omega
      have c2 : inb (nI (i + k)) 6 = true := by rw [zz_inbt (by omega)]; omega
      have c3 : inb (nI (i + k + 1)) 6 = true := by rw [zz_inbt (by omega)]; omega
      simp only [e1, c1, c2, c3, ↓reduceIte, zz_cl (show i + k < 2147483648 by omega), zz_cl (show i + k + 1 < 2147483648 by omega), shTo_s 1 _ i k (by omega)]
      rfl
    · dsimp only
      unfold sX0_removeAt_2
      have e1 : nI (i + (m - 1 - i)) + 1 = nI m := by rw [zz_1, zz_add]; congr 1; omega
      have c1 : nI m ≤ nI m := by rw [zz_le (by omega) (by omega)]; omega
      simp only [e1, c1, ↓reduceIte]
  rw [e, Option.bind_some, zz_1, zz_sub (by omega)]
theorem zz_forget (kn : Nat → Int32) : fX1_forgetAnswers kn = some (cpTo kn (fun _ => 0) 3) := by
  unfold fX1_forgetAnswers
  have e : lpd (fun s1 => sX1_forgetAnswers_2 s1.1 s1.2) FU (0, kn) = some (cpTo kn (fun _ => 0) 3) := by
    have h := zz_lp (st := fun s1 => sX1_forgetAnswers_2 s1.1 s1.2) 3 0 (fun k => cpTo kn (fun _ => 0) k) (by omega) (fun k hk => ?_) ?_
    · rw [cpTo_0] at h
      exact h
    · dsimp only
      unfold sX1_forgetAnswers_2
      have c1 : ¬ (3 : Int32) ≤ nI (0 + k) := by rw [zz_3, zz_le (by omega) (by omega)]; omega
      have c2 : inb (nI (0 + k)) 3 = true := by rw [zz_inbt (by omega)]; omega
      simp only [c1, c2, ↓reduceIte, zz_cl (show 0 + k < 2147483648 by omega)]
      rw [zz_1, zz_add, ← cpTo_s, Nat.zero_add]
    · rfl
  rw [e]; rfl
/-- the reference notes the deeds done -/
theorem zz_notes {m u : Nat} (hm : m ≤ 6) (hu : u ≤ 10) (gd ge : Nat → Int32) : fX7_notes (nI m) (nI u) gd ge = some (nI (if u = 10 then 10 else u + 1), atTo (13 * (if u = 10 then 9 else u) + 1) (upd (if u = 10 then shTo 13 ge 0 117 else ge) (13 * (if u = 10 then 9 else u)) (nI m)) gd 12) := by
  have main : ∀ (v : Nat) (g : Nat → Int32), v < 10 → (if inb (13 * nI v) 130 = true then (lpd (fun s3 => sX7_notes_64 (nI v) gd s3.1 s3.2) FU (0, upd g (13 * nI v).toNatClampNeg (nI m))).bind (fun (y3_0 : (Nat → Int32)) => some (nI v + 1, y3_0)) else none) = some (nI (v + 1), atTo (13 * v + 1) (upd g (13 * v) (nI m)) gd 12) := by
    intro v g hv
    have e13 : 13 * nI v = nI (13 * v) := by rw [show (13 : Int32) = nI 13 from rfl, zz_mul]
    have c1 : inb (nI (13 * v)) 130 = true := by rw [zz_inbt (by omega)]; omega
    rw [e13, if_pos c1, zz_cl (by omega)]
    have e : lpd (fun s3 => sX7_notes_64 (nI v) gd s3.1 s3.2) FU (0, upd g (13 * v) (nI m)) = some (atTo (13 * v + 1) (upd g (13 * v) (nI m)) gd 12) := by
      have h := zz_lp (st := fun s3 => sX7_notes_64 (nI v) gd s3.1 s3.2) 12 0 (fun k => atTo (13 * v + 1) (upd g (13 * v) (nI m)) gd k) (by omega) (fun k hk => ?_) ?_
      · rw [atTo_0] at h
        exact h
      · dsimp only
        unfold sX7_notes_64
        have e2 : 13 * nI v + 1 + nI (0 + k) = nI (13 * v + 1 + k) := by rw [e13, zz_1, zz_add, zz_add, Nat.zero_add]
        have d1 : ¬ (12 : Int32) ≤ nI (0 + k) := by rw [show (12 : Int32) = nI 12 from rfl, zz_le (by omega) (by omega)]; omega
        have d2 : inb (nI (0 + k)) 16 = true := by rw [zz_inbt (by omega)]; omega
        have d3 : inb (nI (13 * v + 1 + k)) 130 = true := by rw [zz_inbt (by omega)]; omega
        simp only [e2, d1, d2, d3, ↓reduceIte, zz_cl (show 0 + k < 2147483648 by omega), zz_cl (show 13 * v + 1 + k < 2147483648 by omega)]
        rw [zz_1, zz_add, Nat.zero_add, atTo_s]
      · rfl
    rw [e, Option.bind_some, zz_1, zz_add]
  unfold fX7_notes jn
  by_cases h10 : u = 10
  · subst h10
    have c0 : nI 10 = 10 := rfl
    simp only [c0, ↓reduceIte]
    have e : lpd (fun s8 => sX7_notes_12 s8.1 s8.2) FU (13, ge) = some (shTo 13 ge 0 117) := by
      have h := zz_lp (st := fun s8 => sX7_notes_12 s8.1 s8.2) 117 13 (fun k => shTo 13 ge 0 k) (by omega) (fun k hk => ?_) ?_
      · rw [shTo_0] at h
        exact h
      · dsimp only
        unfold sX7_notes_12
        have d1 : ¬ (130 : Int32) ≤ nI (13 + k) := by rw [show (130 : Int32) = nI 130 from rfl, zz_le (by omega) (by omega)]; omega
        have d2 : inb (nI (13 + k)) 130 = true := by rw [zz_inbt (by omega)]; omega
        have e2 : nI (13 + k) - 13 = nI (0 + k) := by rw [show (13 : Int32) = nI 13 from rfl, zz_sub (by omega)]; congr 1; omega
        have d3 : inb (nI (0 + k)) 130 = true := by rw [zz_inbt (by omega)]; omega
        simp only [e2, d1, d2, d3, ↓reduceIte, zz_cl (show 0 + k < 2147483648 by omega), zz_cl (show 13 + k < 2147483648 by omega)]
        rw [zz_1, zz_add, ← shTo_s 13 ge 0 k (by omega), show 0 + k + 13 = 13 + k by omega]
      · rfl
    rw [e, Option.bind_some]
    exact main 9 (shTo 13 ge 0 117) (by omega)
  · have c0 : ¬ nI u = 10 := by rw [zz_10, zz_eq (by omega) (by omega)]; exact h10
    simp only [c0, h10, ↓reduceIte]
    exact main u ge (by omega)
theorem zz_adds {m : Nat} (hm : m ≤ 7) (a1 a2 : Int32) (gd : Nat → Int32) : fX7_adds a1 a2 (nI m) gd = some (nI (m + 1), upd (upd gd (2 * m) a1) (2 * m + 1) a2) := by
  unfold fX7_adds
  have e1 : 2 * nI m = nI (2 * m) := by rw [zz_2, zz_mul]
  have e2 : nI (2 * m) + 1 = nI (2 * m + 1) := by rw [zz_1, zz_add]
  have c1 : inb (nI (2 * m)) 16 = true := by rw [zz_inbt (by omega)]; omega
  have c2 : inb (nI (2 * m + 1)) 16 = true := by rw [zz_inbt (by omega)]; omega
  simp only [e1, e2, c1, c2, ↓reduceIte, zz_cl (show 2 * m < 2147483648 by omega), zz_cl (show 2 * m + 1 < 2147483648 by omega)]
  rw [zz_1, zz_add]
