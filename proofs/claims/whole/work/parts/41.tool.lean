/-! Small numbers: conditions over Int32 become conditions over Nat. -/
theorem zz_le {a b : Nat} (ha : a < 2147483648) (hb : b < 2147483648) : (nI a ≤ nI b) = (a ≤ b) := propext (nI_leI ha hb)
theorem zz_lt {a b : Nat} (ha : a < 2147483648) (hb : b < 2147483648) : (nI a < nI b) = (a < b) := propext (nI_ltI ha hb)
theorem zz_eq {a b : Nat} (ha : a < 2147483648) (hb : b < 2147483648) : (nI a = nI b) = (a = b) := propext (nI_eq ha hb)
theorem zz_cl {a : Nat} (ha : a < 2147483648) : (nI a).toNatClampNeg = a := nI_clamp ha
theorem zz_ti {a : Nat} (ha : a < 2147483648) : (nI a).toInt = (a : Int) := nI_toInt ha
theorem zz_inb {a n : Nat} (ha : a < 2147483648) : inb (nI a) n = decide (a < n) := by
  unfold inb
  rw [zz_ti ha]
  by_cases h : a < n
  · simp [h]
  · have : ¬ ((a : Int) < n) := by omega
    simp [h, this]
theorem zz_inbt {a n : Nat} (ha : a < 2147483648) : (inb (nI a) n = true) = (a < n) := by rw [zz_inb ha]; simp
theorem zz_add (a b : Nat) : nI a + nI b = nI (a + b) := nI_add a b
theorem zz_mul (a b : Nat) : nI a * nI b = nI (a * b) := pk_mul a b
theorem zz_sub {a b : Nat} (h : b ≤ a) : nI a - nI b = nI (a - b) := pk_sub h
theorem zz_div {a d : Nat} (ha : a < 2147483648) (h0 : 0 < d) (hd : d < 2147483648) : nI a / nI d = nI (a / d) := pk_div ha h0 hd
theorem zz_rem {a d : Nat} (ha : a < 2147483648) (h0 : 0 < d) (hd : d < 2147483648) : nI a - nI a / nI d * nI d = nI (a % d) := pk_rem ha h0 hd
theorem zz_0 : (0 : Int32) = nI 0 := rfl
theorem zz_1 : (1 : Int32) = nI 1 := rfl
theorem zz_2 : (2 : Int32) = nI 2 := rfl
theorem zz_3 : (3 : Int32) = nI 3 := rfl
theorem zz_4 : (4 : Int32) = nI 4 := rfl
theorem zz_5 : (5 : Int32) = nI 5 := rfl
theorem zz_6 : (6 : Int32) = nI 6 := rfl
theorem zz_9 : (9 : Int32) = nI 9 := rfl
theorem zz_10 : (10 : Int32) = nI 10 := rfl
theorem zz_bI (b : Bool) : (bI b = 0) = (b = false) := by cases b <;> decide
theorem zz_lei (a b : Int32) : (a ≤ b) = (a.toInt ≤ b.toInt) := propext Int32.le_iff_toInt_le
theorem zz_lti (a b : Int32) : (a < b) = (a.toInt < b.toInt) := propext Int32.lt_iff_toInt_lt
theorem zz_in (a b c : Int64) : fX7_in a b c = some (decide (b.toInt ≤ a.toInt ∧ a.toInt ≤ c.toInt)) := by
  unfold fX7_in lg_cmp
  by_cases h1 : a.toInt < b.toInt
  · have e1 : ¬ b < a := by rw [Int64.lt_iff_toInt_lt]; omega
    have e2 : ¬ a = b := fun h => by rw [h] at h1; omega
    have e3 : ¬ (b.toInt ≤ a.toInt ∧ a.toInt ≤ c.toInt) := by omega
    rw [if_neg e1, if_neg e2, if_pos (by decide), decide_eq_false e3]
  · have e0 : ¬ (if b < a then (1 : Int32) else if a = b then 0 else -1) < 0 := by
      by_cases h : b < a
      · rw [if_pos h]; decide
      · rw [if_neg h]
        have : a = b := by
          apply Int64.toInt_inj.mp
          rw [Int64.lt_iff_toInt_lt] at h
          omega
        rw [if_pos this]; decide
    rw [if_neg e0]
    by_cases h2 : c.toInt < a.toInt
    · have e1 : c < a := by rw [Int64.lt_iff_toInt_lt]; omega
      have e3 : ¬ (b.toInt ≤ a.toInt ∧ a.toInt ≤ c.toInt) := by omega
      rw [if_pos e1, if_pos (by decide), decide_eq_false e3]
    · have e1 : ¬ c < a := by rw [Int64.lt_iff_toInt_lt]; omega
      have e3 : b.toInt ≤ a.toInt ∧ a.toInt ≤ c.toInt := by omega
      have e4 : ¬ (0 : Int32) < (if c < a then (1 : Int32) else if a = c then 0 else -1) := by
        rw [if_neg e1]
        by_cases h : a = c
        · rw [if_pos h]; decide
        · rw [if_neg h]; decide
      rw [if_neg e4, decide_eq_true e3]
theorem zz_il (a : Int32) : a.toInt64.toInt = a.toInt := Int32.toInt_toInt64 a
/-- a loop by the row of its states -/
theorem lpd_run {σ ε : Type} {st : σ → Option (σ ⊕ ε)} (f : Nat → σ) (e : ε) : ∀ (k n : Nat), k < n → (∀ i, i < k → st (f i) = some (.inl (f (i + 1)))) → st (f k) = some (.inr e) → lpd st n (f 0) = some e := by
  intro k
  induction k generalizing f with
  | zero =>
    intro n hn _ he
    obtain ⟨n, rfl⟩ : ∃ q, n = q + 1 := ⟨n - 1, by omega⟩
    show (st (f 0)).bind _ = _
    rw [he]; rfl
  | succ k ih =>
    intro n hn hs he
    obtain ⟨n, rfl⟩ : ∃ q, n = q + 1 := ⟨n - 1, by omega⟩
    show (st (f 0)).bind _ = _
    rw [hs 0 (by omega)]
    exact ih (fun i => f (i + 1)) n (by omega) (fun i hi => hs (i + 1) (by omega)) he
theorem FU_lt {k : Nat} (h : k < 100000) : k < FU := h
theorem zz_arg {a : Int32} {T : Nat} (hT : T < 2147483648) (h : 0 ≤ a.toInt ∧ a.toInt < T) : ∃ t : Nat, t < T ∧ a = nI t := by
  refine ⟨a.toInt.toNat, by omega, ?_⟩
  apply Int32.toInt_inj.mp
  rw [zz_ti (by omega)]
  omega
/-- an argument against a number told -/
theorem zz_isY {a : Int32} {T : Nat} (hT : T < 2147483648) : fX6_isYear a (nI T) = some (decide (0 ≤ a.toInt ∧ a.toInt < T)) := by
  unfold fX6_isYear
  have e0 : (0 : Int32).toInt = 0 := by decide
  simp only [zz_lti, zz_lei, zz_ti hT, e0]
  by_cases h1 : a.toInt < 0
  · rw [if_pos h1, decide_eq_false (by omega)]
  · rw [if_neg h1]
    by_cases h2 : (T : Int) ≤ a.toInt
    · rw [if_pos h2, decide_eq_false (by omega)]
    · rw [if_neg h2, decide_eq_true (by omega)]
theorem zz_isS {a : Int32} {T : Nat} (hT : T < 2147483648) : fX6_isState a (nI T) = some (decide (0 ≤ a.toInt ∧ a.toInt < T)) := zz_isY hT
theorem zz_isT {a : Int32} {T : Nat} (hT : T < 2147483648) : fX6_isTrial a (nI T) = some (decide (0 ≤ a.toInt ∧ a.toInt < T)) := zz_isY hT
theorem zz_isD {a : Int32} {T : Nat} (hT : T < 2147483648) : fX6_isDeed a (nI T) = some (decide (0 ≤ a.toInt ∧ a.toInt < T)) := zz_isY hT
theorem zz_m1 {T : Nat} (hT : T < 2147483648) : (nI T - 1).toInt = (T : Int) - 1 := by
  cases T with
  | zero => decide
  | succ n => rw [zz_1, zz_sub (by omega), zz_ti (by omega)]; omega
theorem zz_inT {a : Int32} {T : Nat} (hT : T < 2147483648) : fX7_in a.toInt64 0 (nI T - 1).toInt64 = some (decide (0 ≤ a.toInt ∧ a.toInt < T)) := by
  rw [zz_in, zz_il, zz_il, zz_m1 hT]
  have e0 : (0 : Int64).toInt = 0 := by decide
  rw [e0]
  congr 1
  apply decide_eq_decide.mpr
  omega
theorem zz_bt : (bI true = 0) = False := by decide
theorem zz_bf : (bI false = 0) = True := by decide
theorem zz_e0 : (0 : Int32).toInt = 0 := by decide
theorem zz_c0 : (0 : Int32).toNatClampNeg = 0 := by decide
theorem zz_c1 : (1 : Int32).toNatClampNeg = 1 := by decide
theorem zz_c2 : (2 : Int32).toNatClampNeg = 2 := by decide
theorem zz_c3 : (3 : Int32).toNatClampNeg = 3 := by decide
theorem zz_c4 : (4 : Int32).toNatClampNeg = 4 := by decide
theorem zz_c5 : (5 : Int32).toNatClampNeg = 5 := by decide
theorem zz_c6 : (6 : Int32).toNatClampNeg = 6 := by decide
/-- an argument, in range or out of it -/
theorem zz_cs (a : Int32) (T : Nat) (hT : T < 2147483648) : (∃ t : Nat, t < T ∧ a = nI t ∧ decide (0 ≤ a.toInt ∧ a.toInt < T) = true ∧ ¬ a < 0 ∧ a < nI T ∧ ¬ nI T ≤ a) ∨ (decide (0 ≤ a.toInt ∧ a.toInt < T) = false ∧ (a < 0 ∨ (¬ a < 0 ∧ nI T ≤ a ∧ ¬ a < nI T))) := by
  by_cases h : 0 ≤ a.toInt ∧ a.toInt < T
  · obtain ⟨t, ht, e⟩ := zz_arg hT h
    refine Or.inl ⟨t, ht, e, decide_eq_true h, ?_, ?_, ?_⟩
    · rw [zz_lti, zz_e0]; omega
    · rw [zz_lti, zz_ti hT]; omega
    · rw [zz_lei, zz_ti hT]; omega
  · refine Or.inr ⟨decide_eq_false h, ?_⟩
    rw [zz_lti, zz_lei, zz_lti, zz_e0, zz_ti hT]
    omega
theorem zz_nn (t : Nat) (h : t < 2147483648) : ¬ nI t < 0 := by rw [zz_0, zz_lt h (by omega)]; omega
