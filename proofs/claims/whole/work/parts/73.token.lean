/-! court: both readers' tokens. -/
theorem lpd_2 {σ ε σ' ε' : Type} {st : σ → Option (σ ⊕ ε)} {st' : σ' → Option (σ' ⊕ ε')} {P : ε → ε' → Prop} (I : Nat → σ → σ' → Prop) (n : Nat) (hn : n < 100000) (s0 : σ) (s0' : σ') (h0 : I 0 s0 s0') (hs : ∀ k s s', k ≤ n → I k s s' → (k < n ∧ ∃ s1 s1', st s = some (.inl s1) ∧ st' s' = some (.inl s1') ∧ I (k + 1) s1 s1') ∨ (∃ e e', st s = some (.inr e) ∧ st' s' = some (.inr e') ∧ P e e')) : ∃ e e', lpd st FU s0 = some e ∧ lpd st' FU s0' = some e' ∧ P e e' := by
  have key : ∀ (d k : Nat) (s : σ) (s' : σ') (f : Nat), k + d = n → d < f → I k s s' → ∃ e e', lpd st f s = some e ∧ lpd st' f s' = some e' ∧ P e e' := by
    intro d
    induction d with
    | zero =>
      intro k s s' f hk hf hI
      obtain ⟨f, rfl⟩ : ∃ q, f = q + 1 := ⟨f - 1, by omega⟩
      rcases hs k s s' (by omega) hI with ⟨h, _⟩ | ⟨e, e', h1, h2, h3⟩
      · omega
      · refine ⟨e, e', ?_, ?_, h3⟩
        · show (st s).bind _ = _
          rw [h1]; rfl
        · show (st' s').bind _ = _
          rw [h2]; rfl
    | succ d ih =>
      intro k s s' f hk hf hI
      obtain ⟨f, rfl⟩ : ∃ q, f = q + 1 := ⟨f - 1, by omega⟩
      rcases hs k s s' (by omega) hI with ⟨_, s1, s1', h1, h2, h3⟩ | ⟨e, e', h1, h2, h3⟩
      · obtain ⟨e, e', x1, x2, x3⟩ := ih (k + 1) s1 s1' f (by omega) (by omega) h3
        refine ⟨e, e', ?_, ?_, x3⟩
        · show (st s).bind _ = _
          rw [h1]; exact x1
        · show (st' s').bind _ = _
          rw [h2]; exact x2
      · refine ⟨e, e', ?_, ?_, h3⟩
        · show (st s).bind _ = _
          rw [h1]; rfl
        · show (st' s').bind _ = _
          rw [h2]; rfl
  exact key n 0 s0 s0' FU (by omega) (FU_lt hn) h0
/-- the bytes typed, on both sides -/
def TX (n : Nat) (c : Nat → Nat) (jt gx : Nat → Int32) : Prop := n ≤ 200 ∧ ∀ i, i < n → jt i = nI (c i) ∧ gx i = nI (c i) ∧ c i < 256
theorem TX.of {jl gs : Int32} {jt gx : Nat → Int32} (h : IT jl jt gs gx) : ∃ n c, jl = nI n ∧ gs = nI n ∧ TX n c jt gx := by
  obtain ⟨e, n, hn, e2, hi⟩ := h
  refine ⟨n, fun i => (gx i).toNatClampNeg, by rw [e, e2], e2, hn, fun i hl => ?_⟩
  obtain ⟨h1, c, hc, h2⟩ := hi i hl
  dsimp only
  rw [h1, h2, zz_cl (by omega)]
  exact ⟨rfl, rfl, hc⟩
theorem zz_let4 {c : Nat} (hc : c < 256) : fX4_isLetter (nI c) = some (decide (97 ≤ c ∧ c ≤ 122)) := by
  unfold fX4_isLetter
  simp only [show (97 : Int32) = nI 97 from rfl, show (122 : Int32) = nI 122 from rfl, zz_lt (show c < 2147483648 by omega) (show 97 < 2147483648 by omega), zz_lt (show 122 < 2147483648 by omega) (show c < 2147483648 by omega)]
  by_cases h1 : c < 97
  · rw [if_pos h1, decide_eq_false (by omega)]
  · rw [if_neg h1]
    by_cases h2 : 122 < c
    · rw [if_pos h2, decide_eq_false (by omega)]
    · rw [if_neg h2, decide_eq_true (by omega)]
theorem zz_let7 {c : Nat} (hc : c < 256) : fX7_isLetter (nI c) = some (decide (97 ≤ c ∧ c ≤ 122)) := by
  unfold fX7_isLetter
  rw [zz_in, zz_il, zz_ti (by omega), Option.bind_some, show (97 : Int64).toInt = 97 from rfl, show (122 : Int64).toInt = 122 from rfl]
  congr 1
  apply decide_eq_decide.mpr
  omega
theorem zz_dig4 {c : Nat} (hc : c < 256) : fX4_isDigit (nI c) = some (decide (48 ≤ c ∧ c ≤ 57)) := by
  unfold fX4_isDigit
  simp only [show (48 : Int32) = nI 48 from rfl, show (57 : Int32) = nI 57 from rfl, zz_lt (show c < 2147483648 by omega) (show 48 < 2147483648 by omega), zz_lt (show 57 < 2147483648 by omega) (show c < 2147483648 by omega)]
  by_cases h1 : c < 48
  · rw [if_pos h1, decide_eq_false (by omega)]
  · rw [if_neg h1]
    by_cases h2 : 57 < c
    · rw [if_pos h2, decide_eq_false (by omega)]
    · rw [if_neg h2, decide_eq_true (by omega)]
theorem zz_dig7 {c : Nat} (hc : c < 256) : fX7_isFigure (nI c) = some (decide (48 ≤ c ∧ c ≤ 57)) := by
  unfold fX7_isFigure
  rw [zz_in, zz_il, zz_ti (by omega), Option.bind_some, show (48 : Int64).toInt = 48 from rfl, show (57 : Int64).toInt = 57 from rfl]
  congr 1
  apply decide_eq_decide.mpr
  omega
theorem zz_skip {n p : Nat} {c : Nat → Nat} {jt gx : Nat → Int32} (h : TX n c jt gx) (hp : p ≤ n) : ∃ q, p ≤ q ∧ q ≤ n ∧ lpd (fun s1 => sX4_nextToken_0 (nI n) jt s1) FU (nI p) = some (nI q) ∧ lpd (fun s1 => sX7_reads_0 (nI n) gx s1) FU (nI p) = some (nI q) := by
  obtain ⟨hn, hc⟩ := h
  obtain ⟨e, e', h1, h2, q, h3, h4, rfl, rfl⟩ := lpd_2 (st := fun s1 => sX4_nextToken_0 (nI n) jt s1) (st' := fun s1 => sX7_reads_0 (nI n) gx s1) (P := fun e e' => ∃ q, p ≤ q ∧ q ≤ n ∧ e = nI q ∧ e' = nI q) (fun k s s' => s = nI (p + k) ∧ s' = nI (p + k)) (n - p) (by omega) (nI p) (nI p) ⟨rfl, rfl⟩ (fun k s s' hk hI => by
    obtain ⟨rfl, rfl⟩ := hI
    unfold sX4_nextToken_0 sX7_reads_0
    by_cases c1 : n ≤ p + k
    · have b1 : nI n ≤ nI (p + k) := by rw [zz_le (by omega) (by omega)]; exact c1
      rw [if_pos b1, if_pos b1]
      exact Or.inr ⟨_, _, rfl, rfl, p + k, by omega, by omega, rfl, rfl⟩
    · have b1 : ¬ nI n ≤ nI (p + k) := by rw [zz_le (by omega) (by omega)]; exact c1
      have b2 : inb (nI (p + k)) 200 = true := by rw [zz_inbt (by omega)]; omega
      obtain ⟨x1, x2, x3⟩ := hc (p + k) (by omega)
      have en : nI (p + k) + 1 = nI (p + (k + 1)) := by rw [zz_1, zz_add]; rfl
      simp only [b1, b2, zz_cl (show p + k < 2147483648 by omega), x1, x2, en, ↓reduceIte]
      by_cases c2 : nI (c (p + k)) = 32
      · rw [if_pos c2]
        exact Or.inl ⟨by omega, _, _, rfl, rfl, rfl, rfl⟩
      · rw [if_neg c2]
        exact Or.inr ⟨_, _, rfl, rfl, p + k, by omega, by omega, rfl, rfl⟩)
  exact ⟨q, h3, h4, h1, h2⟩
/-- a token that begins no item -/
def nSix (v : Int32) : Prop := ¬ v = 98 ∧ ¬ v = 100 ∧ ¬ v = 113 ∧ ¬ v = 115 ∧ ¬ v = 116 ∧ ¬ v = 121
def iSix (L : Nat) : Prop := L = 98 ∨ L = 100 ∨ L = 113 ∨ L = 115 ∨ L = 116 ∨ L = 121
/-- a token on both sides -/
def Tok (n p : Nat) (told : Int32) (r1 : Int32 × Int32 × Int32 × Int32) (r2 : Int32 × Int32 × Int32 × Int32) : Prop := ∃ q, p ≤ q ∧ q ≤ n ∧ r1.2.2.1 = nI q ∧ r2.2.1 = nI q ∧ (
  (r1.2.1 = 0 ∧ r2.2.2.1 = 0) ∨
  (∃ v p', v ≤ 99 ∧ p < p' ∧ p' ≤ n ∧ r1 = (nI p', 2, nI q, nI v) ∧ r2 = (nI p', nI q, 2, nI v)) ∨
  (∃ p', p < p' ∧ p' ≤ n ∧ r1 = (nI p', 3, nI q, 0) ∧ r2 = (nI p', nI q, 3, told)) ∨
  (∃ L p', iSix L ∧ p < p' ∧ p' ≤ n ∧ r1 = (nI p', 1, nI q, nI L) ∧ r2 = (nI p', nI q, 1, nI L)) ∨
  (p < n ∧ r2.2.2.1 = 4 ∧ ((r1.2.1 = 1 ∧ nSix r1.2.2.2) ∨ r1.2.1 = 4)))
theorem nSix_0 : nSix 0 := by unfold nSix; decide
theorem nSix_n {L : Nat} (hL : L < 256) (h : ¬ iSix L) : nSix (nI L) := by
  unfold iSix at h
  unfold nSix
  rw [show (98 : Int32) = nI 98 from rfl, show (100 : Int32) = nI 100 from rfl, show (113 : Int32) = nI 113 from rfl, show (115 : Int32) = nI 115 from rfl, show (116 : Int32) = nI 116 from rfl, show (121 : Int32) = nI 121 from rfl, zz_eq (by omega) (by omega), zz_eq (by omega) (by omega), zz_eq (by omega) (by omega), zz_eq (by omega) (by omega), zz_eq (by omega) (by omega), zz_eq (by omega) (by omega)]
  omega
theorem zz_six {β : Type} (A B : β) {L : Nat} (h : iSix L) : (if nI L = 121 then A else if nI L = 115 then A else if nI L = 98 then A else if nI L = 116 then A else if nI L = 113 then A else if nI L = 100 then A else B) = A := by
  rcases h with rfl | rfl | rfl | rfl | rfl | rfl <;> rfl
theorem zz_nsix {β : Type} (A B : β) {v : Int32} (h : nSix v) : (if v = 121 then A else if v = 115 then A else if v = 98 then A else if v = 116 then A else if v = 113 then A else if v = 100 then A else B) = B := by
  obtain ⟨h1, h2, h3, h4, h5, h6⟩ := h
  rw [if_neg h6, if_neg h4, if_neg h1, if_neg h5, if_neg h3, if_neg h2]
theorem zz_lett {n q : Nat} {c : Nat → Nat} {jt gx : Nat → Int32} {told : Int32} (h : TX n c jt gx) (hq : q < n) (hl : 97 ≤ c q ∧ c q ≤ 122) : ∃ r1 r2, fX4_readLetters (nI n) (nI q) (nI q) 0 jt = some r1 ∧ fX7_readLetters (nI n) (nI q) (nI q) gx = some r2 ∧ Tok n q told (r1.1, r1.2.1, nI q, r1.2.2) (r2.1, nI q, r2.2.1, r2.2.2) := by
  obtain ⟨hn, hc⟩ := h
  obtain ⟨y1, y2, y3⟩ := hc q hq
  obtain ⟨e, e', h1, h2, k, k1, k2, rfl, rfl⟩ := lpd_2 (st := fun s1 => sX4_readLetters_5 (nI n) (nI q) jt s1.1 s1.2) (st' := fun s2 => sX7_readLetters_13 (nI n) gx s2) (P := fun e e' => ∃ k, 1 ≤ k ∧ q + k ≤ n ∧ e = (nI (q + k), if k = 1 then nI (c q) else 0) ∧ e' = nI (q + k)) (fun k s s' => s = (nI (q + k), if k = 1 then nI (c q) else 0) ∧ s' = nI (q + k)) (n - q) (by omega) (nI q, 0) (nI q) ⟨rfl, rfl⟩ (fun k s s' hk hI => by
    obtain ⟨rfl, rfl⟩ := hI
    unfold sX4_readLetters_5 sX7_readLetters_13
    by_cases c1 : n ≤ q + k
    · have b1 : nI n ≤ nI (q + k) := by rw [zz_le (by omega) (by omega)]; exact c1
      rw [if_pos b1, if_pos b1]
      exact Or.inr ⟨_, _, rfl, rfl, k, by omega, by omega, rfl, rfl⟩
    · have b1 : ¬ nI n ≤ nI (q + k) := by rw [zz_le (by omega) (by omega)]; exact c1
      have b2 : inb (nI (q + k)) 200 = true := by rw [zz_inbt (by omega)]; omega
      obtain ⟨x1, x2, x3⟩ := hc (q + k) (by omega)
      have en : nI (q + k) + 1 = nI (q + (k + 1)) := by rw [zz_1, zz_add]; rfl
      have eq : (nI (q + k) = nI q) = (k = 0) := by rw [zz_eq (by omega) (by omega)]; exact propext (by omega)
      simp only [jn, b1, b2, zz_cl (show q + k < 2147483648 by omega), x1, x2, zz_let4 x3, zz_let7 x3, en, eq, Option.bind_some, ↓reduceIte]
      by_cases c2 : 97 ≤ c (q + k) ∧ c (q + k) ≤ 122
      · rw [decide_eq_true c2]
        refine Or.inl ⟨by omega, ?_⟩
        by_cases c3 : k = 0
        · subst c3
          simp only [zz_bt, ↓reduceIte]
          exact ⟨_, _, rfl, rfl, rfl, rfl⟩
        · have c4 : ¬ k + 1 = 1 := by omega
          simp only [zz_bt, c3, c4, ↓reduceIte]
          exact ⟨_, _, rfl, rfl, rfl, rfl⟩
      · rw [decide_eq_false c2]
        simp only [zz_bf, ↓reduceIte]
        refine Or.inr ⟨_, _, rfl, rfl, k, ?_, by omega, rfl, rfl⟩
        rcases Nat.eq_zero_or_pos k with c3 | c3
        · subst c3; exact (c2 hl).elim
        · exact c3)
  have b2 : inb (nI q) 200 = true := by rw [zz_inbt (by omega)]; omega
  have ed : nI (q + k) - nI q = nI k := by rw [zz_sub (by omega)]; congr 1; omega
  have e1 : (nI k = 1) = (k = 1) := by rw [zz_1, zz_eq (by omega) (by omega)]
  have r4 : fX4_readLetters (nI n) (nI q) (nI q) 0 jt = some (nI (q + k), 1, if k = 1 then nI (c q) else 0) := by
    unfold fX4_readLetters
    rw [h1]; rfl
  have n10 : ¬ (1 : Int32) = 0 := by decide
  rw [r4]
  by_cases s1 : iSix (c q)
  · by_cases s2 : k = 1
    · subst s2
      refine ⟨_, (nI (q + 1), 1, nI (c q)), rfl, ?_, q, by omega, by omega, rfl, rfl, Or.inr (Or.inr (Or.inr (Or.inl ⟨c q, q + 1, s1, by omega, by omega, ?_, rfl⟩)))⟩
      · unfold fX7_readLetters jn
        simp only [b2, h2, y2, zz_cl (show q < 2147483648 by omega), zz_six _ _ s1, ed, e1, n10, Option.bind_some, ↓reduceIte]
      · simp only [↓reduceIte]
    · refine ⟨_, (nI (q + k), 4, nI (c q)), rfl, ?_, q, by omega, by omega, rfl, rfl, Or.inr (Or.inr (Or.inr (Or.inr ⟨hq, rfl, Or.inl ⟨rfl, ?_⟩⟩)))⟩
      · unfold fX7_readLetters jn
        simp only [b2, h2, y2, zz_cl (show q < 2147483648 by omega), zz_six _ _ s1, ed, e1, s2, n10, Option.bind_some, ↓reduceIte]
      · simp only [s2, ↓reduceIte]
        exact nSix_0
  · have ns := nSix_n y3 s1
    refine ⟨_, (nI (q + k), 4, nI (c q)), rfl, ?_, q, by omega, by omega, rfl, rfl, Or.inr (Or.inr (Or.inr (Or.inr ⟨hq, rfl, Or.inl ⟨rfl, ?_⟩⟩)))⟩
    · unfold fX7_readLetters jn
      simp only [b2, h2, y2, zz_cl (show q < 2147483648 by omega), zz_nsix _ _ ns, Option.bind_some, ↓reduceIte]
    · by_cases s2 : k = 1
      · simp only [s2, ↓reduceIte]
        exact ns
      · simp only [s2, ↓reduceIte]
        exact nSix_0
theorem zz_numb {n q : Nat} {c : Nat → Nat} {jt gx : Nat → Int32} {told : Int32} (h : TX n c jt gx) (hq : q < n) (hl : 48 ≤ c q ∧ c q ≤ 57) : ∃ r1 r2, fX4_readNumber (nI n) (nI q) (nI q) 0 jt = some r1 ∧ fX7_readNumber (nI n) (nI q) (nI q) gx = some r2 ∧ Tok n q told (r1.1, r1.2.1, nI q, r1.2.2) (r2.1, nI q, r2.2.1, r2.2.2) := by
  obtain ⟨hn, hc⟩ := h
  obtain ⟨y1, y2, y3⟩ := hc q hq
  obtain ⟨e, e', h1, h2, k, w, k1, k2, k3, rfl, rfl⟩ := lpd_2 (st := fun s1 => sX4_readNumber_0 (nI n) jt s1.1 s1.2) (st' := fun s1 => sX7_readNumber_2 (nI n) gx s1.1 s1.2) (P := fun e e' => ∃ k w, 1 ≤ k ∧ q + k ≤ n ∧ w ≤ 999 ∧ e = (nI (q + k), nI w) ∧ e' = (nI w, nI (q + k))) (fun k s s' => ∃ w, w ≤ 999 ∧ s = (nI (q + k), nI w) ∧ s' = (nI w, nI (q + k))) (n - q) (by omega) (nI q, 0) (0, nI q) ⟨0, by omega, rfl, rfl⟩ (fun k s s' hk hI => by
    obtain ⟨w, hw, rfl, rfl⟩ := hI
    unfold sX4_readNumber_0 sX7_readNumber_2
    by_cases c1 : n ≤ q + k
    · have b1 : nI n ≤ nI (q + k) := by rw [zz_le (by omega) (by omega)]; exact c1
      rw [if_pos b1, if_pos b1]
      exact Or.inr ⟨_, _, rfl, rfl, k, w, by omega, by omega, hw, rfl, rfl⟩
    · have b1 : ¬ nI n ≤ nI (q + k) := by rw [zz_le (by omega) (by omega)]; exact c1
      have b2 : inb (nI (q + k)) 200 = true := by rw [zz_inbt (by omega)]; omega
      obtain ⟨x1, x2, x3⟩ := hc (q + k) (by omega)
      have en : nI (q + k) + 1 = nI (q + (k + 1)) := by rw [zz_1, zz_add]; rfl
      have e9 : (99 : Int32) = nI 99 := rfl
      simp only [jn, b1, b2, zz_cl (show q + k < 2147483648 by omega), x1, x2, zz_dig4 x3, zz_dig7 x3, en, e9, zz_le (show w < 2147483648 by omega) (show 99 < 2147483648 by omega), zz_lt (show 99 < 2147483648 by omega) (show w < 2147483648 by omega), Option.bind_some, ↓reduceIte]
      by_cases c2 : 48 ≤ c (q + k) ∧ c (q + k) ≤ 57
      · rw [decide_eq_true c2]
        refine Or.inl ⟨by omega, ?_⟩
        by_cases c3 : w ≤ 99
        · have c4 : ¬ 99 < w := by omega
          have u1 : nI w * 10 + nI (c (q + k)) - 48 = nI (10 * w + (c (q + k) - 48)) := by
            rw [zz_10, zz_mul, zz_add, show (48 : Int32) = nI 48 from rfl, zz_sub (by omega)]; congr 1; omega
          have u2 : 10 * nI w + nI (c (q + k)) - 48 = nI (10 * w + (c (q + k) - 48)) := by
            rw [zz_10, zz_mul, zz_add, show (48 : Int32) = nI 48 from rfl, zz_sub (by omega)]; congr 1; omega
          simp only [zz_bt, c3, c4, u1, u2, ↓reduceIte]
          exact ⟨_, _, rfl, rfl, _, by omega, rfl, rfl⟩
        · have c4 : 99 < w := by omega
          simp only [zz_bt, c3, c4, ↓reduceIte]
          exact ⟨_, _, rfl, rfl, _, hw, rfl, rfl⟩
      · rw [decide_eq_false c2]
        simp only [zz_bf, ↓reduceIte]
        refine Or.inr ⟨_, _, rfl, rfl, k, w, ?_, by omega, hw, rfl, rfl⟩
        rcases Nat.eq_zero_or_pos k with c3 | c3
        · subst c3; exact (c2 hl).elim
        · exact c3)
  have b2 : inb (nI q) 200 = true := by rw [zz_inbt (by omega)]; omega
  have ed : nI (q + k) - nI q = nI k := by rw [zz_sub (by omega)]; congr 1; omega
  have e1 : (nI k ≤ 1) = (k ≤ 1) := by rw [zz_1, zz_le (by omega) (by omega)]
  have e9 : (99 : Int32) = nI 99 := rfl
  have e8 : (nI (c q) = 48) = (c q = 48) := by rw [show (48 : Int32) = nI 48 from rfl, zz_eq (by omega) (by omega)]
  have n10 : ¬ (1 : Int32) = 0 := by decide
  unfold fX4_readNumber fX7_readNumber jn
  simp only [h1, h2, b2, y1, y2, zz_cl (show q < 2147483648 by omega), ed, e1, e8, e9, zz_le (show w < 2147483648 by omega) (show 99 < 2147483648 by omega), zz_lt (show 99 < 2147483648 by omega) (show w < 2147483648 by omega), Option.bind_some, ↓reduceIte]
  by_cases s1 : w ≤ 99
  · have s1' : ¬ 99 < w := by omega
    by_cases s2 : c q = 48
    · by_cases s3 : k ≤ 1
      · simp only [s1, s1', s2, s3, ↓reduceIte]
        exact ⟨_, _, rfl, rfl, q, by omega, by omega, rfl, rfl, Or.inr (Or.inl ⟨w, q + k, s1, by omega, by omega, rfl, rfl⟩)⟩
      · simp only [s1', s2, s3, n10, ↓reduceIte]
        exact ⟨_, _, rfl, rfl, q, by omega, by omega, rfl, rfl, Or.inr (Or.inr (Or.inr (Or.inr ⟨hq, rfl, Or.inr rfl⟩)))⟩
    · by_cases s3 : k ≤ 1
      · simp only [s1, s1', s2, s3, ↓reduceIte]
        exact ⟨_, _, rfl, rfl, q, by omega, by omega, rfl, rfl, Or.inr (Or.inl ⟨w, q + k, s1, by omega, by omega, rfl, rfl⟩)⟩
      · simp only [s1, s1', s2, s3, ↓reduceIte]
        exact ⟨_, _, rfl, rfl, q, by omega, by omega, rfl, rfl, Or.inr (Or.inl ⟨w, q + k, s1, by omega, by omega, rfl, rfl⟩)⟩
  · have s1' : 99 < w := by omega
    by_cases s2 : c q = 48
    · by_cases s3 : k ≤ 1
      · simp only [s1, s1', s2, s3, ↓reduceIte]
        exact ⟨_, _, rfl, rfl, q, by omega, by omega, rfl, rfl, Or.inr (Or.inr (Or.inr (Or.inr ⟨hq, rfl, Or.inr rfl⟩)))⟩
      · simp only [s1', s2, s3, n10, ↓reduceIte]
        exact ⟨_, _, rfl, rfl, q, by omega, by omega, rfl, rfl, Or.inr (Or.inr (Or.inr (Or.inr ⟨hq, rfl, Or.inr rfl⟩)))⟩
    · simp only [s1, s1', s2, ↓reduceIte]
      exact ⟨_, _, rfl, rfl, q, by omega, by omega, rfl, rfl, Or.inr (Or.inr (Or.inr (Or.inr ⟨hq, rfl, Or.inr rfl⟩)))⟩
theorem Tok.le {n p q : Nat} {told : Int32} {r1 r2 : Int32 × Int32 × Int32 × Int32} (h : Tok n q told r1 r2) (hp : p ≤ q) : Tok n p told r1 r2 := by
  obtain ⟨x, x1, x2, x3, x4, x5⟩ := h
  refine ⟨x, by omega, x2, x3, x4, ?_⟩
  rcases x5 with h | ⟨v, p', h1, h2, h3⟩ | ⟨p', h2, h3⟩ | ⟨L, p', h1, h2, h3⟩ | ⟨h0, h⟩
  · exact Or.inl h
  · exact Or.inr (Or.inl ⟨v, p', h1, by omega, h3⟩)
  · exact Or.inr (Or.inr (Or.inl ⟨p', by omega, h3⟩))
  · exact Or.inr (Or.inr (Or.inr (Or.inl ⟨L, p', h1, by omega, h3⟩)))
  · exact Or.inr (Or.inr (Or.inr (Or.inr ⟨by omega, h⟩)))
theorem zz_token {n p : Nat} {c : Nat → Nat} {jt gx : Nat → Int32} (told : Int32) (h : TX n c jt gx) (hp : p ≤ n) : ∃ r1 r2, fX4_nextToken (nI n) (nI p) jt = some r1 ∧ fX7_reads (nI n) (nI p) told gx = some r2 ∧ Tok n p told r1 r2 := by
  obtain ⟨q, q1, q2, e1, e2⟩ := zz_skip h hp
  have hn := h.1
  unfold fX4_nextToken fX7_reads
  rw [e1, e2, Option.bind_some, Option.bind_some]
  by_cases c1 : q = n
  · have b1 : ¬ nI q < nI n := by rw [zz_lt (by omega) (by omega)]; omega
    have b2 : nI q = nI n := by rw [c1]
    rw [if_neg b1, if_pos b2]
    exact ⟨_, _, rfl, rfl, q, by omega, by omega, rfl, rfl, Or.inl ⟨rfl, rfl⟩⟩
  · have b1 : nI q < nI n := by rw [zz_lt (by omega) (by omega)]; omega
    have b2 : ¬ nI q = nI n := by rw [zz_eq (by omega) (by omega)]; exact c1
    have b3 : inb (nI q) 200 = true := by rw [zz_inbt (by omega)]; omega
    obtain ⟨y1, y2, y3⟩ := h.2 q (by omega)
    rw [if_pos b1, if_neg b2]
    simp only [b3, zz_cl (show q < 2147483648 by omega), y1, y2, zz_let4 y3, zz_let7 y3, zz_dig4 y3, zz_dig7 y3, Option.bind_some, ↓reduceIte]
    by_cases l1 : 97 ≤ c q ∧ c q ≤ 122
    · obtain ⟨r1, r2, h1, h2, h3⟩ := zz_lett (told := told) h (show q < n by omega) l1
      rw [decide_eq_true l1]
      simp only [zz_bt, h1, h2, Option.bind_some, ↓reduceIte]
      exact ⟨_, _, rfl, rfl, h3.le q1⟩
    · rw [decide_eq_false l1]
      by_cases l2 : 48 ≤ c q ∧ c q ≤ 57
      · obtain ⟨r1, r2, h1, h2, h3⟩ := zz_numb (told := told) h (show q < n by omega) l2
        rw [decide_eq_true l2]
        simp only [zz_bt, zz_bf, h1, h2, Option.bind_some, ↓reduceIte]
        exact ⟨_, _, rfl, rfl, h3.le q1⟩
      · rw [decide_eq_false l2]
        have n33 : ¬ (4 : Int32) = 3 := by decide
        by_cases l3 : nI (c q) = 59
        · simp only [jn, zz_bf, l3, ↓reduceIte]
          refine ⟨_, _, rfl, rfl, q, q1, q2, rfl, rfl, Or.inr (Or.inr (Or.inl ⟨q + 1, by omega, by omega, ?_, ?_⟩))⟩
          · rw [zz_1, zz_add]
          · rw [zz_1, zz_add]
        · simp only [jn, zz_bf, l3, n33, ↓reduceIte]
          exact ⟨_, _, rfl, rfl, q, q1, q2, rfl, rfl, Or.inr (Or.inr (Or.inr (Or.inr ⟨by omega, rfl, Or.inr rfl⟩)))⟩
