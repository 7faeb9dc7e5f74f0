/-! court: numbers and ends on both sides. -/
theorem zz_num {n p : Nat} {c : Nat → Nat} {jt gx : Nat → Int32} (told lo hi : Int32) (h : TX n c jt gx) (hp : p ≤ n) : ∃ r1, fX4_nextToken (nI n) (nI p) jt = some r1 ∧ ((∃ q v p' : Nat, v ≤ 99 ∧ p < p' ∧ p' ≤ n ∧ r1 = (nI p', 2, nI q, nI v) ∧ lo.toInt ≤ (v : Int) ∧ (v : Int) ≤ hi.toInt ∧ fX7_number lo hi (nI n) (nI p) told gx = some (true, nI p', nI q, 2, nI v)) ∨ (∃ (q : Nat) (y : Int32 × Int32 × Int32), q ≤ n ∧ r1.2.2.1 = nI q ∧ (r1.2.1 = 2 → (r1.2.2.2 < lo ∨ (¬ r1.2.2.2 < lo ∧ ¬ r1.2.2.2 ≤ hi))) ∧ fX7_number lo hi (nI n) (nI p) told gx = some (false, y.1, nI q, y.2.1, y.2.2))) := by
  obtain ⟨r1, r2, e1, e2, q, q1, q2, q3, q4, hh⟩ := zz_token told h hp
  refine ⟨r1, e1, ?_⟩
  have bad : ¬ r2.2.2.1 = 2 → fX7_number lo hi (nI n) (nI p) told gx = some (false, r2.1, nI q, r2.2.2.1, r2.2.2.2) := by
    intro hb
    unfold fX7_number
    rw [e2, Option.bind_some, if_neg hb, q4]
  rcases hh with ⟨h1, h2⟩ | ⟨v, p', h1, h2, h3, rfl, rfl⟩ | ⟨p', h2, h3, rfl, rfl⟩ | ⟨L, p', h1, h2, h3, rfl, rfl⟩ | ⟨h0, h1, h2⟩
  · refine Or.inr ⟨q, (r2.1, r2.2.2.1, r2.2.2.2), q2, q3, fun hh => ?_, bad (by rw [h2]; decide)⟩
    rw [h1] at hh; exact absurd hh (by decide)
  · have ei : fX7_in (nI v).toInt64 lo.toInt64 hi.toInt64 = some (decide (lo.toInt ≤ (v : Int) ∧ (v : Int) ≤ hi.toInt)) := by
      rw [zz_in, zz_il, zz_il, zz_il, zz_ti (by omega)]
    by_cases c1 : lo.toInt ≤ (v : Int) ∧ (v : Int) ≤ hi.toInt
    · refine Or.inl ⟨q, v, p', h1, h2, h3, rfl, c1.1, c1.2, ?_⟩
      unfold fX7_number
      rw [e2, Option.bind_some]
      simp only [ei, decide_eq_true c1, zz_bt, Option.bind_some, ↓reduceIte]
    · refine Or.inr ⟨q, (nI p', 2, nI v), q2, rfl, fun _ => ?_, ?_⟩
      · show nI v < lo ∨ (¬ nI v < lo ∧ ¬ nI v ≤ hi)
        rw [zz_lti, zz_lei, zz_ti (by omega)]
        omega
      · unfold fX7_number
        rw [e2, Option.bind_some]
        simp only [ei, decide_eq_false c1, zz_bf, Option.bind_some, ↓reduceIte]
  · exact Or.inr ⟨q, (nI p', 3, told), q2, rfl, fun hh => absurd hh (by show ¬ (3 : Int32) = 2; decide), bad (by show ¬ (3 : Int32) = 2; decide)⟩
  · exact Or.inr ⟨q, (nI p', 1, nI L), q2, rfl, fun hh => absurd hh (by show ¬ (1 : Int32) = 2; decide), bad (by show ¬ (1 : Int32) = 2; decide)⟩
  · refine Or.inr ⟨q, (r2.1, r2.2.2.1, r2.2.2.2), q2, q3, fun hh => ?_, bad (by rw [h1]; decide)⟩
    rcases h2 with ⟨h2, -⟩ | h2
    · rw [h2] at hh; exact absurd hh (by decide)
    · rw [h2] at hh; exact absurd hh (by decide)
theorem zz_nstep {n p i : Nat} {c : Nat → Nat} {jt gx nums tY : Nat → Int32} {ty tt lo hi sz : Int32} (tok tp tv told L : Int32) (h : TX n c jt gx) (hp : p ≤ n) (hsz : ¬ sz ≤ nI i) (hi5 : i < 5) (h1 : fX4_least L (nI i) nums tt tY = some lo) (h2 : fX4_most L (nI i) ty = some hi) : (∃ q v p' : Nat, v ≤ 99 ∧ p < p' ∧ p' ≤ n ∧ lo.toInt ≤ (v : Int) ∧ (v : Int) ≤ hi.toInt ∧ sX4_readItem_36 L sz (nI n) jt ty tt tY (nI i) (nI p) tok tp tv nums = some (.inl (nI (i + 1), nI p', 2, nI q, nI v, upd nums i (nI v))) ∧ fX7_number lo hi (nI n) (nI p) told gx = some (true, nI p', nI q, 2, nI v)) ∨ (∃ (q : Nat) (x y : Int32 × Int32 × Int32), q ≤ n ∧ sX4_readItem_36 L sz (nI n) jt ty tt tY (nI i) (nI p) tok tp tv nums = some (.inr (.inl (x.1, x.2.1, nI q, x.2.2, nums))) ∧ fX7_number lo hi (nI n) (nI p) told gx = some (false, y.1, nI q, y.2.1, y.2.2)) := by
  obtain ⟨r1, e1, hh⟩ := zz_num told lo hi h hp
  have b5 : inb (nI i) 5 = true := by rw [zz_inbt (by omega)]; omega
  have en : nI i + 1 = nI (i + 1) := by rw [zz_1, zz_add]
  rcases hh with ⟨q, v, p', h3, h4, h5, rfl, h6, h7, h8⟩ | ⟨q, y, hqn, h3, h4, h5⟩
  · refine Or.inl ⟨q, v, p', h3, h4, h5, h6, h7, ?_, h8⟩
    have c1 : ¬ nI v < lo := by rw [zz_lti, zz_ti (by omega)]; omega
    have c2 : nI v ≤ hi := by rw [zz_lei, zz_ti (by omega)]; omega
    unfold sX4_readItem_36
    simp only [hsz, e1, h1, h2, c1, c2, b5, en, zz_cl (show i < 2147483648 by omega), Option.bind_some, ↓reduceIte]
  · refine Or.inr ⟨q, (r1.1, r1.2.1, r1.2.2.2), y, hqn, ?_, h5⟩
    unfold sX4_readItem_36
    rw [← h3]
    by_cases c1 : r1.2.1 = 2
    · rcases h4 c1 with c2 | ⟨c2, c3⟩
      · simp only [hsz, e1, h1, c1, c2, Option.bind_some, ↓reduceIte]
      · simp only [hsz, e1, h1, h2, c1, c2, c3, Option.bind_some, ↓reduceIte]
    · simp only [hsz, e1, c1, Option.bind_some, ↓reduceIte]
theorem zz_nend {n : Nat} {jt nums tY : Nat → Int32} {ty tt sz i p tok tp tv L : Int32} (hsz : sz ≤ i) : sX4_readItem_36 L sz (nI n) jt ty tt tY i p tok tp tv nums = some (.inr (.inr (p, tok, tp, tv, nums))) := by
  unfold sX4_readItem_36
  rw [if_pos hsz]
theorem zz_end {n p : Nat} {c : Nat → Nat} {jt gx : Nat → Int32} (told : Int32) (h : TX n c jt gx) (hp : p ≤ n) : ∃ r1, fX4_nextToken (nI n) (nI p) jt = some r1 ∧ ((∃ q p', p < p' ∧ p' ≤ n ∧ r1 = (nI p', 3, nI q, 0) ∧ fX7_ends (nI n) (nI p) told gx = some (true, nI p', nI q, 3, told)) ∨ (∃ (q : Nat) (y : Int32 × Int32 × Int32), q ≤ n ∧ r1.2.2.1 = nI q ∧ ¬ r1.2.1 = 3 ∧ fX7_ends (nI n) (nI p) told gx = some (false, y.1, nI q, y.2.1, y.2.2))) := by
  obtain ⟨r1, r2, e1, e2, q, q1, q2, q3, q4, hh⟩ := zz_token told h hp
  refine ⟨r1, e1, ?_⟩
  have bad : ¬ r2.2.2.1 = 3 → fX7_ends (nI n) (nI p) told gx = some (false, r2.1, nI q, r2.2.2.1, r2.2.2.2) := by
    intro hb
    unfold fX7_ends
    rw [e2, Option.bind_some, if_neg hb, q4]
  rcases hh with ⟨h1, h2⟩ | ⟨v, p', h1, h2, h3, rfl, rfl⟩ | ⟨p', h2, h3, rfl, rfl⟩ | ⟨L, p', h1, h2, h3, rfl, rfl⟩ | ⟨h0, h1, h2⟩
  · exact Or.inr ⟨q, (r2.1, r2.2.2.1, r2.2.2.2), q2, q3, by rw [h1]; decide, bad (by rw [h2]; decide)⟩
  · exact Or.inr ⟨q, (nI p', 2, nI v), q2, rfl, by show ¬ (2 : Int32) = 3; decide, bad (by show ¬ (2 : Int32) = 3; decide)⟩
  · refine Or.inl ⟨q, p', h2, h3, rfl, ?_⟩
    unfold fX7_ends
    rw [e2, Option.bind_some]
    simp only [↓reduceIte]
  · exact Or.inr ⟨q, (nI p', 1, nI L), q2, rfl, by show ¬ (1 : Int32) = 3; decide, bad (by show ¬ (1 : Int32) = 3; decide)⟩
  · refine Or.inr ⟨q, (r2.1, r2.2.2.1, r2.2.2.2), q2, q3, ?_, bad (by rw [h1]; decide)⟩
    rcases h2 with ⟨h2, -⟩ | h2
    · rw [h2]; decide
    · rw [h2]; decide
theorem lpd_l {σ ε : Type} {st : σ → Option (σ ⊕ ε)} {s s' : σ} {f : Nat} (h : st s = some (.inl s')) : lpd st (f + 1) s = lpd st f s' := by
  show (st s).bind _ = _
  rw [h]; rfl
theorem lpd_r {σ ε : Type} {st : σ → Option (σ ⊕ ε)} {s : σ} {e : ε} {f : Nat} (h : st s = some (.inr e)) : lpd st (f + 1) s = some e := by
  show (st s).bind _ = _
  rw [h]; rfl
theorem FU_8 : FU = 99992 + 1 + 1 + 1 + 1 + 1 + 1 + 1 + 1 := rfl
