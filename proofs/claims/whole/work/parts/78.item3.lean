/-! court: the item s; any item. -/
def sBd (j : Nat) : Nat := if j = 0 then 18 else if j = 1 then 1 else 5
theorem it_sn {n p q : Nat} {c C : Nat → Nat} {jt gx nums : Nat → Int32} {ty tt : Int32} {tY gr : Nat → Int32} (hT : TX n c jt gx) (hp : p ≤ n) (hgr : ∀ i, i < 55 → gr i = nI (C i)) (hS : C 1 < 6) : ∃ (e : (Int32 × Int32 × Int32 × Int32 × (Nat → Int32)) ⊕ (Int32 × Int32 × Int32 × Int32 × (Nat → Int32))) (e' : (Int32 × Int32 × Int32 × Int32 × (Nat → Int32)) ⊕ (Int32 × Int32 × Int32 × Int32 × (Nat → Int32))), lpd (fun s5 => sX4_readItem_36 115 5 (nI n) jt ty tt tY s5.1 s5.2.1 s5.2.2.1 s5.2.2.2.1 s5.2.2.2.2.1 s5.2.2.2.2.2) FU (0, nI p, 1, nI q, 115, nums) = some e ∧ lpd (fun s4 => sX7_readState_27 (nI (8 + 5 * C 1)) (nI n) gx s4.1 s4.2.1 s4.2.2.1 s4.2.2.2.1 s4.2.2.2.2.1 s4.2.2.2.2.2) FU (0, nI p, nI q, 1, 115, gr) = some e' ∧ ((∃ (q' : Nat) (x1 x2 x4 y1 y2 y3 : Int32) (nm gr' : Nat → Int32), q' ≤ n ∧ e = .inl (x1, x2, nI q', x4, nm) ∧ e' = .inl (y1, nI q', y2, y3, gr')) ∨ (∃ (D : Nat → Nat) (p' : Nat) (x2 x3 x4 y1 y2 y3 : Int32) (nm gr' : Nat → Int32), p < p' ∧ p' ≤ n ∧ e = .inr (nI p', x2, x3, x4, nm) ∧ e' = .inr (nI p', y1, y2, y3, gr') ∧ (∀ i, i < 55 → gr' i = nI (D i)) ∧ (∀ j, (j < 8 + 5 * C 1 ∨ 8 + 5 * C 1 + 5 ≤ j) → D j = C j) ∧ (∀ j, j < 5 → nm j = nI (D (8 + 5 * C 1 + j))) ∧ (∀ j, j < 5 → D (8 + 5 * C 1 + j) ≤ sBd j))) := by
  refine lpd_2 (fun k s s' => ∃ (D : Nat → Nat) (p' : Nat) (x2 x3 x4 y1 y2 y3 : Int32) (nm gr' : Nat → Int32), p + k ≤ p' ∧ p' ≤ n ∧ s = (nI k, nI p', x2, x3, x4, nm) ∧ s' = (nI k, nI p', y1, y2, y3, gr') ∧ (∀ i, i < 55 → gr' i = nI (D i)) ∧ (∀ j, (j < 8 + 5 * C 1 ∨ 8 + 5 * C 1 + k ≤ j) → D j = C j) ∧ (∀ j, j < k → nm j = nI (D (8 + 5 * C 1 + j))) ∧ (∀ j, j < k → D (8 + 5 * C 1 + j) ≤ sBd j)) 5 (by omega) (0, nI p, 1, nI q, 115, nums) (0, nI p, nI q, 1, 115, gr) ⟨C, p, _, _, _, _, _, _, _, _, by omega, hp, rfl, rfl, hgr, fun _ _ => rfl, fun j hj => absurd hj (Nat.not_lt_zero j), fun j hj => absurd hj (Nat.not_lt_zero j)⟩ (fun k s s' hk hI => ?_)
  obtain ⟨D, p', x2, x3, x4, y1, y2, y3, nm, gr', h1, h2, rfl, rfl, h3, h4, h5, h6⟩ := hI
  by_cases c5 : k = 5
  · subst c5
    refine Or.inr ⟨_, _, zz_nend (show (5 : Int32) ≤ nI 5 by decide), ?_, Or.inr ⟨D, p', x2, x3, x4, y1, y2, y3, nm, gr', by omega, h2, rfl, rfl, h3, h4, h5, h6⟩⟩
    unfold sX7_readState_27
    rw [if_pos (show (5 : Int32) ≤ nI 5 by decide)]
  · have hb : fX4_most 115 (nI k) ty = some (nI (sBd k)) := by
      rcases (show k = 0 ∨ k = 1 ∨ k = 2 ∨ k = 3 ∨ k = 4 by omega) with rfl | rfl | rfl | rfl | rfl <;> rfl
    have n5 : ¬ (5 : Int32) ≤ nI k := by rw [zz_5, zz_le (by omega) (by omega)]; omega
    have hsb : sBd k ≤ 18 := by unfold sBd; by_cases a : k = 0 <;> by_cases b : k = 1 <;> simp [a, b]
    have hK : ∀ (β : Type) (K6 : Int32 → Option β), (if nI k = 0 then K6 18 else if nI k = 1 then K6 1 else K6 5) = K6 (nI (sBd k)) := by
      intro β K6
      rcases (show k = 0 ∨ k = 1 ∨ k = 2 ∨ k = 3 ∨ k = 4 by omega) with rfl | rfl | rfl | rfl | rfl <;> rfl
    have bk : inb (nI (8 + 5 * C 1 + k)) 55 = true := by rw [zz_inbt (by omega)]; omega
    have en : nI k + 1 = nI (k + 1) := by rw [zz_1, zz_add]
    have ref : ∀ r7, fX7_number 0 (nI (sBd k)) (nI n) (nI p') y3 gx = some r7 → sX7_readState_27 (nI (8 + 5 * C 1)) (nI n) gx (nI k) (nI p') y1 y2 y3 gr' = if (bI r7.1) = 0 then some (.inr (Sum.inl (r7.2.1, r7.2.2.1, r7.2.2.2.1, r7.2.2.2.2, gr'))) else some (.inl (nI (k + 1), r7.2.1, r7.2.2.1, r7.2.2.2.1, r7.2.2.2.2, upd gr' (8 + 5 * C 1 + k) r7.2.2.2.2)) := by
      intro r7 e7
      unfold sX7_readState_27
      simp only [n5, ↓reduceIte]
      rw [funext (hK _)]
      unfold jn
      simp only [e7, zz_add, bk, en, zz_cl (show 8 + 5 * C 1 + k < 2147483648 by omega), Option.bind_some, ↓reduceIte]
    rcases zz_nstep (i := k) (sz := 5) (nums := nm) (tY := tY) (ty := ty) (tt := tt) (lo := 0) x2 x3 x4 y3 115 hT h2 n5 (by omega) rfl hb with ⟨q0, v, p1, v9, l1, l2, l3, l4, s0, n0⟩ | ⟨q0, x, y, hqq0, s0, n0⟩
    · rw [zz_ti (by omega)] at l4
      have r0 := ref _ n0
      simp only [zz_bt, ↓reduceIte] at r0
      refine Or.inl ⟨by omega, _, _, s0, r0, cUp D (8 + 5 * C 1 + k) v, p1, _, _, _, _, _, _, _, _, by omega, l2, rfl, rfl, upd_cUp h3 _ _, fun j hj => ?_, fun j hj => ?_, fun j hj => ?_⟩
      · rw [cUp_n (by omega)]; exact h4 j (by omega)
      · by_cases c : j = k
        · subst c; rw [pk_us, cUp_s]
        · rw [pk_un c, cUp_n (by omega)]; exact h5 j (by omega)
      · by_cases c : j = k
        · subst c; rw [cUp_s]; omega
        · rw [cUp_n (by omega)]; exact h6 j (by omega)
    · have r0 := ref _ n0
      simp only [zz_bf, ↓reduceIte] at r0
      exact Or.inr ⟨_, _, s0, r0, Or.inl ⟨q0, _, _, _, _, _, _, _, _, hqq0, rfl, rfl⟩⟩
theorem it_s {n p q : Nat} {c C : Nat → Nat} {jt gx nums : Nat → Int32} {ty ts tb tt td tq yT bT qT : Int32} {tl tz tc tY tA tB tF tG gr : Nat → Int32} (hT : TX n c jt gx) (hqq : q ≤ n) (hp : p ≤ n) (h : IC C ty ts tb tt td tq tl tz tc tY tA tB tF tG gr) (hF : FL C yT bT qT) : ItOK n p (fX4_readItem (nI n) (nI p) 1 (nI q) 115 yT bT qT nums jt ty ts tb tt td tq tl tz tc tY tA tB tF tG) (fX7_readItem (nI n) (nI p) (nI q) 1 115 gx gr) := by
  have hS6 : C 1 ≤ 6 := h.1.2.2.1
  have ets : ts = nI (C 1) := h.2.2.2.1
  have g1 : gr 1 = nI (C 1) := h.2.1 1 (by omega)
  have i1 : inb 1 55 = true := by decide
  have er : fX7_readItem (nI n) (nI p) (nI q) 1 115 gx gr = fX7_readState (nI n) (nI p) (nI q) 1 115 gx gr := by
    show (fX7_readState (nI n) (nI p) (nI q) 1 115 gx gr).bind _ = _
    cases (fX7_readState (nI n) (nI p) (nI q) 1 115 gx gr) <;> rfl
  have e6 : (nI (C 1) = 6) = (C 1 = 6) := by rw [zz_6, zz_eq (by omega) (by omega)]
  by_cases h6 : C 1 = 6
  · have hm : fX4_mayBegin 115 yT bT qT ts tt td = some false := by
      show (if 6 ≤ ts then some false else some true) = some false
      rw [ets, if_pos (by rw [zz_6, zz_le (by omega) (by omega)]; omega)]
    have e2 : fX7_readState (nI n) (nI p) (nI q) 1 115 gx gr = some (false, nI p, nI q, 1, 115, gr) := by
      have e6' : nI (C 1) = 6 := by rw [h6]; rfl
      unfold fX7_readState
      simp only [i1, zz_c1, g1, e6', ↓reduceIte]
    rw [rd_0 hm, er, e2]
    exact Or.inr ⟨q, _, _, _, _, _, _, _, hqq, rfl, rfl⟩
  · have hm : fX4_mayBegin 115 yT bT qT ts tt td = some true := by
      show (if 6 ≤ ts then some false else some true) = some true
      rw [ets, if_neg (by rw [zz_6, zz_le (by omega) (by omega)]; omega)]
    have hb : fX4_numbersOf 115 = some 5 := rfl
    have e8 : (8 : Int32) + 5 * nI (C 1) = nI (8 + 5 * C 1) := by rw [show (8 : Int32) = nI 8 from rfl, zz_5, zz_mul, zz_add]
    have eS : nI (C 1) + 1 = nI (C 1 + 1) := by rw [zz_1, zz_add]
    obtain ⟨e, e', hl, hl', hh⟩ := it_sn (q := q) (nums := nums) (ty := ty) (tt := tt) (tY := tY) hT hp h.2.1 (show C 1 < 6 by omega)
    rcases hh with ⟨q', x1, x2, x4, y1, y2, y3, nm, gr', hqq', rfl, rfl⟩ | ⟨D, p', x2, x3, x4, y1, y2, y3, nm, gr', h1, h2, rfl, rfl, h3, h4, h5, h6'⟩
    · rw [rd_f hm hb hl, er]
      have e2 : fX7_readState (nI n) (nI p) (nI q) 1 115 gx gr = some (false, y1, nI q', y2, y3, gr') := by
        unfold fX7_readState
        simp only [i1, zz_c1, g1, e6, h6, e8, hl', Option.bind_some, Sum.elim_inl, ↓reduceIte]
      rw [e2]
      exact Or.inr ⟨q', _, _, _, _, _, _, _, hqq', rfl, rfl⟩
    · have d1 : D 1 = C 1 := h4 1 (by omega)
      have g1' : gr' 1 = nI (C 1) := by rw [h3 1 (by omega), d1]
      obtain ⟨r1, e1, ⟨q3, p4, m1, m2, rfl, n3⟩ | ⟨q3, y, hqq3, m1, m2, n3⟩⟩ := zz_end y3 hT h2
      · have bS : inb (nI (C 1)) 6 = true := by rw [zz_inbt (by omega)]; omega
        have o0 : inb 0 5 = true := by decide
        have o1 : inb 1 5 = true := by decide
        have lt : lpd (fun s5 => sX4_takeState_34 (nI (C 1)) nm s5.1 s5.2) FU (0, tc) = some (atTo (3 * C 1) tc (fun v => nm (2 + v)) 3) := by
          have hz := zz_lp (st := fun s5 => sX4_takeState_34 (nI (C 1)) nm s5.1 s5.2) 3 0 (fun k => atTo (3 * C 1) tc (fun v => nm (2 + v)) k) (by omega) (fun k hk => ?_) ?_
          · rw [atTo_0] at hz
            exact hz
          · dsimp only
            unfold sX4_takeState_34
            have c1 : ¬ (3 : Int32) ≤ nI (0 + k) := by rw [zz_3, zz_le (by omega) (by omega)]; omega
            have a1 : (2 : Int32) + nI (0 + k) = nI (2 + k) := by rw [zz_2, zz_add, Nat.zero_add]
            have a2 : nI (C 1) * 3 + nI (0 + k) = nI (3 * C 1 + k) := by rw [zz_3, zz_mul, zz_add]; congr 1; omega
            have c2 : inb (nI (2 + k)) 5 = true := by rw [zz_inbt (by omega)]; omega
            have c3 : inb (nI (3 * C 1 + k)) 18 = true := by rw [zz_inbt (by omega)]; omega
            simp only [c1, a1, a2, c2, c3, zz_cl (show 2 + k < 2147483648 by omega), zz_cl (show 3 * C 1 + k < 2147483648 by omega), ↓reduceIte]
            rw [zz_1, zz_add, ← atTo_s]
          · rfl
        have ht : fX4_take 115 yT bT qT nm ty ts tb tt td tq tl tz tc tY tA tB tF tG = some (yT, bT, qT, ty, nI (C 1 + 1), tb, tt, td, tq, upd tl (C 1) (nm 0 - 9), upd tz (C 1) (nm 1), atTo (3 * C 1) tc (fun v => nm (2 + v)) 3, tY, tA, tB, tF, tG) := by
          have e3 : fX4_takeState nm ts tl tz tc = some (nI (C 1 + 1), upd tl (C 1) (nm 0 - 9), upd tz (C 1) (nm 1), atTo (3 * C 1) tc (fun v => nm (2 + v)) 3) := by
            unfold fX4_takeState
            simp only [ets, o0, o1, bS, zz_c0, zz_c1, zz_cl (show C 1 < 2147483648 by omega), lt, eS, Option.bind_some, ↓reduceIte]
          show (fX4_takeState nm ts tl tz tc).bind _ = _
          rw [e3]
          rfl
        rw [rd_t hm hb hl e1 ht, er]
        have e2 : fX7_readState (nI n) (nI p) (nI q) 1 115 gx gr = some (true, nI p4, nI q3, 3, y3, upd gr' 1 (nI (C 1 + 1))) := by
          unfold fX7_readState
          simp only [i1, zz_c1, g1, g1', e6, h6, e8, hl', n3, eS, Option.bind_some, Sum.elim_inr, ↓reduceIte]
        rw [e2]
        have hgl := upd_cUp h3 1 (C 1 + 1)
        have k6 : cUp D 1 (C 1 + 1) 6 = C 6 := by rw [cUp_n (by omega)]; exact h4 6 (by omega)
        have b0 := h6' 0 (by omega)
        have b1 := h6' 1 (by omega)
        have hIC := IC.st (C' := cUp D 1 (C 1 + 1)) (w := fun j => D (8 + 5 * C 1 + j)) h (show C 1 < 6 by omega) b0 b1 (fun i hi => by
          have := h6' (2 + i) (by omega)
          unfold sBd at this
          rw [if_neg (by omega), if_neg (by omega)] at this
          exact this) h5 (fun i hi => cUp_n (by omega)) (fun j j1 jj => by rw [cUp_n j1]; exact h4 j jj) cUp_s hgl
        exact Or.inl ⟨_, p4, _, _, _, _, _, _, _, _, _, _, _, _, _, _, _, _, _, _, _, _, _, _, _, _, _, by omega, m2, hIC, ⟨by rw [k6]; exact hF.1, by rw [k6]; exact hF.2.1, by rw [k6]; exact hF.2.2.1, by rw [k6]; exact hF.2.2.2⟩, rfl, rfl⟩
      · rw [rd_e hm hb hl e1 m2, er, m1]
        have e2 : fX7_readState (nI n) (nI p) (nI q) 1 115 gx gr = some (false, y.1, nI q3, y.2.1, y.2.2, upd gr' 1 (nI (C 1 + 1))) := by
          unfold fX7_readState
          simp only [i1, zz_c1, g1, g1', e6, h6, e8, hl', n3, eS, Option.bind_some, Sum.elim_inr, ↓reduceIte]
        rw [e2]
        exact Or.inr ⟨q3, _, _, _, _, _, _, _, hqq3, rfl, rfl⟩
/-- any item behind its first token -/
theorem it_any {n p : Nat} {c C : Nat → Nat} {jt gx nums : Nat → Int32} {told ty ts tb tt td tq yT bT qT : Int32} {tl tz tc tY tA tB tF tG gr : Nat → Int32} {r1 r2 : Int32 × Int32 × Int32 × Int32} (hT : TX n c jt gx) (h : IC C ty ts tb tt td tq tl tz tc tY tA tB tF tG gr) (hF : FL C yT bT qT) (hk : Tok n p told r1 r2) : (r1.2.1 = 0 ∧ r2.2.2.1 = 0) ∨ (¬ r1.2.1 = 0 ∧ ¬ r2.2.2.1 = 0 ∧ p < n ∧ ∃ p1, p ≤ p1 ∧ ItOK n p1 (fX4_readItem (nI n) r1.1 r1.2.1 r1.2.2.1 r1.2.2.2 yT bT qT nums jt ty ts tb tt td tq tl tz tc tY tA tB tF tG) (fX7_readItem (nI n) r2.1 r2.2.1 r2.2.2.1 r2.2.2.2 gx gr)) := by
  obtain ⟨q, q1, q2, q3, q4, hh⟩ := hk
  have m0 : fX4_mayBegin 0 yT bT qT ts tt td = some false := rfl
  have nolet : ∀ tk, ¬ tk = 1 → ∃ x, fX4_readItem (nI n) r1.1 tk r1.2.2.1 r1.2.2.2 yT bT qT nums jt ty ts tb tt td tq tl tz tc tY tA tB tF tG = some (false, r1.1, tk, nI q, x) := by
    intro tk htk
    refine ⟨(r1.2.2.2, yT, bT, qT, nums, ty, ts, tb, tt, td, tq, tl, tz, tc, tY, tA, tB, tF, tG), ?_⟩
    rw [← q3]
    unfold fX4_readItem jn
    simp only [htk, m0, zz_bf, Option.bind_some, ↓reduceIte]
  have noref : ∀ tk, ¬ tk = 1 → fX7_readItem (nI n) r2.1 r2.2.1 tk r2.2.2.2 gx gr = some (false, r2.1, nI q, tk, r2.2.2.2, gr) := by
    intro tk htk
    rw [← q4]
    unfold fX7_readItem
    simp only [htk, ↓reduceIte]
  rcases hh with ⟨h1, h2⟩ | ⟨v, p', h1, h2, h3, rfl, rfl⟩ | ⟨p', h2, h3, rfl, rfl⟩ | ⟨L, p', h1, h2, h3, rfl, rfl⟩ | ⟨h0, h1, h2⟩
  · exact Or.inl ⟨h1, h2⟩
  · obtain ⟨x, ex⟩ := nolet 2 (by decide)
    refine Or.inr ⟨by show ¬ (2 : Int32) = 0; decide, by show ¬ (2 : Int32) = 0; decide, by omega, p, Nat.le_refl _, Or.inr ⟨q, _, _, _, _, _, _, _, q2, ex, noref 2 (by decide)⟩⟩
  · obtain ⟨x, ex⟩ := nolet 3 (by decide)
    refine Or.inr ⟨by show ¬ (3 : Int32) = 0; decide, by show ¬ (3 : Int32) = 0; decide, by omega, p, Nat.le_refl _, Or.inr ⟨q, _, _, _, _, _, _, _, q2, ex, noref 3 (by decide)⟩⟩
  · refine Or.inr ⟨by show ¬ (1 : Int32) = 0; decide, by show ¬ (1 : Int32) = 0; decide, by omega, p', by omega, ?_⟩
    rcases h1 with rfl | rfl | rfl | rfl | rfl | rfl
    · exact it_b hT q2 h3 h hF
    · exact it_d hT q2 h3 h hF
    · exact it_q hT q2 h3 h hF
    · exact it_s hT q2 h3 h hF
    · exact it_t hT q2 h3 h hF
    · exact it_y hT q2 h3 h hF
  · have n4 : ¬ r2.2.2.1 = 1 := by rw [h1]; decide
    have n0 : ¬ r2.2.2.1 = 0 := by rw [h1]; decide
    rcases h2 with ⟨h2, z1, z2, z3, z4, z5, z6⟩ | h2
    · refine Or.inr ⟨by rw [h2]; decide, n0, h0, p, Nat.le_refl _, Or.inr ⟨q, r1.1, 1, (r1.2.2.2, yT, bT, qT, nums, ty, ts, tb, tt, td, tq, tl, tz, tc, tY, tA, tB, tF, tG), _, _, _, _, q2, ?_, noref _ n4⟩⟩
      rw [h2, ← q3]
      refine rd_0 ?_
      unfold fX4_mayBegin
      rw [if_neg z1, if_neg z2, if_neg z3, if_neg z4, if_neg z5, if_neg z6]
    · obtain ⟨x, ex⟩ := nolet r1.2.1 (by rw [h2]; decide)
      exact Or.inr ⟨by rw [h2]; decide, n0, h0, p, Nat.le_refl _, Or.inr ⟨q, _, _, _, _, _, _, _, q2, ex, noref _ n4⟩⟩
