/-! court: the items d, t, s. -/
theorem it_d {n p q : Nat} {c C : Nat → Nat} {jt gx nums : Nat → Int32} {ty ts tb tt td tq yT bT qT : Int32} {tl tz tc tY tA tB tF tG gr : Nat → Int32} (hT : TX n c jt gx) (hqq : q ≤ n) (hp : p ≤ n) (h : IC C ty ts tb tt td tq tl tz tc tY tA tB tF tG gr) (hF : FL C yT bT qT) : ItOK n p (fX4_readItem (nI n) (nI p) 1 (nI q) 100 yT bT qT nums jt ty ts tb tt td tq tl tz tc tY tA tB tF tG) (fX7_readItem (nI n) (nI p) (nI q) 1 100 gx gr) := by
  have hD4 : C 5 ≤ 4 := h.1.2.2.2.2.2.2.2.1
  have etd : td = nI (C 5) := h.2.2.2.2.2.2.1
  have g5 : gr 5 = nI (C 5) := h.2.1 5 (by omega)
  have i5 : inb 5 55 = true := by decide
  have er : fX7_readItem (nI n) (nI p) (nI q) 1 100 gx gr = fX7_readDeed (nI n) (nI p) (nI q) 1 100 gx gr := by
    show (fX7_readDeed (nI n) (nI p) (nI q) 1 100 gx gr).bind _ = _
    cases (fX7_readDeed (nI n) (nI p) (nI q) 1 100 gx gr) <;> rfl
  have e4 : (nI (C 5) = 4) = (C 5 = 4) := by rw [zz_4, zz_eq (by omega) (by omega)]
  by_cases h4 : C 5 = 4
  · have hm : fX4_mayBegin 100 yT bT qT ts tt td = some false := by
      show (if 4 ≤ td then some false else some true) = some false
      rw [etd, if_pos (by rw [zz_4, zz_le (by omega) (by omega)]; omega)]
    have e2 : fX7_readDeed (nI n) (nI p) (nI q) 1 100 gx gr = some (false, nI p, nI q, 1, 100, gr) := by
      have e4' : nI (C 5) = 4 := by rw [h4]; rfl
      unfold fX7_readDeed
      simp only [i5, zz_c5, g5, e4', ↓reduceIte]
    rw [rd_0 hm, er, e2]
    exact Or.inr ⟨q, _, _, _, _, _, _, _, hqq, rfl, rfl⟩
  · have hm : fX4_mayBegin 100 yT bT qT ts tt td = some true := by
      show (if 4 ≤ td then some false else some true) = some true
      rw [etd, if_neg (by rw [zz_4, zz_le (by omega) (by omega)]; omega)]
    have e47 : (47 : Int32) + 2 * nI (C 5) = nI (47 + 2 * C 5) := by rw [show (47 : Int32) = nI 47 from rfl, zz_2, zz_mul, zz_add]
    have e48 : nI (47 + 2 * C 5) + 1 = nI (48 + 2 * C 5) := by rw [zz_1, zz_add]; congr 1; omega
    have b47 : inb (nI (47 + 2 * C 5)) 55 = true := by rw [zz_inbt (by omega)]; omega
    have b48 : inb (nI (48 + 2 * C 5)) 55 = true := by rw [zz_inbt (by omega)]; omega
    have eD : nI (C 5) + 1 = nI (C 5 + 1) := by rw [zz_1, zz_add]
    have u1 : ∀ x, upd gr (47 + 2 * C 5) x 5 = nI (C 5) := fun x => by rw [pk_un (by omega)]; exact g5
    have u2 : ∀ x y, upd (upd gr (47 + 2 * C 5) x) (48 + 2 * C 5) y 5 = nI (C 5) := fun x y => by rw [pk_un (by omega)]; exact u1 x
    have hb : fX4_numbersOf 100 = some 2 := rfl
    have h5i : (5 : Int32).toInt = 5 := by decide
    rcases zz_nstep (i := 0) (sz := 2) (nums := nums) (tY := tY) (ty := ty) (tt := tt) (lo := 0) (hi := 5) 1 (nI q) 100 100 100 hT hp (by decide) (by omega) rfl rfl with ⟨q0, v0, p1, v9, l1, l2, l3, l4, s0, n0⟩ | ⟨q0, x, y, hqq0, s0, n0⟩
    · rcases zz_nstep (i := 1) (sz := 2) (nums := upd nums 0 (nI v0)) (tY := tY) (ty := ty) (tt := tt) (lo := 0) (hi := 5) 2 (nI q0) (nI v0) (nI v0) 100 hT l2 (by decide) (by omega) rfl rfl with ⟨q1, v1, p2, v9', k1, k2, k3, k4, s1, n1⟩ | ⟨q1, x, y, hqq1, s1, n1⟩
      · have hlp : lpd (fun s5 => sX4_readItem_36 100 2 (nI n) jt ty tt tY s5.1 s5.2.1 s5.2.2.1 s5.2.2.2.1 s5.2.2.2.2.1 s5.2.2.2.2.2) FU (0, nI p, 1, nI q, 100, nums) = some (.inr (nI p2, 2, nI q1, nI v1, upd (upd nums 0 (nI v0)) 1 (nI v1))) := by
          rw [FU_8]
          exact (lpd_l s0).trans ((lpd_l s1).trans (lpd_r (zz_nend (show (2 : Int32) ≤ nI (1 + 1) by decide))))
        rw [h5i] at l4 k4
        obtain ⟨r1, e1, ⟨q2, p3, m1, m2, rfl, n2⟩ | ⟨q2, y, hqq2, m1, m2, n2⟩⟩ := zz_end (nI v1) hT k2
        · have bD : inb (nI (C 5)) 4 = true := by rw [zz_inbt (by omega)]; omega
          have i0 : inb 0 5 = true := by decide
          have i1 : inb 1 5 = true := by decide
          have w0 : upd (upd nums 0 (nI v0)) 1 (nI v1) 0 = nI v0 := by rw [pk_un (by omega), pk_us]
          have w1 : upd (upd nums 0 (nI v0)) 1 (nI v1) 1 = nI v1 := pk_us
          have ht : fX4_take 100 yT bT qT (upd (upd nums 0 (nI v0)) 1 (nI v1)) ty ts tb tt td tq tl tz tc tY tA tB tF tG = some (yT, bT, qT, ty, ts, tb, tt, nI (C 5 + 1), tq, tl, tz, tc, tY, tA, tB, upd tF (C 5) (nI v0), upd tG (C 5) (nI v1)) := by
            have e3 : fX4_takeDeed (upd (upd nums 0 (nI v0)) 1 (nI v1)) td tF tG = some (nI (C 5 + 1), upd tF (C 5) (nI v0), upd tG (C 5) (nI v1)) := by
              unfold fX4_takeDeed
              simp only [etd, i0, i1, bD, zz_c0, zz_c1, w0, w1, zz_cl (show C 5 < 2147483648 by omega), eD, ↓reduceIte]
            show (fX4_takeDeed (upd (upd nums 0 (nI v0)) 1 (nI v1)) td tF tG).bind _ = _
            rw [e3]
            rfl
          rw [rd_t hm hb hlp e1 ht, er]
          have e2 : fX7_readDeed (nI n) (nI p) (nI q) 1 100 gx gr = some (true, nI p3, nI q2, 3, nI v1, upd (upd (upd gr (47 + 2 * C 5) (nI v0)) (48 + 2 * C 5) (nI v1)) 5 (nI (C 5 + 1))) := by
            unfold fX7_readDeed
            simp only [i5, zz_c5, g5, e4, h4, n0, n1, n2, e47, e48, b47, b48, u1, u2, eD, zz_cl (show 47 + 2 * C 5 < 2147483648 by omega), zz_cl (show 48 + 2 * C 5 < 2147483648 by omega), zz_bt, Option.bind_some, ↓reduceIte]
          rw [e2]
          have hgl := upd_cUp (upd_cUp (upd_cUp h.2.1 (47 + 2 * C 5) v0) (48 + 2 * C 5) v1) 5 (C 5 + 1)
          have k6 : cUp (cUp (cUp C (47 + 2 * C 5) v0) (48 + 2 * C 5) v1) 5 (C 5 + 1) 6 = C 6 := by rw [cUp_n (by omega), cUp_n (by omega), cUp_n (by omega)]
          have hIC := IC.de (C' := cUp (cUp (cUp C (47 + 2 * C 5) v0) (48 + 2 * C 5) v1) 5 (C 5 + 1)) h (by omega) (show v0 ≤ 5 by omega) (show v1 ≤ 5 by omega) (by rw [cUp_n (by omega), cUp_n (by omega), cUp_s]) (by rw [cUp_n (by omega), cUp_s]) (fun j j5 jj => by rw [cUp_n j5, cUp_n (by omega), cUp_n (by omega)]) cUp_s hgl
          exact Or.inl ⟨_, p3, _, _, _, _, _, _, _, _, _, _, _, _, _, _, _, _, _, _, _, _, _, _, _, _, _, by omega, m2, hIC, ⟨by rw [k6]; exact hF.1, by rw [k6]; exact hF.2.1, by rw [k6]; exact hF.2.2.1, by rw [k6]; exact hF.2.2.2⟩, rfl, rfl⟩
        · rw [rd_e hm hb hlp e1 m2, er, m1]
          have e2 : fX7_readDeed (nI n) (nI p) (nI q) 1 100 gx gr = some (false, y.1, nI q2, y.2.1, y.2.2, upd (upd (upd gr (47 + 2 * C 5) (nI v0)) (48 + 2 * C 5) (nI v1)) 5 (nI (C 5 + 1))) := by
            unfold fX7_readDeed
            simp only [i5, zz_c5, g5, e4, h4, n0, n1, n2, e47, e48, b47, b48, u1, u2, eD, zz_cl (show 47 + 2 * C 5 < 2147483648 by omega), zz_cl (show 48 + 2 * C 5 < 2147483648 by omega), zz_bt, Option.bind_some, ↓reduceIte]
          rw [e2]
          exact Or.inr ⟨q2, _, _, _, _, _, _, _, hqq2, rfl, rfl⟩
      · have hlp : lpd (fun s5 => sX4_readItem_36 100 2 (nI n) jt ty tt tY s5.1 s5.2.1 s5.2.2.1 s5.2.2.2.1 s5.2.2.2.2.1 s5.2.2.2.2.2) FU (0, nI p, 1, nI q, 100, nums) = some (.inl (x.1, x.2.1, nI q1, x.2.2, upd nums 0 (nI v0))) := by
          rw [FU_8]
          exact (lpd_l s0).trans (lpd_r s1)
        rw [rd_f hm hb hlp, er]
        have e2 : fX7_readDeed (nI n) (nI p) (nI q) 1 100 gx gr = some (false, y.1, nI q1, y.2.1, y.2.2, upd gr (47 + 2 * C 5) (nI v0)) := by
          unfold fX7_readDeed
          simp only [i5, zz_c5, g5, e4, h4, n0, n1, e47, b47, zz_cl (show 47 + 2 * C 5 < 2147483648 by omega), zz_bt, zz_bf, Option.bind_some, ↓reduceIte]
        rw [e2]
        exact Or.inr ⟨q1, _, _, _, _, _, _, _, hqq1, rfl, rfl⟩
    · have hlp : lpd (fun s5 => sX4_readItem_36 100 2 (nI n) jt ty tt tY s5.1 s5.2.1 s5.2.2.1 s5.2.2.2.1 s5.2.2.2.2.1 s5.2.2.2.2.2) FU (0, nI p, 1, nI q, 100, nums) = some (.inl (x.1, x.2.1, nI q0, x.2.2, nums)) := by
        rw [FU_8]
        exact lpd_r s0
      rw [rd_f hm hb hlp, er]
      have e2 : fX7_readDeed (nI n) (nI p) (nI q) 1 100 gx gr = some (false, y.1, nI q0, y.2.1, y.2.2, gr) := by
        unfold fX7_readDeed
        simp only [i5, zz_c5, g5, e4, h4, n0, zz_bf, Option.bind_some, ↓reduceIte]
      rw [e2]
      exact Or.inr ⟨q0, _, _, _, _, _, _, _, hqq0, rfl, rfl⟩
theorem it_t {n p q : Nat} {c C : Nat → Nat} {jt gx nums : Nat → Int32} {ty ts tb tt td tq yT bT qT : Int32} {tl tz tc tY tA tB tF tG gr : Nat → Int32} (hT : TX n c jt gx) (hqq : q ≤ n) (hp : p ≤ n) (h : IC C ty ts tb tt td tq tl tz tc tY tA tB tF tG gr) (hF : FL C yT bT qT) : ItOK n p (fX4_readItem (nI n) (nI p) 1 (nI q) 116 yT bT qT nums jt ty ts tb tt td tq tl tz tc tY tA tB tF tG) (fX7_readItem (nI n) (nI p) (nI q) 1 116 gx gr) := by
  have hT3 : C 3 ≤ 3 := h.1.2.2.2.2.1
  have hY2 : 2 ≤ C 0 := h.1.1
  have hY16 : C 0 ≤ 16 := h.1.2.1
  have ett : tt = nI (C 3) := h.2.2.2.2.2.1
  have ety : ty = nI (C 0) := h.2.2.1
  have g3 : gr 3 = nI (C 3) := h.2.1 3 (by omega)
  have g0 : gr 0 = nI (C 0) := h.2.1 0 (by omega)
  have i3 : inb 3 55 = true := by decide
  have i0 : inb 0 55 = true := by decide
  have er : fX7_readItem (nI n) (nI p) (nI q) 1 116 gx gr = fX7_readTrial (nI n) (nI p) (nI q) 1 116 gx gr := by
    show (fX7_readTrial (nI n) (nI p) (nI q) 1 116 gx gr).bind _ = _
    cases (fX7_readTrial (nI n) (nI p) (nI q) 1 116 gx gr) <;> rfl
  have e3 : (nI (C 3) = 3) = (C 3 = 3) := by rw [zz_3, zz_eq (by omega) (by omega)]
  by_cases h3 : C 3 = 3
  · have hm : fX4_mayBegin 116 yT bT qT ts tt td = some false := by
      show (if 3 ≤ tt then some false else some true) = some false
      rw [ett, if_pos (by rw [zz_3, zz_le (by omega) (by omega)]; omega)]
    have e2 : fX7_readTrial (nI n) (nI p) (nI q) 1 116 gx gr = some (false, nI p, nI q, 1, 116, gr) := by
      have e3' : nI (C 3) = 3 := by rw [h3]; rfl
      unfold fX7_readTrial
      simp only [i3, zz_c3, g3, e3', ↓reduceIte]
    rw [rd_0 hm, er, e2]
    exact Or.inr ⟨q, _, _, _, _, _, _, _, hqq, rfl, rfl⟩
  · have hm : fX4_mayBegin 116 yT bT qT ts tt td = some true := by
      show (if 3 ≤ tt then some false else some true) = some true
      rw [ett, if_neg (by rw [zz_3, zz_le (by omega) (by omega)]; omega)]
    have hb : fX4_numbersOf 116 = some 3 := rfl
    have e38 : (38 : Int32) + 3 * nI (C 3) = nI (38 + 3 * C 3) := by rw [show (38 : Int32) = nI 38 from rfl, zz_3, zz_mul, zz_add]
    have e39 : nI (38 + 3 * C 3) + 1 = nI (39 + 3 * C 3) := by rw [zz_1, zz_add]; congr 1; omega
    have e40 : nI (38 + 3 * C 3) + 2 = nI (40 + 3 * C 3) := by rw [zz_2, zz_add]; congr 1; omega
    have b38 : inb (nI (38 + 3 * C 3)) 55 = true := by rw [zz_inbt (by omega)]; omega
    have b39 : inb (nI (39 + 3 * C 3)) 55 = true := by rw [zz_inbt (by omega)]; omega
    have b40 : inb (nI (40 + 3 * C 3)) 55 = true := by rw [zz_inbt (by omega)]; omega
    have y2 : nI (C 0) - 2 = nI (C 0 - 2) := by rw [zz_2, zz_sub (by omega)]
    have y1 : nI (C 0) - 1 = nI (C 0 - 1) := by rw [zz_1, zz_sub (by omega)]
    have eT : nI (C 3) + 1 = nI (C 3 + 1) := by rw [zz_1, zz_add]
    have c38 := zz_cl (show 38 + 3 * C 3 < 2147483648 by omega)
    have c39 := zz_cl (show 39 + 3 * C 3 < 2147483648 by omega)
    have c40 := zz_cl (show 40 + 3 * C 3 < 2147483648 by omega)
    have ez : (nI (C 3) = 0) = (C 3 = 0) := by rw [zz_0, zz_eq (by omega) (by omega)]
    -- the first number's least
    obtain ⟨L0, hL0, hLp, hLm⟩ : ∃ L0 : Nat, L0 < 100 ∧ (∀ t, t + 1 = C 3 → C (38 + 3 * t) < L0) ∧ ((C 3 = 0 ∧ L0 = 0) ∨ (¬ C 3 = 0 ∧ L0 = C (38 + 3 * (C 3 - 1)) + 1)) := by
      by_cases c0 : C 3 = 0
      · exact ⟨0, by omega, fun t ht => by omega, Or.inl ⟨c0, rfl⟩⟩
      · have hb := h.1.2.2.2.2.2.2.2.2.2.1 (C 3 - 1) (by omega)
        refine ⟨C (38 + 3 * (C 3 - 1)) + 1, by omega, fun t ht => ?_, Or.inr ⟨c0, rfl⟩⟩
        rw [show t = C 3 - 1 by omega]
        omega
    have least0 : fX4_least 116 (nI 0) nums tt tY = some (nI L0) := by
      show (fX4_leastOfTrial (nI 0) nums tt tY).bind (fun r3 => some r3) = _
      unfold fX4_leastOfTrial
      have z0 : nI 0 = 0 := rfl
      rw [ett, if_pos z0]
      rcases hLm with ⟨q1, q2⟩ | ⟨q1, q2⟩
      · rw [if_pos (by rw [ez]; exact q1), q2]
        rfl
      · have em : nI (C 3) - 1 = nI (C 3 - 1) := by rw [zz_1, zz_sub (by omega)]
        have bm : inb (nI (C 3 - 1)) 3 = true := by rw [zz_inbt (by omega)]; omega
        rw [if_neg (by rw [ez]; exact q1), em, if_pos bm, zz_cl (by omega), (h.2.2.2.2.2.2.2.2.2.1 (C 3 - 1) (by omega)).1, q2, zz_1, zz_add]
        rfl
    have ref0 : ∀ (β : Type) (K5 : Int32 → Option β), (if nI (C 3) = 0 then K5 0 else if inb (nI (38 + 3 * C 3) - 3) 55 = true then K5 (gr (nI (38 + 3 * C 3) - 3).toNatClampNeg + 1) else none) = K5 (nI L0) := by
      intro β K5
      rcases hLm with ⟨q1, q2⟩ | ⟨q1, q2⟩
      · rw [if_pos (by rw [ez]; exact q1), q2]
        rfl
      · have em : nI (38 + 3 * C 3) - 3 = nI (38 + 3 * (C 3 - 1)) := by rw [zz_3, zz_sub (by omega)]; congr 1; omega
        have bm : inb (nI (38 + 3 * (C 3 - 1))) 55 = true := by rw [zz_inbt (by omega)]; omega
        rw [if_neg (by rw [ez]; exact q1), em, if_pos bm, zz_cl (by omega), h.2.1 (38 + 3 * (C 3 - 1)) (by omega), q2, zz_1, zz_add]
    have refl0 := funext (ref0 (Bool × Int32 × Int32 × Int32 × Int32 × (Nat → Int32)))
    have most0 : fX4_most 116 (nI 0) ty = some (nI (C 0 - 2)) := by
      rw [← y2, ← ety]
      rfl
    have most1 : fX4_most 116 (nI 1) ty = some (nI (C 0 - 1)) := by
      rw [← y1, ← ety]
      rfl
    have most2 : fX4_most 116 (nI 2) ty = some (nI (C 0 - 1)) := by
      rw [← y1, ← ety]
      rfl
    rcases zz_nstep (i := 0) (sz := 3) (nums := nums) (tY := tY) (ty := ty) (tt := tt) 1 (nI q) 116 116 116 hT hp (by decide) (by omega) least0 most0 with ⟨q0, v0, p1, v9, l1, l2, l3, l4, s0, n0⟩ | ⟨q0, x, y, hqq0, s0, n0⟩
    · rw [zz_ti (by omega)] at l3 l4
      have least1 : fX4_least 116 (nI 1) (upd nums 0 (nI v0)) tt tY = some (nI (v0 + 1)) := by
        have e0 : (upd nums 0 (nI v0)) 0 + 1 = nI (v0 + 1) := by rw [pk_us, zz_1, zz_add]
        rw [← e0]
        rfl
      have u38 : upd gr (38 + 3 * C 3) (nI v0) (38 + 3 * C 3) = nI v0 := pk_us
      have u0 : upd gr (38 + 3 * C 3) (nI v0) 0 = nI (C 0) := by rw [pk_un (by omega)]; exact g0
      have ev : nI v0 + 1 = nI (v0 + 1) := by rw [zz_1, zz_add]
      rcases zz_nstep (i := 1) (sz := 3) (nums := upd nums 0 (nI v0)) (tY := tY) (ty := ty) (tt := tt) 2 (nI q0) (nI v0) (nI v0) 116 hT l2 (by decide) (by omega) least1 most1 with ⟨q1, v1, p2, v9', k1, k2, k3, k4, s1, n1⟩ | ⟨q1, x, y, hqq1, s1, n1⟩
      · rw [zz_ti (by omega)] at k3 k4
        have least2 : fX4_least 116 (nI 2) (upd (upd nums 0 (nI v0)) 1 (nI v1)) tt tY = some (nI v1) := by
          have e0 : upd (upd nums 0 (nI v0)) 1 (nI v1) 1 = nI v1 := pk_us
          rw [← e0]
          rfl
        have u39 : upd (upd gr (38 + 3 * C 3) (nI v0)) (39 + 3 * C 3) (nI v1) (39 + 3 * C 3) = nI v1 := pk_us
        have u0' : upd (upd gr (38 + 3 * C 3) (nI v0)) (39 + 3 * C 3) (nI v1) 0 = nI (C 0) := by rw [pk_un (by omega)]; exact u0
        rcases zz_nstep (i := 2) (sz := 3) (nums := upd (upd nums 0 (nI v0)) 1 (nI v1)) (tY := tY) (ty := ty) (tt := tt) 2 (nI q1) (nI v1) (nI v1) 116 hT k2 (by decide) (by omega) least2 most2 with ⟨q2, v2, p3, v9'', j1, j2, j3, j4, s2, n2⟩ | ⟨q2, x, y, hqq2, s2, n2⟩
        · rw [zz_ti (by omega)] at j3 j4
          have u3 : upd (upd (upd gr (38 + 3 * C 3) (nI v0)) (39 + 3 * C 3) (nI v1)) (40 + 3 * C 3) (nI v2) 3 = nI (C 3) := by rw [pk_un (by omega), pk_un (by omega), pk_un (by omega)]; exact g3
          have hlp : lpd (fun s5 => sX4_readItem_36 116 3 (nI n) jt ty tt tY s5.1 s5.2.1 s5.2.2.1 s5.2.2.2.1 s5.2.2.2.2.1 s5.2.2.2.2.2) FU (0, nI p, 1, nI q, 116, nums) = some (.inr (nI p3, 2, nI q2, nI v2, upd (upd (upd nums 0 (nI v0)) 1 (nI v1)) 2 (nI v2))) := by
            rw [FU_8]
            exact (lpd_l s0).trans ((lpd_l s1).trans ((lpd_l s2).trans (lpd_r (zz_nend (show (3 : Int32) ≤ nI (2 + 1) by decide)))))
          obtain ⟨r1, e1, ⟨q3, p4, m1, m2, rfl, n3⟩ | ⟨q3, y, hqq3, m1, m2, n3⟩⟩ := zz_end (nI v2) hT j2
          · have bT3 : inb (nI (C 3)) 3 = true := by rw [zz_inbt (by omega)]; omega
            have o0 : inb 0 5 = true := by decide
            have o1 : inb 1 5 = true := by decide
            have o2 : inb 2 5 = true := by decide
            have w0 : upd (upd (upd nums 0 (nI v0)) 1 (nI v1)) 2 (nI v2) 0 = nI v0 := by rw [pk_un (by omega), pk_un (by omega), pk_us]
            have w1 : upd (upd (upd nums 0 (nI v0)) 1 (nI v1)) 2 (nI v2) 1 = nI v1 := by rw [pk_un (by omega), pk_us]
            have w2 : upd (upd (upd nums 0 (nI v0)) 1 (nI v1)) 2 (nI v2) 2 = nI v2 := pk_us
            have ht : fX4_take 116 yT bT qT (upd (upd (upd nums 0 (nI v0)) 1 (nI v1)) 2 (nI v2)) ty ts tb tt td tq tl tz tc tY tA tB tF tG = some (yT, bT, qT, ty, ts, tb, nI (C 3 + 1), td, tq, tl, tz, tc, upd tY (C 3) (nI v0), upd tA (C 3) (nI v1), upd tB (C 3) (nI v2), tF, tG) := by
              have e3 : fX4_takeTrial (upd (upd (upd nums 0 (nI v0)) 1 (nI v1)) 2 (nI v2)) tt tY tA tB = some (nI (C 3 + 1), upd tY (C 3) (nI v0), upd tA (C 3) (nI v1), upd tB (C 3) (nI v2)) := by
                unfold fX4_takeTrial
                simp only [ett, o0, o1, o2, bT3, zz_c0, zz_c1, zz_c2, w0, w1, w2, zz_cl (show C 3 < 2147483648 by omega), eT, ↓reduceIte]
              show (fX4_takeTrial (upd (upd (upd nums 0 (nI v0)) 1 (nI v1)) 2 (nI v2)) tt tY tA tB).bind _ = _
              rw [e3]
              rfl
            rw [rd_t hm hb hlp e1 ht, er]
            have e2 : fX7_readTrial (nI n) (nI p) (nI q) 1 116 gx gr = some (true, nI p4, nI q3, 3, nI v2, upd (upd (upd (upd gr (38 + 3 * C 3) (nI v0)) (39 + 3 * C 3) (nI v1)) (40 + 3 * C 3) (nI v2)) 3 (nI (C 3 + 1))) := by
              unfold fX7_readTrial
              simp only [i3, zz_c3, g3, e3, h3, e38, ↓reduceIte]
              rw [refl0]
              unfold jn
              simp only [i3, i0, zz_c3, zz_c0, g3, g0, y2, n0, b38, c38, u38, u0, ev, y1, n1, e39, b39, c39, u39, u0', n2, e40, b40, c40, u3, eT, n3, zz_bt, Option.bind_some, ↓reduceIte]
            rw [e2]
            have hgl := upd_cUp (upd_cUp (upd_cUp (upd_cUp h.2.1 (38 + 3 * C 3) v0) (39 + 3 * C 3) v1) (40 + 3 * C 3) v2) 3 (C 3 + 1)
            have k6 : cUp (cUp (cUp (cUp C (38 + 3 * C 3) v0) (39 + 3 * C 3) v1) (40 + 3 * C 3) v2) 3 (C 3 + 1) 6 = C 6 := by rw [cUp_n (by omega), cUp_n (by omega), cUp_n (by omega), cUp_n (by omega)]
            have hIC := IC.tr (C' := cUp (cUp (cUp (cUp C (38 + 3 * C 3) v0) (39 + 3 * C 3) v1) (40 + 3 * C 3) v2) 3 (C 3 + 1)) (v0 := v0) (v1 := v1) (v2 := v2) h (by omega) (by omega) (by omega) (by omega) (fun t ht => by have := hLp t ht; omega) (by rw [cUp_n (by omega), cUp_n (by omega), cUp_n (by omega), cUp_s]) (by rw [cUp_n (by omega), cUp_n (by omega), cUp_s]) (by rw [cUp_n (by omega), cUp_s]) (fun j j5 jj => by rw [cUp_n j5, cUp_n (by omega), cUp_n (by omega), cUp_n (by omega)]) cUp_s hgl
            exact Or.inl ⟨_, p4, _, _, _, _, _, _, _, _, _, _, _, _, _, _, _, _, _, _, _, _, _, _, _, _, _, by omega, m2, hIC, ⟨by rw [k6]; exact hF.1, by rw [k6]; exact hF.2.1, by rw [k6]; exact hF.2.2.1, by rw [k6]; exact hF.2.2.2⟩, rfl, rfl⟩
          · rw [rd_e hm hb hlp e1 m2, er, m1]
            have e2 : fX7_readTrial (nI n) (nI p) (nI q) 1 116 gx gr = some (false, y.1, nI q3, y.2.1, y.2.2, upd (upd (upd (upd gr (38 + 3 * C 3) (nI v0)) (39 + 3 * C 3) (nI v1)) (40 + 3 * C 3) (nI v2)) 3 (nI (C 3 + 1))) := by
              unfold fX7_readTrial
              simp only [i3, zz_c3, g3, e3, h3, e38, ↓reduceIte]
              rw [refl0]
              unfold jn
              simp only [i3, i0, zz_c3, zz_c0, g3, g0, y2, n0, b38, c38, u38, u0, ev, y1, n1, e39, b39, c39, u39, u0', n2, e40, b40, c40, u3, eT, n3, zz_bt, Option.bind_some, ↓reduceIte]
            rw [e2]
            exact Or.inr ⟨q3, _, _, _, _, _, _, _, hqq3, rfl, rfl⟩
        · have hlp : lpd (fun s5 => sX4_readItem_36 116 3 (nI n) jt ty tt tY s5.1 s5.2.1 s5.2.2.1 s5.2.2.2.1 s5.2.2.2.2.1 s5.2.2.2.2.2) FU (0, nI p, 1, nI q, 116, nums) = some (.inl (x.1, x.2.1, nI q2, x.2.2, upd (upd nums 0 (nI v0)) 1 (nI v1))) := by
            rw [FU_8]
            exact (lpd_l s0).trans ((lpd_l s1).trans (lpd_r s2))
          rw [rd_f hm hb hlp, er]
          have e2 : fX7_readTrial (nI n) (nI p) (nI q) 1 116 gx gr = some (false, y.1, nI q2, y.2.1, y.2.2, upd (upd gr (38 + 3 * C 3) (nI v0)) (39 + 3 * C 3) (nI v1)) := by
            unfold fX7_readTrial
            simp only [i3, zz_c3, g3, e3, h3, e38, ↓reduceIte]
            rw [refl0]
            unfold jn
            simp only [i3, i0, zz_c3, zz_c0, g3, g0, y2, n0, b38, c38, u38, u0, ev, y1, n1, e39, b39, c39, u39, u0', n2, zz_bt, zz_bf, Option.bind_some, ↓reduceIte]
          rw [e2]
          exact Or.inr ⟨q2, _, _, _, _, _, _, _, hqq2, rfl, rfl⟩
      · have hlp : lpd (fun s5 => sX4_readItem_36 116 3 (nI n) jt ty tt tY s5.1 s5.2.1 s5.2.2.1 s5.2.2.2.1 s5.2.2.2.2.1 s5.2.2.2.2.2) FU (0, nI p, 1, nI q, 116, nums) = some (.inl (x.1, x.2.1, nI q1, x.2.2, upd nums 0 (nI v0))) := by
          rw [FU_8]
          exact (lpd_l s0).trans (lpd_r s1)
        rw [rd_f hm hb hlp, er]
        have e2 : fX7_readTrial (nI n) (nI p) (nI q) 1 116 gx gr = some (false, y.1, nI q1, y.2.1, y.2.2, upd gr (38 + 3 * C 3) (nI v0)) := by
          unfold fX7_readTrial
          simp only [i3, zz_c3, g3, e3, h3, e38, ↓reduceIte]
          rw [refl0]
          unfold jn
          simp only [i3, i0, zz_c3, zz_c0, g3, g0, y2, n0, b38, c38, u38, u0, ev, y1, n1, zz_bt, zz_bf, Option.bind_some, ↓reduceIte]
        rw [e2]
        exact Or.inr ⟨q1, _, _, _, _, _, _, _, hqq1, rfl, rfl⟩
    · have hlp : lpd (fun s5 => sX4_readItem_36 116 3 (nI n) jt ty tt tY s5.1 s5.2.1 s5.2.2.1 s5.2.2.2.1 s5.2.2.2.2.1 s5.2.2.2.2.2) FU (0, nI p, 1, nI q, 116, nums) = some (.inl (x.1, x.2.1, nI q0, x.2.2, nums)) := by
        rw [FU_8]
        exact lpd_r s0
      rw [rd_f hm hb hlp, er]
      have e2 : fX7_readTrial (nI n) (nI p) (nI q) 1 116 gx gr = some (false, y.1, nI q0, y.2.1, y.2.2, gr) := by
        unfold fX7_readTrial
        simp only [i3, zz_c3, g3, e3, h3, e38, ↓reduceIte]
        rw [refl0]
        unfold jn
        simp only [i3, i0, zz_c3, zz_c0, g3, g0, y2, n0, zz_bf, Option.bind_some, ↓reduceIte]
      rw [e2]
      exact Or.inr ⟨q0, _, _, _, _, _, _, _, hqq0, rfl, rfl⟩
