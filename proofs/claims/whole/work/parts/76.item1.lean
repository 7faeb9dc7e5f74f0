/-! court: items, letter by letter. -/
def ItOK (n p : Nat) (o1 : Option (Bool × Int32 × Int32 × Int32 × Int32 × Int32 × Int32 × Int32 × (Nat → Int32) × Int32 × Int32 × Int32 × Int32 × Int32 × Int32 × (Nat → Int32) × (Nat → Int32) × (Nat → Int32) × (Nat → Int32) × (Nat → Int32) × (Nat → Int32) × (Nat → Int32) × (Nat → Int32))) (o2 : Option (Bool × Int32 × Int32 × Int32 × Int32 × (Nat → Int32))) : Prop :=
  (∃ (C : Nat → Nat) (p' : Nat) (tk tp tv yT bT qT : Int32) (nm : Nat → Int32) (ty ts tb tt td tq : Int32) (tl tz tc tY tA tB tF tG : Nat → Int32) (bg tk' td' : Int32) (gr : Nat → Int32), p < p' ∧ p' ≤ n ∧ IC C ty ts tb tt td tq tl tz tc tY tA tB tF tG gr ∧ FL C yT bT qT ∧ o1 = some (true, nI p', tk, tp, tv, yT, bT, qT, nm, ty, ts, tb, tt, td, tq, tl, tz, tc, tY, tA, tB, tF, tG) ∧ o2 = some (true, nI p', bg, tk', td', gr)) ∨
  (∃ (q : Nat) (x1 x2 : Int32) (x3 : Int32 × Int32 × Int32 × Int32 × (Nat → Int32) × Int32 × Int32 × Int32 × Int32 × Int32 × Int32 × (Nat → Int32) × (Nat → Int32) × (Nat → Int32) × (Nat → Int32) × (Nat → Int32) × (Nat → Int32) × (Nat → Int32) × (Nat → Int32)) (y1 y2 y3 : Int32) (gr : Nat → Int32), q ≤ n ∧ o1 = some (false, x1, x2, nI q, x3) ∧ o2 = some (false, y1, nI q, y2, y3, gr))
theorem rd_0 {n4 pl tp L ty ts tb tt td tq yT bT qT : Int32} {jt nums tl tz tc tY tA tB tF tG : Nat → Int32} (hm : fX4_mayBegin L yT bT qT ts tt td = some false) : fX4_readItem n4 pl 1 tp L yT bT qT nums jt ty ts tb tt td tq tl tz tc tY tA tB tF tG = some (false, pl, 1, tp, L, yT, bT, qT, nums, ty, ts, tb, tt, td, tq, tl, tz, tc, tY, tA, tB, tF, tG) := by
  unfold fX4_readItem jn
  simp only [hm, zz_bf, Option.bind_some, ↓reduceIte]
theorem rd_f {n4 pl tp L sz ty ts tb tt td tq yT bT qT : Int32} {jt nums tl tz tc tY tA tB tF tG : Nat → Int32} {x1 x2 x3 x4 : Int32} {nm : Nat → Int32} (hm : fX4_mayBegin L yT bT qT ts tt td = some true) (hb : fX4_numbersOf L = some sz) (hl : lpd (fun s5 => sX4_readItem_36 L sz n4 jt ty tt tY s5.1 s5.2.1 s5.2.2.1 s5.2.2.2.1 s5.2.2.2.2.1 s5.2.2.2.2.2) FU (0, pl, 1, tp, L, nums) = some (.inl (x1, x2, x3, x4, nm))) : fX4_readItem n4 pl 1 tp L yT bT qT nums jt ty ts tb tt td tq tl tz tc tY tA tB tF tG = some (false, x1, x2, x3, x4, yT, bT, qT, nm, ty, ts, tb, tt, td, tq, tl, tz, tc, tY, tA, tB, tF, tG) := by
  unfold fX4_readItem jn
  simp only [hm, hb, hl, zz_bt, Option.bind_some, Sum.elim_inl, ↓reduceIte]
theorem rd_e {n4 pl tp L sz ty ts tb tt td tq yT bT qT : Int32} {jt nums tl tz tc tY tA tB tF tG : Nat → Int32} {x1 x2 x3 x4 : Int32} {nm : Nat → Int32} {r1 : Int32 × Int32 × Int32 × Int32} (hm : fX4_mayBegin L yT bT qT ts tt td = some true) (hb : fX4_numbersOf L = some sz) (hl : lpd (fun s5 => sX4_readItem_36 L sz n4 jt ty tt tY s5.1 s5.2.1 s5.2.2.1 s5.2.2.2.1 s5.2.2.2.2.1 s5.2.2.2.2.2) FU (0, pl, 1, tp, L, nums) = some (.inr (x1, x2, x3, x4, nm))) (hn : fX4_nextToken n4 x1 jt = some r1) (h3 : ¬ r1.2.1 = 3) : fX4_readItem n4 pl 1 tp L yT bT qT nums jt ty ts tb tt td tq tl tz tc tY tA tB tF tG = some (false, r1.1, r1.2.1, r1.2.2.1, r1.2.2.2, yT, bT, qT, nm, ty, ts, tb, tt, td, tq, tl, tz, tc, tY, tA, tB, tF, tG) := by
  unfold fX4_readItem jn
  simp only [hm, hb, hl, hn, h3, zz_bt, Option.bind_some, Sum.elim_inr, ↓reduceIte]
theorem rd_t {n4 pl tp L sz ty ts tb tt td tq yT bT qT : Int32} {jt nums tl tz tc tY tA tB tF tG : Nat → Int32} {x1 x2 x3 x4 y1 y3 y4 : Int32} {nm : Nat → Int32} {yT' bT' qT' ty' ts' tb' tt' td' tq' : Int32} {tl' tz' tc' tY' tA' tB' tF' tG' : Nat → Int32} (hm : fX4_mayBegin L yT bT qT ts tt td = some true) (hb : fX4_numbersOf L = some sz) (hl : lpd (fun s5 => sX4_readItem_36 L sz n4 jt ty tt tY s5.1 s5.2.1 s5.2.2.1 s5.2.2.2.1 s5.2.2.2.2.1 s5.2.2.2.2.2) FU (0, pl, 1, tp, L, nums) = some (.inr (x1, x2, x3, x4, nm))) (hn : fX4_nextToken n4 x1 jt = some (y1, 3, y3, y4)) (ht : fX4_take L yT bT qT nm ty ts tb tt td tq tl tz tc tY tA tB tF tG = some (yT', bT', qT', ty', ts', tb', tt', td', tq', tl', tz', tc', tY', tA', tB', tF', tG')) : fX4_readItem n4 pl 1 tp L yT bT qT nums jt ty ts tb tt td tq tl tz tc tY tA tB tF tG = some (true, y1, 3, y3, y4, yT', bT', qT', nm, ty', ts', tb', tt', td', tq', tl', tz', tc', tY', tA', tB', tF', tG') := by
  unfold fX4_readItem jn
  simp only [hm, hb, hl, hn, ht, zz_bt, Option.bind_some, Sum.elim_inr, ↓reduceIte]
theorem it_b {n p q : Nat} {c C : Nat → Nat} {jt gx nums : Nat → Int32} {ty ts tb tt td tq yT bT qT : Int32} {tl tz tc tY tA tB tF tG gr : Nat → Int32} (hT : TX n c jt gx) (hqq : q ≤ n) (hp : p ≤ n) (h : IC C ty ts tb tt td tq tl tz tc tY tA tB tF tG gr) (hF : FL C yT bT qT) : ItOK n p (fX4_readItem (nI n) (nI p) 1 (nI q) 98 yT bT qT nums jt ty ts tb tt td tq tl tz tc tY tA tB tF tG) (fX7_readItem (nI n) (nI p) (nI q) 1 98 gx gr) := by
  obtain ⟨f0, f1, f2, f3⟩ := hF
  have g6 : gr 6 = nI (C 6) := h.2.1 6 (by omega)
  have i6 : inb 6 55 = true := by decide
  have ito : inb 2 55 = true := by decide
  have c6 : (6 : Int32).toNatClampNeg = 6 := by decide
  have cto : (2 : Int32).toNatClampNeg = 2 := by decide
  have er : fX7_readItem (nI n) (nI p) (nI q) 1 98 gx gr = fX7_once 2 2 0 5 (nI n) (nI p) (nI q) 1 98 gx gr := by
    show (fX7_once 2 2 0 5 (nI n) (nI p) (nI q) 1 98 gx gr).bind _ = _
    cases (fX7_once 2 2 0 5 (nI n) (nI p) (nI q) 1 98 gx gr) <;> rfl
  by_cases hb : bT = 0
  · have hg : nI (C 6) &&& 2 = 0 := f2.mp hb
    have hm : fX4_mayBegin 98 yT bT qT ts tt td = some true := by
      show (if bT = 0 then some true else some false) = some true
      rw [if_pos hb]
    rcases zz_nstep (i := 0) (sz := 1) (nums := nums) (tY := tY) (ty := ty) (tt := tt) (lo := 0) (hi := 5) 1 (nI q) 98 98 98 hT hp (by decide) (by omega) rfl rfl with ⟨q0, v, p1, v9, l1, l2, l3, l4, s0, n0⟩ | ⟨q0, x, y, hqq0, s0, n0⟩
    · have hlp : lpd (fun s5 => sX4_readItem_36 98 1 (nI n) jt ty tt tY s5.1 s5.2.1 s5.2.2.1 s5.2.2.2.1 s5.2.2.2.2.1 s5.2.2.2.2.2) FU (0, nI p, 1, nI q, 98, nums) = some (.inr (nI p1, 2, nI q0, nI v, upd nums 0 (nI v))) := by
        rw [FU_8]
        exact (lpd_l s0).trans (lpd_r (zz_nend (show (1 : Int32) ≤ nI (0 + 1) by decide)))
      have hlo : (0 : Int32).toInt = 0 := by decide
      have hhi : (5 : Int32).toInt = 5 := by decide
      rw [hlo] at l3
      rw [hhi] at l4
      obtain ⟨r1, e1, ⟨q1, p2, m1, m2, rfl, n1⟩ | ⟨q1, y, hqq1, m1, m2, n1⟩⟩ := zz_end (nI v) hT l2
      · obtain ⟨b1, b2, b3, b4, b5⟩ := zz_fl2 (C 6) f0
        have ht : fX4_take 98 yT bT qT (upd nums 0 (nI v)) ty ts tb tt td tq tl tz tc tY tA tB tF tG = some (yT, 1, qT, ty, ts, nI v, tt, td, tq, tl, tz, tc, tY, tA, tB, tF, tG) := by
          have e0 : (upd nums 0 (nI v)) 0 = nI v := pk_us
          rw [← e0]
          rfl
        rw [rd_t hm (show fX4_numbersOf 98 = some 1 from rfl) hlp e1 ht, er]
        have e2 : fX7_once 2 2 0 5 (nI n) (nI p) (nI q) 1 98 gx gr = some (true, nI p2, nI q1, 3, nI v, upd (upd gr 6 (nI (C 6 ||| 2))) 2 (nI v)) := by
          unfold fX7_once
          simp only [i6, ito, c6, cto, g6, hg, n0, n1, b1, zz_bt, Option.bind_some, ↓reduceIte]
        rw [e2]
        have hgl := upd_cUp (upd_cUp h.2.1 6 (C 6 ||| 2)) 2 v
        have k0 : cUp (cUp C 6 (C 6 ||| 2)) 2 v 0 = C 0 := by rw [cUp_n (by omega), cUp_n (by omega)]
        have k2 : cUp (cUp C 6 (C 6 ||| 2)) 2 v 2 = v := by rw [cUp_s]
        have k4 : cUp (cUp C 6 (C 6 ||| 2)) 2 v 4 = C 4 := by rw [cUp_n (by omega), cUp_n (by omega)]
        have k6 : cUp (cUp C 6 (C 6 ||| 2)) 2 v 6 = (C 6 ||| 2) := by rw [cUp_n (by omega), cUp_s]
        have hIC := IC.sc (C' := cUp (cUp C 6 (C 6 ||| 2)) 2 v) h (fun j j0 j2 j4 j6 => by rw [cUp_n (by omega), cUp_n (by omega)]) (by rw [k0]; exact ⟨h.1.1, h.1.2.1⟩) (Or.inl k0) (by rw [k2]; omega) (by rw [k4]; exact ⟨h.1.2.2.2.2.2.1, h.1.2.2.2.2.2.2.1⟩) hgl
        rw [k0, k2, k4, ← h.2.2.1, ← h.2.2.2.2.2.2.2.1] at hIC
        exact Or.inl ⟨_, p2, _, _, _, _, _, _, _, _, _, _, _, _, _, _, _, _, _, _, _, _, _, _, _, _, _, by omega, m2, hIC, ⟨by rw [k6]; exact b2, by rw [k6]; exact f1.trans b4.symm, by rw [k6]; exact ⟨fun hh => absurd hh (by decide), fun hh => (b3 hh).elim⟩, by rw [k6]; exact f3.trans b5.symm⟩, rfl, rfl⟩
      · rw [rd_e hm (show fX4_numbersOf 98 = some 1 from rfl) hlp e1 m2, er, m1]
        have e2 : fX7_once 2 2 0 5 (nI n) (nI p) (nI q) 1 98 gx gr = some (false, y.1, nI q1, y.2.1, y.2.2, upd (upd gr 6 (nI (C 6) ||| 2)) 2 (nI v)) := by
          unfold fX7_once
          simp only [i6, ito, c6, cto, g6, hg, n0, n1, zz_bt, Option.bind_some, ↓reduceIte]
        rw [e2]
        exact Or.inr ⟨q1, _, _, _, _, _, _, _, hqq1, rfl, rfl⟩
    · have hlp : lpd (fun s5 => sX4_readItem_36 98 1 (nI n) jt ty tt tY s5.1 s5.2.1 s5.2.2.1 s5.2.2.2.1 s5.2.2.2.2.1 s5.2.2.2.2.2) FU (0, nI p, 1, nI q, 98, nums) = some (.inl (x.1, x.2.1, nI q0, x.2.2, nums)) := by
        rw [FU_8]
        exact lpd_r s0
      rw [rd_f hm (show fX4_numbersOf 98 = some 1 from rfl) hlp, er]
      have e2 : fX7_once 2 2 0 5 (nI n) (nI p) (nI q) 1 98 gx gr = some (false, y.1, nI q0, y.2.1, y.2.2, gr) := by
        unfold fX7_once
        simp only [i6, c6, g6, hg, n0, zz_bf, Option.bind_some, ↓reduceIte]
      rw [e2]
      exact Or.inr ⟨q0, _, _, _, _, _, _, _, hqq0, rfl, rfl⟩
  · have hg : ¬ nI (C 6) &&& 2 = 0 := fun hh => hb (f2.mpr hh)
    have hm : fX4_mayBegin 98 yT bT qT ts tt td = some false := by
      show (if bT = 0 then some true else some false) = some false
      rw [if_neg hb]
    have e2 : fX7_once 2 2 0 5 (nI n) (nI p) (nI q) 1 98 gx gr = some (false, nI p, nI q, 1, 98, gr) := by
      unfold fX7_once
      simp only [i6, c6, g6, hg, ↓reduceIte]
    rw [rd_0 hm, er, e2]
    exact Or.inr ⟨q, _, _, _, _, _, _, _, hqq, rfl, rfl⟩
theorem it_q {n p q : Nat} {c C : Nat → Nat} {jt gx nums : Nat → Int32} {ty ts tb tt td tq yT bT qT : Int32} {tl tz tc tY tA tB tF tG gr : Nat → Int32} (hT : TX n c jt gx) (hqq : q ≤ n) (hp : p ≤ n) (h : IC C ty ts tb tt td tq tl tz tc tY tA tB tF tG gr) (hF : FL C yT bT qT) : ItOK n p (fX4_readItem (nI n) (nI p) 1 (nI q) 113 yT bT qT nums jt ty ts tb tt td tq tl tz tc tY tA tB tF tG) (fX7_readItem (nI n) (nI p) (nI q) 1 113 gx gr) := by
  obtain ⟨f0, f1, f2, f3⟩ := hF
  have g6 : gr 6 = nI (C 6) := h.2.1 6 (by omega)
  have i6 : inb 6 55 = true := by decide
  have ito : inb 4 55 = true := by decide
  have c6 : (6 : Int32).toNatClampNeg = 6 := by decide
  have cto : (4 : Int32).toNatClampNeg = 4 := by decide
  have er : fX7_readItem (nI n) (nI p) (nI q) 1 113 gx gr = fX7_once 4 4 1 9 (nI n) (nI p) (nI q) 1 113 gx gr := by
    show (fX7_once 4 4 1 9 (nI n) (nI p) (nI q) 1 113 gx gr).bind _ = _
    cases (fX7_once 4 4 1 9 (nI n) (nI p) (nI q) 1 113 gx gr) <;> rfl
  by_cases hb : qT = 0
  · have hg : nI (C 6) &&& 4 = 0 := f3.mp hb
    have hm : fX4_mayBegin 113 yT bT qT ts tt td = some true := by
      show (if qT = 0 then some true else some false) = some true
      rw [if_pos hb]
    rcases zz_nstep (i := 0) (sz := 1) (nums := nums) (tY := tY) (ty := ty) (tt := tt) (lo := 1) (hi := 9) 1 (nI q) 113 113 113 hT hp (by decide) (by omega) rfl rfl with ⟨q0, v, p1, v9, l1, l2, l3, l4, s0, n0⟩ | ⟨q0, x, y, hqq0, s0, n0⟩
    · have hlp : lpd (fun s5 => sX4_readItem_36 113 1 (nI n) jt ty tt tY s5.1 s5.2.1 s5.2.2.1 s5.2.2.2.1 s5.2.2.2.2.1 s5.2.2.2.2.2) FU (0, nI p, 1, nI q, 113, nums) = some (.inr (nI p1, 2, nI q0, nI v, upd nums 0 (nI v))) := by
        rw [FU_8]
        exact (lpd_l s0).trans (lpd_r (zz_nend (show (1 : Int32) ≤ nI (0 + 1) by decide)))
      have hlo : (1 : Int32).toInt = 1 := by decide
      have hhi : (9 : Int32).toInt = 9 := by decide
      rw [hlo] at l3
      rw [hhi] at l4
      obtain ⟨r1, e1, ⟨q1, p2, m1, m2, rfl, n1⟩ | ⟨q1, y, hqq1, m1, m2, n1⟩⟩ := zz_end (nI v) hT l2
      · obtain ⟨b1, b2, b3, b4, b5⟩ := zz_fl4 (C 6) f0
        have ht : fX4_take 113 yT bT qT (upd nums 0 (nI v)) ty ts tb tt td tq tl tz tc tY tA tB tF tG = some (yT, bT, 1, ty, ts, tb, tt, td, nI v, tl, tz, tc, tY, tA, tB, tF, tG) := by
          have e0 : (upd nums 0 (nI v)) 0 = nI v := pk_us
          rw [← e0]
          rfl
        rw [rd_t hm (show fX4_numbersOf 113 = some 1 from rfl) hlp e1 ht, er]
        have e2 : fX7_once 4 4 1 9 (nI n) (nI p) (nI q) 1 113 gx gr = some (true, nI p2, nI q1, 3, nI v, upd (upd gr 6 (nI (C 6 ||| 4))) 4 (nI v)) := by
          unfold fX7_once
          simp only [i6, ito, c6, cto, g6, hg, n0, n1, b1, zz_bt, Option.bind_some, ↓reduceIte]
        rw [e2]
        have hgl := upd_cUp (upd_cUp h.2.1 6 (C 6 ||| 4)) 4 v
        have k0 : cUp (cUp C 6 (C 6 ||| 4)) 4 v 0 = C 0 := by rw [cUp_n (by omega), cUp_n (by omega)]
        have k2 : cUp (cUp C 6 (C 6 ||| 4)) 4 v 2 = C 2 := by rw [cUp_n (by omega), cUp_n (by omega)]
        have k4 : cUp (cUp C 6 (C 6 ||| 4)) 4 v 4 = v := by rw [cUp_s]
        have k6 : cUp (cUp C 6 (C 6 ||| 4)) 4 v 6 = (C 6 ||| 4) := by rw [cUp_n (by omega), cUp_s]
        have hIC := IC.sc (C' := cUp (cUp C 6 (C 6 ||| 4)) 4 v) h (fun j j0 j2 j4 j6 => by rw [cUp_n (by omega), cUp_n (by omega)]) (by rw [k0]; exact ⟨h.1.1, h.1.2.1⟩) (Or.inl k0) (by rw [k2]; exact h.1.2.2.2.1) (by rw [k4]; exact ⟨by omega, by omega⟩) hgl
        rw [k0, k2, k4, ← h.2.2.1, ← h.2.2.2.2.1] at hIC
        exact Or.inl ⟨_, p2, _, _, _, _, _, _, _, _, _, _, _, _, _, _, _, _, _, _, _, _, _, _, _, _, _, by omega, m2, hIC, ⟨by rw [k6]; exact b2, by rw [k6]; exact f1.trans b4.symm, by rw [k6]; exact f2.trans b5.symm, by rw [k6]; exact ⟨fun hh => absurd hh (by decide), fun hh => (b3 hh).elim⟩⟩, rfl, rfl⟩
      · rw [rd_e hm (show fX4_numbersOf 113 = some 1 from rfl) hlp e1 m2, er, m1]
        have e2 : fX7_once 4 4 1 9 (nI n) (nI p) (nI q) 1 113 gx gr = some (false, y.1, nI q1, y.2.1, y.2.2, upd (upd gr 6 (nI (C 6) ||| 4)) 4 (nI v)) := by
          unfold fX7_once
          simp only [i6, ito, c6, cto, g6, hg, n0, n1, zz_bt, Option.bind_some, ↓reduceIte]
        rw [e2]
        exact Or.inr ⟨q1, _, _, _, _, _, _, _, hqq1, rfl, rfl⟩
    · have hlp : lpd (fun s5 => sX4_readItem_36 113 1 (nI n) jt ty tt tY s5.1 s5.2.1 s5.2.2.1 s5.2.2.2.1 s5.2.2.2.2.1 s5.2.2.2.2.2) FU (0, nI p, 1, nI q, 113, nums) = some (.inl (x.1, x.2.1, nI q0, x.2.2, nums)) := by
        rw [FU_8]
        exact lpd_r s0
      rw [rd_f hm (show fX4_numbersOf 113 = some 1 from rfl) hlp, er]
      have e2 : fX7_once 4 4 1 9 (nI n) (nI p) (nI q) 1 113 gx gr = some (false, y.1, nI q0, y.2.1, y.2.2, gr) := by
        unfold fX7_once
        simp only [i6, c6, g6, hg, n0, zz_bf, Option.bind_some, ↓reduceIte]
      rw [e2]
      exact Or.inr ⟨q0, _, _, _, _, _, _, _, hqq0, rfl, rfl⟩
  · have hg : ¬ nI (C 6) &&& 4 = 0 := fun hh => hb (f3.mpr hh)
    have hm : fX4_mayBegin 113 yT bT qT ts tt td = some false := by
      show (if qT = 0 then some true else some false) = some false
      rw [if_neg hb]
    have e2 : fX7_once 4 4 1 9 (nI n) (nI p) (nI q) 1 113 gx gr = some (false, nI p, nI q, 1, 113, gr) := by
      unfold fX7_once
      simp only [i6, c6, g6, hg, ↓reduceIte]
    rw [rd_0 hm, er, e2]
    exact Or.inr ⟨q, _, _, _, _, _, _, _, hqq, rfl, rfl⟩
theorem it_y {n p q : Nat} {c C : Nat → Nat} {jt gx nums : Nat → Int32} {ty ts tb tt td tq yT bT qT : Int32} {tl tz tc tY tA tB tF tG gr : Nat → Int32} (hT : TX n c jt gx) (hqq : q ≤ n) (hp : p ≤ n) (h : IC C ty ts tb tt td tq tl tz tc tY tA tB tF tG gr) (hF : FL C yT bT qT) : ItOK n p (fX4_readItem (nI n) (nI p) 1 (nI q) 121 yT bT qT nums jt ty ts tb tt td tq tl tz tc tY tA tB tF tG) (fX7_readItem (nI n) (nI p) (nI q) 1 121 gx gr) := by
  obtain ⟨f0, f1, f2, f3⟩ := hF
  have g6 : gr 6 = nI (C 6) := h.2.1 6 (by omega)
  have i6 : inb 6 55 = true := by decide
  have ito : inb 0 55 = true := by decide
  have c6 : (6 : Int32).toNatClampNeg = 6 := by decide
  have cto : (0 : Int32).toNatClampNeg = 0 := by decide
  have hT3 : C 3 ≤ 3 := h.1.2.2.2.2.1
  have ett : tt = nI (C 3) := h.2.2.2.2.2.1
  have g3 : gr 3 = nI (C 3) := h.2.1 3 (by omega)
  have i3 : inb 3 55 = true := by decide
  have ez : (nI (C 3) = 0) = (C 3 = 0) := by rw [zz_0, zz_eq (by omega) (by omega)]
  have wr : ∀ x : Option (Bool × Int32 × Int32 × Int32 × Int32 × (Nat → Int32)), (x.bind (fun r13 => if (bI r13.1) = 0 then some (false, r13.2.1, r13.2.2.1, r13.2.2.2.1, r13.2.2.2.2.1, r13.2.2.2.2.2) else some (true, r13.2.1, r13.2.2.1, r13.2.2.2.1, r13.2.2.2.2.1, r13.2.2.2.2.2))) = x := by
    intro x
    cases x with
    | none => rfl
    | some r => obtain ⟨b, r⟩ := r; cases b <;> rfl
  have er : fX7_readItem (nI n) (nI p) (nI q) 1 121 gx gr = if inb 3 55 = true then if (gr (3 : Int32).toNatClampNeg) = 0 then fX7_once 1 0 2 16 (nI n) (nI p) (nI q) 1 121 gx gr else some (false, nI p, nI q, 1, 121, gr) else none := by
    rw [← wr (fX7_once 1 0 2 16 (nI n) (nI p) (nI q) 1 121 gx gr)]
    rfl
  rw [if_pos i3, zz_c3, g3] at er
  by_cases h30 : ¬ C 3 = 0
  · have hm : fX4_mayBegin 121 yT bT qT ts tt td = some false := by
      show (if yT = 0 then if tt = 0 then some true else some false else some false) = some false
      rw [ett]
      simp only [ez, h30, ↓reduceIte]
      by_cases c : yT = 0 <;> simp only [c, ↓reduceIte]
    rw [rd_0 hm, er, if_neg (by rw [ez]; exact h30)]
    exact Or.inr ⟨q, _, _, _, _, _, _, _, hqq, rfl, rfl⟩
  replace h30 : C 3 = 0 := Decidable.not_not.mp h30
  rw [if_pos (by rw [ez]; exact h30)] at er
  by_cases hb : yT = 0
  · have hg : nI (C 6) &&& 1 = 0 := f1.mp hb
    have hm : fX4_mayBegin 121 yT bT qT ts tt td = some true := by
      show (if yT = 0 then if tt = 0 then some true else some false else some false) = some true
      rw [ett, h30, if_pos hb]
      rfl
    rcases zz_nstep (i := 0) (sz := 1) (nums := nums) (tY := tY) (ty := ty) (tt := tt) (lo := 2) (hi := 16) 1 (nI q) 121 121 121 hT hp (by decide) (by omega) rfl rfl with ⟨q0, v, p1, v9, l1, l2, l3, l4, s0, n0⟩ | ⟨q0, x, y, hqq0, s0, n0⟩
    · have hlp : lpd (fun s5 => sX4_readItem_36 121 1 (nI n) jt ty tt tY s5.1 s5.2.1 s5.2.2.1 s5.2.2.2.1 s5.2.2.2.2.1 s5.2.2.2.2.2) FU (0, nI p, 1, nI q, 121, nums) = some (.inr (nI p1, 2, nI q0, nI v, upd nums 0 (nI v))) := by
        rw [FU_8]
        exact (lpd_l s0).trans (lpd_r (zz_nend (show (1 : Int32) ≤ nI (0 + 1) by decide)))
      have hlo : (2 : Int32).toInt = 2 := by decide
      have hhi : (16 : Int32).toInt = 16 := by decide
      rw [hlo] at l3
      rw [hhi] at l4
      obtain ⟨r1, e1, ⟨q1, p2, m1, m2, rfl, n1⟩ | ⟨q1, y, hqq1, m1, m2, n1⟩⟩ := zz_end (nI v) hT l2
      · obtain ⟨b1, b2, b3, b4, b5⟩ := zz_fl1 (C 6) f0
        have ht : fX4_take 121 yT bT qT (upd nums 0 (nI v)) ty ts tb tt td tq tl tz tc tY tA tB tF tG = some (1, bT, qT, nI v, ts, tb, tt, td, tq, tl, tz, tc, tY, tA, tB, tF, tG) := by
          have e0 : (upd nums 0 (nI v)) 0 = nI v := pk_us
          rw [← e0]
          rfl
        rw [rd_t hm (show fX4_numbersOf 121 = some 1 from rfl) hlp e1 ht, er]
        have e2 : fX7_once 1 0 2 16 (nI n) (nI p) (nI q) 1 121 gx gr = some (true, nI p2, nI q1, 3, nI v, upd (upd gr 6 (nI (C 6 ||| 1))) 0 (nI v)) := by
          unfold fX7_once
          simp only [i6, ito, c6, cto, g6, hg, n0, n1, b1, zz_bt, Option.bind_some, ↓reduceIte]
        rw [e2]
        have hgl := upd_cUp (upd_cUp h.2.1 6 (C 6 ||| 1)) 0 v
        have k0 : cUp (cUp C 6 (C 6 ||| 1)) 0 v 0 = v := by rw [cUp_s]
        have k2 : cUp (cUp C 6 (C 6 ||| 1)) 0 v 2 = C 2 := by rw [cUp_n (by omega), cUp_n (by omega)]
        have k4 : cUp (cUp C 6 (C 6 ||| 1)) 0 v 4 = C 4 := by rw [cUp_n (by omega), cUp_n (by omega)]
        have k6 : cUp (cUp C 6 (C 6 ||| 1)) 0 v 6 = (C 6 ||| 1) := by rw [cUp_n (by omega), cUp_s]
        have hIC := IC.sc (C' := cUp (cUp C 6 (C 6 ||| 1)) 0 v) h (fun j j0 j2 j4 j6 => by rw [cUp_n (by omega), cUp_n (by omega)]) (by rw [k0]; exact ⟨by omega, by omega⟩) (Or.inr h30) (by rw [k2]; exact h.1.2.2.2.1) (by rw [k4]; exact ⟨h.1.2.2.2.2.2.1, h.1.2.2.2.2.2.2.1⟩) hgl
        rw [k0, k2, k4, ← h.2.2.2.2.1, ← h.2.2.2.2.2.2.2.1] at hIC
        exact Or.inl ⟨_, p2, _, _, _, _, _, _, _, _, _, _, _, _, _, _, _, _, _, _, _, _, _, _, _, _, _, by omega, m2, hIC, ⟨by rw [k6]; exact b2, by rw [k6]; exact ⟨fun hh => absurd hh (by decide), fun hh => (b3 hh).elim⟩, by rw [k6]; exact f2.trans b4.symm, by rw [k6]; exact f3.trans b5.symm⟩, rfl, rfl⟩
      · rw [rd_e hm (show fX4_numbersOf 121 = some 1 from rfl) hlp e1 m2, er, m1]
        have e2 : fX7_once 1 0 2 16 (nI n) (nI p) (nI q) 1 121 gx gr = some (false, y.1, nI q1, y.2.1, y.2.2, upd (upd gr 6 (nI (C 6) ||| 1)) 0 (nI v)) := by
          unfold fX7_once
          simp only [i6, ito, c6, cto, g6, hg, n0, n1, zz_bt, Option.bind_some, ↓reduceIte]
        rw [e2]
        exact Or.inr ⟨q1, _, _, _, _, _, _, _, hqq1, rfl, rfl⟩
    · have hlp : lpd (fun s5 => sX4_readItem_36 121 1 (nI n) jt ty tt tY s5.1 s5.2.1 s5.2.2.1 s5.2.2.2.1 s5.2.2.2.2.1 s5.2.2.2.2.2) FU (0, nI p, 1, nI q, 121, nums) = some (.inl (x.1, x.2.1, nI q0, x.2.2, nums)) := by
        rw [FU_8]
        exact lpd_r s0
      rw [rd_f hm (show fX4_numbersOf 121 = some 1 from rfl) hlp, er]
      have e2 : fX7_once 1 0 2 16 (nI n) (nI p) (nI q) 1 121 gx gr = some (false, y.1, nI q0, y.2.1, y.2.2, gr) := by
        unfold fX7_once
        simp only [i6, c6, g6, hg, n0, zz_bf, Option.bind_some, ↓reduceIte]
      rw [e2]
      exact Or.inr ⟨q0, _, _, _, _, _, _, _, hqq0, rfl, rfl⟩
  · have hg : ¬ nI (C 6) &&& 1 = 0 := fun hh => hb (f1.mpr hh)
    have hm : fX4_mayBegin 121 yT bT qT ts tt td = some false := by
      show (if yT = 0 then if tt = 0 then some true else some false else some false) = some false
      rw [if_neg hb]
    have e2 : fX7_once 1 0 2 16 (nI n) (nI p) (nI q) 1 121 gx gr = some (false, nI p, nI q, 1, 121, gr) := by
      unfold fX7_once
      simp only [i6, c6, g6, hg, ↓reduceIte]
    rw [rd_0 hm, er, e2]
    exact Or.inr ⟨q, _, _, _, _, _, _, _, hqq, rfl, rfl⟩
