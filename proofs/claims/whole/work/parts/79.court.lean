/-! court: all items; court alike on both sides. -/
theorem zz_all {n : Nat} {c C : Nat → Nat} {jt gx nm0 : Nat → Int32} {told tk0 tp0 tv0 ty ts tb tt td tq yT bT qT : Int32} {tl tz tc tY tA tB tF tG gr : Nat → Int32} {r2 : Int32 × Int32 × Int32 × Int32} (hT : TX n c jt gx) (h : IC C ty ts tb tt td tq tl tz tc tY tA tB tF tG gr) (hF : FL C yT bT qT) (hr : fX7_reads (nI n) 0 told gx = some r2) : ∃ (e : (Int32 × Int32 × Int32 × Int32 × Int32 × Int32 × Int32 × Int32 × (Nat → Int32) × Int32 × Int32 × Int32 × Int32 × Int32 × Int32 × (Nat → Int32) × (Nat → Int32) × (Nat → Int32) × (Nat → Int32) × (Nat → Int32) × (Nat → Int32) × (Nat → Int32) × (Nat → Int32)) ⊕ (Int32 × Int32 × Int32 × Int32 × Int32 × Int32 × Int32 × (Nat → Int32) × Int32 × Int32 × Int32 × Int32 × Int32 × Int32 × (Nat → Int32) × (Nat → Int32) × (Nat → Int32) × (Nat → Int32) × (Nat → Int32) × (Nat → Int32) × (Nat → Int32) × (Nat → Int32)) ⊕ (Int32 × Int32 × Int32 × Int32 × Int32 × Int32 × Int32 × (Nat → Int32) × Int32 × Int32 × Int32 × Int32 × Int32 × Int32 × (Nat → Int32) × (Nat → Int32) × (Nat → Int32) × (Nat → Int32) × (Nat → Int32) × (Nat → Int32) × (Nat → Int32) × (Nat → Int32))) (e' : (Int32 × Int32 × Int32 × Int32 × (Nat → Int32)) ⊕ (Int32 × Int32 × Int32 × Int32 × Int32 × (Nat → Int32))), lpd (fun s1 => sX4_readAll_38 (nI n) jt s1.1 s1.2.1 s1.2.2.1 s1.2.2.2.1 s1.2.2.2.2.1 s1.2.2.2.2.2.1 s1.2.2.2.2.2.2.1 s1.2.2.2.2.2.2.2.1 s1.2.2.2.2.2.2.2.2.1 s1.2.2.2.2.2.2.2.2.2.1 s1.2.2.2.2.2.2.2.2.2.2.1 s1.2.2.2.2.2.2.2.2.2.2.2.1 s1.2.2.2.2.2.2.2.2.2.2.2.2.1 s1.2.2.2.2.2.2.2.2.2.2.2.2.2.1 s1.2.2.2.2.2.2.2.2.2.2.2.2.2.2.1 s1.2.2.2.2.2.2.2.2.2.2.2.2.2.2.2.1 s1.2.2.2.2.2.2.2.2.2.2.2.2.2.2.2.2.1 s1.2.2.2.2.2.2.2.2.2.2.2.2.2.2.2.2.2.1 s1.2.2.2.2.2.2.2.2.2.2.2.2.2.2.2.2.2.2.1 s1.2.2.2.2.2.2.2.2.2.2.2.2.2.2.2.2.2.2.2.1 s1.2.2.2.2.2.2.2.2.2.2.2.2.2.2.2.2.2.2.2.2.1 s1.2.2.2.2.2.2.2.2.2.2.2.2.2.2.2.2.2.2.2.2.2.1 s1.2.2.2.2.2.2.2.2.2.2.2.2.2.2.2.2.2.2.2.2.2.2) FU (0, 0, tk0, tp0, tv0, yT, bT, qT, nm0, ty, ts, tb, tt, td, tq, tl, tz, tc, tY, tA, tB, tF, tG) = some e ∧ lpd (fun s3 => sX7_court_15 (nI n) gx s3.1 s3.2.1 s3.2.2.1 s3.2.2.2.1 s3.2.2.2.2.1 s3.2.2.2.2.2) FU (0, r2.1, r2.2.1, r2.2.2.1, r2.2.2.2, gr) = some e' ∧ ((∃ (k : Nat) (C : Nat → Nat) (pl tk tp tv yT bT qT : Int32) (nm : Nat → Int32) (ty ts tb tt td tq : Int32) (tl tz tc tY tA tB tF tG : Nat → Int32) (y1 y2 y3 y4 : Int32) (gr : Nat → Int32), k ≤ n ∧ IC C ty ts tb tt td tq tl tz tc tY tA tB tF tG gr ∧ e = .inl (nI k, pl, tk, tp, tv, yT, bT, qT, nm, ty, ts, tb, tt, td, tq, tl, tz, tc, tY, tA, tB, tF, tG) ∧ e' = .inr (nI k, y1, y2, y3, y4, gr)) ∨ (∃ (q : Nat) (x1 x2 : Int32) (x3 : Int32 × Int32 × Int32 × Int32 × (Nat → Int32) × Int32 × Int32 × Int32 × Int32 × Int32 × Int32 × (Nat → Int32) × (Nat → Int32) × (Nat → Int32) × (Nat → Int32) × (Nat → Int32) × (Nat → Int32) × (Nat → Int32) × (Nat → Int32)) (y1 y2 y3 : Int32) (gr : Nat → Int32), q ≤ n ∧ e = .inr (.inl (x1, x2, nI q, x3)) ∧ e' = .inl (y1, nI q, y2, y3, gr))) := by
  have hn := hT.1
  refine lpd_2 (fun k s s' => ∃ (p : Nat) (C : Nat → Nat) (tk tp tv yT bT qT : Int32) (nm : Nat → Int32) (ty ts tb tt td tq : Int32) (tl tz tc tY tA tB tF tG : Nat → Int32) (told : Int32) (r2 : Int32 × Int32 × Int32 × Int32) (gr : Nat → Int32), k ≤ p ∧ p ≤ n ∧ IC C ty ts tb tt td tq tl tz tc tY tA tB tF tG gr ∧ FL C yT bT qT ∧ fX7_reads (nI n) (nI p) told gx = some r2 ∧ s = (nI k, nI p, tk, tp, tv, yT, bT, qT, nm, ty, ts, tb, tt, td, tq, tl, tz, tc, tY, tA, tB, tF, tG) ∧ s' = (nI k, r2.1, r2.2.1, r2.2.2.1, r2.2.2.2, gr)) n (by omega) _ _ ⟨0, C, tk0, tp0, tv0, yT, bT, qT, nm0, ty, ts, tb, tt, td, tq, tl, tz, tc, tY, tA, tB, tF, tG, told, r2, gr, Nat.le_refl _, Nat.zero_le _, h, hF, hr, rfl, rfl⟩ (fun k s s' hk hI => ?_)
  obtain ⟨p, C, tk, tp, tv, yT, bT, qT, nm, ty, ts, tb, tt, td, tq, tl, tz, tc, tY, tA, tB, tF, tG, told, r2, gr, h1, h2, h3, h4, h5, rfl, rfl⟩ := hI
  have c1 : ¬ nI n < nI k := by rw [zz_lt (by omega) (by omega)]; omega
  have en : nI k + 1 = nI (k + 1) := by rw [zz_1, zz_add]
  obtain ⟨r1, r2', e1, e2, hk'⟩ := zz_token told hT h2
  obtain rfl : r2' = r2 := by rw [h5] at e2; exact (Option.some.inj e2).symm
  rcases it_any (nums := nm) hT h3 h4 hk' with ⟨a1, a2⟩ | ⟨a1, a2, a3, p1, a4, hit⟩
  · refine Or.inr ⟨_, _, ?_, ?_, Or.inl ⟨k, C, r1.1, r1.2.1, r1.2.2.1, r1.2.2.2, yT, bT, qT, nm, ty, ts, tb, tt, td, tq, tl, tz, tc, tY, tA, tB, tF, tG, r2'.1, r2'.2.1, r2'.2.2.1, r2'.2.2.2, gr, hk, h3, rfl, rfl⟩⟩
    · unfold sX4_readAll_38
      simp only [c1, e1, a1, Option.bind_some, ↓reduceIte]
    · unfold sX7_court_15
      simp only [a2, ↓reduceIte]
  · rcases hit with ⟨C', p', tk', tp', tv', yT', bT', qT', nm', ty', ts', tb', tt', td', tq', tl', tz', tc', tY', tA', tB', tF', tG', bg, tkr, tdr, gr', b1, b2, b3, b4, b5, b6⟩ | ⟨q, x1, x2, x3, y1, y2, y3, gr', hqn, b5, b6⟩
    · obtain ⟨r1n, r2n, f1, f2, -⟩ := zz_token tdr hT b2
      refine Or.inl ⟨by omega, (nI (k + 1), nI p', tk', tp', tv', yT', bT', qT', nm', ty', ts', tb', tt', td', tq', tl', tz', tc', tY', tA', tB', tF', tG'), (nI (k + 1), r2n.1, r2n.2.1, r2n.2.2.1, r2n.2.2.2, gr'), ?_, ?_, p', C', tk', tp', tv', yT', bT', qT', nm', ty', ts', tb', tt', td', tq', tl', tz', tc', tY', tA', tB', tF', tG', tdr, r2n, gr', by omega, b2, b3, b4, f2, rfl, rfl⟩
      · unfold sX4_readAll_38
        simp only [c1, e1, a1, b5, en, zz_bt, Option.bind_some, ↓reduceIte]
      · unfold sX7_court_15
        simp only [a2, b6, f2, en, zz_bt, Option.bind_some, ↓reduceIte]
    · refine Or.inr ⟨.inr (.inl (x1, x2, nI q, x3)), .inl (y1, nI q, y2, y3, gr'), ?_, ?_, Or.inr ⟨q, x1, x2, x3, y1, y2, y3, gr', hqn, rfl, rfl⟩⟩
      · unfold sX4_readAll_38
        simp only [c1, e1, a1, b5, zz_bf, Option.bind_some, ↓reduceIte]
      · unfold sX7_court_15
        simp only [a2, b6, zz_bf, Option.bind_some, ↓reduceIte]

theorem zz_neg10 {q : Nat} (h : q ≤ 200) : ¬ (0 : Int32) ≤ -10 - nI q := by
  have e : (-10 : Int32) - nI q = iI (-10 - (q : Int)) := by
    rw [iI_n, show (-10 : Int32) = iI (-10) from rfl]
    exact (Int32.ofInt_sub _ _).symm
  rw [e, zz_lei, zz_e0, iI_ti (by omega) (by omega)]
  omega
def cC0 : Nat → Nat := fun i => if i = 0 then 12 else if i = 4 then 1 else 0
theorem zz_plain (grd : Nat → Int32) : ∃ gr0, fX7_plain grd = some gr0 ∧ ∀ i, i < 55 → gr0 i = nI (cC0 i) := by
  have l : lpd (fun s1 => sX7_plain_2 s1.1 s1.2) FU (0, grd) = some (cpTo grd (fun _ => 0) 55) := by
    have h := zz_lp (st := fun s1 => sX7_plain_2 s1.1 s1.2) 55 0 (fun k => cpTo grd (fun _ => 0) k) (by omega) (fun k hk => ?_) ?_
    · rw [cpTo_0] at h
      exact h
    · dsimp only
      unfold sX7_plain_2
      have c1 : ¬ (55 : Int32) ≤ nI (0 + k) := by rw [show (55 : Int32) = nI 55 from rfl, zz_le (by omega) (by omega)]; omega
      have c2 : inb (nI (0 + k)) 55 = true := by rw [zz_inbt (by omega)]; omega
      simp only [c1, c2, zz_cl (show 0 + k < 2147483648 by omega), ↓reduceIte]
      rw [zz_1, zz_add, ← cpTo_s, Nat.zero_add]
    · rfl
  have i0 : inb 0 55 = true := by decide
  have i4 : inb 4 55 = true := by decide
  refine ⟨upd (upd (cpTo grd (fun _ => 0) 55) 0 12) 4 1, ?_, fun i hi => ?_⟩
  · unfold fX7_plain
    simp only [l, i0, i4, zz_c0, zz_c4, Option.bind_some, ↓reduceIte]
  · unfold cC0
    by_cases c4 : i = 4
    · subst c4; rw [pk_us]; rfl
    · rw [pk_un c4]
      by_cases c0 : i = 0
      · subst c0; rw [pk_us]; rfl
      · rw [pk_un c0, if_neg c0, if_neg c4, cpTo_in hi]; rfl
theorem zz_IC0 {ul ud ub uY uA uB uF uG gr0 : Nat → Int32} (h : ∀ i, i < 55 → gr0 i = nI (cC0 i)) : IC cC0 12 0 0 0 0 1 ul ud ub uY uA uB uF uG gr0 := by
  refine ⟨⟨by decide, by decide, by decide, by decide, by decide, by decide, by decide, by decide, fun s hs => absurd hs (Nat.not_lt_zero s), fun t ht => absurd ht (Nat.not_lt_zero t), fun t ht => absurd ht (Nat.not_lt_zero _), fun k hk => absurd hk (Nat.not_lt_zero k)⟩, h, rfl, rfl, rfl, rfl, rfl, rfl, fun s hs => absurd hs (Nat.not_lt_zero s), fun t ht => absurd ht (Nat.not_lt_zero t), fun k hk => absurd hk (Nat.not_lt_zero k)⟩
theorem zz_FL0 : FL cC0 0 0 0 := by unfold FL; decide
theorem zz_takes (gr gl gk : Nat → Int32) : fX7_takesIt gr gl gk = some (0, 0, 0, cpTo gl gr 55, upd (upd gk 0 0) 145 0) := by
  have l : lpd (fun s1 => sX7_takesIt_2 gr s1.1 s1.2) FU (0, gl) = some (cpTo gl gr 55) := by
    have h := zz_lp (st := fun s1 => sX7_takesIt_2 gr s1.1 s1.2) 55 0 (fun k => cpTo gl gr k) (by omega) (fun k hk => ?_) ?_
    · rw [cpTo_0] at h
      exact h
    · dsimp only
      unfold sX7_takesIt_2
      have c1 : ¬ (55 : Int32) ≤ nI (0 + k) := by rw [show (55 : Int32) = nI 55 from rfl, zz_le (by omega) (by omega)]; omega
      have c2 : inb (nI (0 + k)) 55 = true := by rw [zz_inbt (by omega)]; omega
      simp only [c1, c2, zz_cl (show 0 + k < 2147483648 by omega), ↓reduceIte]
      rw [zz_1, zz_add, ← cpTo_s, Nat.zero_add]
    · rfl
  have i0 : inb 0 290 = true := by decide
  have i4 : inb 145 290 = true := by decide
  have c145 : (145 : Int32).toNatClampNeg = 145 := by decide
  unfold fX7_takesIt
  simp only [l, i0, i4, zz_c0, c145, Option.bind_some, ↓reduceIte]
theorem zz_kept0 (jk : Nat → Int32) : lpd (fun s5 => sX6_court_70 s5.1 s5.2) FU (0, jk) = some (cpTo jk (fun _ => 0) 2) := by
  have h := zz_lp (st := fun s5 => sX6_court_70 s5.1 s5.2) 2 0 (fun k => cpTo jk (fun _ => 0) k) (by omega) (fun k hk => ?_) ?_
  · rw [cpTo_0] at h
    exact h
  · dsimp only
    unfold sX6_court_70
    have c1 : ¬ (2 : Int32) ≤ nI (0 + k) := by rw [zz_2, zz_le (by omega) (by omega)]; omega
    have c2 : inb (nI (0 + k)) 2 = true := by rw [zz_inbt (by omega)]; omega
    simp only [c1, c2, zz_cl (show 0 + k < 2147483648 by omega), ↓reduceIte]
    rw [zz_1, zz_add, ← cpTo_s, Nat.zero_add]
  · rfl
theorem IC.life {C : Nat → Nat} {ty ts tb tt td tq : Int32} {tl tz tc tY tA tB tF tG gr gl : Nat → Int32} (h : IC C ty ts tb tt td tq tl tz tc tY tA tB tF tG gr) : IC C ty ts tb tt td tq tl tz tc tY tA tB tF tG (cpTo gl gr 55) := ⟨h.1, fun i hi => by rw [cpTo_in hi]; exact h.2.1 i hi, h.2.2⟩
theorem ra_ok {L L2 rk rp rv ty ts tb tt td tq : Int32} {b rn tl tz tc tY tA tB tF tG : Nat → Int32} {e : Int32 × Int32 × Int32 × Int32 × Int32 × Int32 × Int32 × Int32 × (Nat → Int32) × Int32 × Int32 × Int32 × Int32 × Int32 × Int32 × (Nat → Int32) × (Nat → Int32) × (Nat → Int32) × (Nat → Int32) × (Nat → Int32) × (Nat → Int32) × (Nat → Int32) × (Nat → Int32)} (el : (if 200 < L then 200 else L) = L2) (hl : lpd (fun s1 => sX4_readAll_38 L2 b s1.1 s1.2.1 s1.2.2.1 s1.2.2.2.1 s1.2.2.2.2.1 s1.2.2.2.2.2.1 s1.2.2.2.2.2.2.1 s1.2.2.2.2.2.2.2.1 s1.2.2.2.2.2.2.2.2.1 s1.2.2.2.2.2.2.2.2.2.1 s1.2.2.2.2.2.2.2.2.2.2.1 s1.2.2.2.2.2.2.2.2.2.2.2.1 s1.2.2.2.2.2.2.2.2.2.2.2.2.1 s1.2.2.2.2.2.2.2.2.2.2.2.2.2.1 s1.2.2.2.2.2.2.2.2.2.2.2.2.2.2.1 s1.2.2.2.2.2.2.2.2.2.2.2.2.2.2.2.1 s1.2.2.2.2.2.2.2.2.2.2.2.2.2.2.2.2.1 s1.2.2.2.2.2.2.2.2.2.2.2.2.2.2.2.2.2.1 s1.2.2.2.2.2.2.2.2.2.2.2.2.2.2.2.2.2.2.1 s1.2.2.2.2.2.2.2.2.2.2.2.2.2.2.2.2.2.2.2.1 s1.2.2.2.2.2.2.2.2.2.2.2.2.2.2.2.2.2.2.2.2.1 s1.2.2.2.2.2.2.2.2.2.2.2.2.2.2.2.2.2.2.2.2.2.1 s1.2.2.2.2.2.2.2.2.2.2.2.2.2.2.2.2.2.2.2.2.2.2) FU (0, 0, rk, rp, rv, 0, 0, 0, rn, ty, ts, tb, tt, td, tq, tl, tz, tc, tY, tA, tB, tF, tG) = some (.inl e)) : fX4_readAll L rk rp rv rn b ty ts tb tt td tq tl tz tc tY tA tB tF tG = some (e.1, L2, e.2) := by
  unfold fX4_readAll
  rw [el, hl]
  rfl
theorem ra_no {L L2 rk rp rv ty ts tb tt td tq : Int32} {b rn tl tz tc tY tA tB tF tG : Nat → Int32} {e : Int32 × Int32 × Int32 × Int32 × Int32 × Int32 × Int32 × (Nat → Int32) × Int32 × Int32 × Int32 × Int32 × Int32 × Int32 × (Nat → Int32) × (Nat → Int32) × (Nat → Int32) × (Nat → Int32) × (Nat → Int32) × (Nat → Int32) × (Nat → Int32) × (Nat → Int32)} (el : (if 200 < L then 200 else L) = L2) (hl : lpd (fun s1 => sX4_readAll_38 L2 b s1.1 s1.2.1 s1.2.2.1 s1.2.2.2.1 s1.2.2.2.2.1 s1.2.2.2.2.2.1 s1.2.2.2.2.2.2.1 s1.2.2.2.2.2.2.2.1 s1.2.2.2.2.2.2.2.2.1 s1.2.2.2.2.2.2.2.2.2.1 s1.2.2.2.2.2.2.2.2.2.2.1 s1.2.2.2.2.2.2.2.2.2.2.2.1 s1.2.2.2.2.2.2.2.2.2.2.2.2.1 s1.2.2.2.2.2.2.2.2.2.2.2.2.2.1 s1.2.2.2.2.2.2.2.2.2.2.2.2.2.2.1 s1.2.2.2.2.2.2.2.2.2.2.2.2.2.2.2.1 s1.2.2.2.2.2.2.2.2.2.2.2.2.2.2.2.2.1 s1.2.2.2.2.2.2.2.2.2.2.2.2.2.2.2.2.2.1 s1.2.2.2.2.2.2.2.2.2.2.2.2.2.2.2.2.2.2.1 s1.2.2.2.2.2.2.2.2.2.2.2.2.2.2.2.2.2.2.2.1 s1.2.2.2.2.2.2.2.2.2.2.2.2.2.2.2.2.2.2.2.2.1 s1.2.2.2.2.2.2.2.2.2.2.2.2.2.2.2.2.2.2.2.2.2.1 s1.2.2.2.2.2.2.2.2.2.2.2.2.2.2.2.2.2.2.2.2.2.2) FU (0, 0, rk, rp, rv, 0, 0, 0, rn, ty, ts, tb, tt, td, tq, tl, tz, tc, tY, tA, tB, tF, tG) = some (.inr (.inl e))) : fX4_readAll L rk rp rv rn b ty ts tb tt td tq tl tz tc tY tA tB tF tG = some ((-10) - e.2.2.1, L2, e) := by
  unfold fX4_readAll
  rw [el, hl]
  rfl
theorem p_court {jl js gs gtold gn gu gse rk rp rv hk hd : Int32} {jt gx jk kn ul ud ub uY uA uB uF uG rn grd gl gk : Nat → Int32} (qt qu : Nat) (hI : IT jl jt gs gx) :
  (∃ (ans : Int32) (ty ts tb tt td tq : Int32) (tl tz tc tY tA tB tF tG : Nat → Int32) (a1 a2 a3 a4 a5 a6 a7 a8 : Int32) (nm : Nat → Int32) (b2 b3 b4 b5 : Int32) (rd : Nat → Int32), fX6_court jl js jt jk ul ud ub uY uA uB uF uG rk rp rv rn kn hk hd qt qu = some (ans, jl, qt, qu, js, jk, ty, ts, tb, tt, td, tq, tl, tz, tc, tY, tA, tB, tF, tG, a1, a2, a3, a4, a5, a6, a7, a8, nm, kn, hk, hd) ∧ fX7_court gs gtold gn gu gse gx grd gl gk = some (ans, gs, b2, b3, b4, b5, gn, gu, gse, rd, gl, gk)) ∨
  (∃ (ans : Int32) (C : Nat → Nat) (ty ts tb tt td tq : Int32) (tl tz tc tY tA tB tF tG : Nat → Int32) (a1 a2 a3 a4 a5 a6 a7 a8 : Int32) (nm : Nat → Int32) (b2 b3 b4 b5 : Int32) (rd gl' : Nat → Int32), IC C ty ts tb tt td tq tl tz tc tY tA tB tF tG gl' ∧ fX6_court jl js jt jk ul ud ub uY uA uB uF uG rk rp rv rn kn hk hd qt qu = some (ans, 0, qu, qt, 0, cpTo jk (fun _ => 0) 2, ty, ts, tb, tt, td, tq, tl, tz, tc, tY, tA, tB, tF, tG, a1, a2, a3, a4, a5, a6, a7, a8, nm, cpTo kn (fun _ => 0) 3, 0, 0) ∧ fX7_court gs gtold gn gu gse gx grd gl gk = some (ans, 0, b2, b3, b4, b5, 0, 0, 0, rd, gl', upd (upd gk 0 0) 145 0)) := by
  obtain ⟨n, c, rfl, rfl, hT⟩ := TX.of hI
  have hn := hT.1
  obtain ⟨gr0, epl, hgr0⟩ := zz_plain grd
  obtain ⟨r1, r2, f1, f2, -⟩ := zz_token gtold hT (Nat.zero_le n)
  replace f2 : fX7_reads (nI n) 0 gtold gx = some r2 := f2
  obtain ⟨e, e', hl, hl', hh⟩ := zz_all (nm0 := rn) (tk0 := rk) (tp0 := rp) (tv0 := rv) hT (zz_IC0 (ul := ul) (ud := ud) (ub := ub) (uY := uY) (uA := uA) (uB := uB) (uF := uF) (uG := uG) hgr0) zz_FL0 f2
  have el : (if (200 : Int32) < nI n then 200 else nI n) = nI n := if_neg (by rw [show (200 : Int32) = nI 200 from rfl, zz_lt (by omega) (by omega)]; omega)
  have er : fX5_reset = some (12, 0, 0, 0, 0, 1) := rfl
  rcases hh with ⟨k, C, pl, tk, tp, tv, yT, bT, qT, nm, ty, ts, tb, tt, td, tq, tl, tz, tc, tY, tA, tB, tF, tG, y1, y2, y3, y4, gr, hk', hIC, rfl, rfl⟩ | ⟨q, x1, x2, x3, y1, y2, y3, gr, hq, rfl, rfl⟩
  · refine Or.inr ⟨nI k, C, ty, ts, tb, tt, td, tq, tl, tz, tc, tY, tA, tB, tF, tG, nI n, pl, tk, tp, tv, yT, bT, qT, nm, y1, y2, y3, y4, gr, cpTo gl gr 55, hIC.life, ?_, ?_⟩
    · have c0 : (0 : Int32) ≤ nI k := by rw [zz_0, zz_le (by omega) (by omega)]; omega
      have hra := ra_ok el hl
      unfold fX6_court
      rw [er, Option.bind_some]
      dsimp only
      rw [hra, Option.bind_some]
      dsimp only
      rw [if_pos c0, zz_kept0, zz_forget]
      rfl
    · unfold fX7_court
      rw [epl, Option.bind_some, f2, Option.bind_some, hl', Option.bind_some, Sum.elim_inr, zz_takes]
      rfl
  · obtain ⟨x4, x5, x6, x7, x8, z1, z2, z3, z4, z5, z6, z7, z8, z9, z10, z11, z12, z13, z14⟩ := x3
    refine Or.inl ⟨-10 - nI q, z1, z2, z3, z4, z5, z6, z7, z8, z9, z10, z11, z12, z13, z14, nI n, x1, x2, nI q, x4, x5, x6, x7, x8, y1, nI q, y2, y3, gr, ?_, ?_⟩
    · have c0 := zz_neg10 (q := q) (by omega)
      have hra := ra_no el hl
      unfold fX6_court
      rw [er, Option.bind_some]
      dsimp only
      rw [hra, Option.bind_some]
      dsimp only
      rw [if_neg c0]
    · unfold fX7_court
      rw [epl, Option.bind_some, f2, Option.bind_some, hl', Option.bind_some, Sum.elim_inl]
