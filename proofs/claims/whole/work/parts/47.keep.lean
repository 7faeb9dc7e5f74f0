/-! keep, back. -/
theorem HU.congr {C : Nat → Nat} {hk gu gu' : Int32} {pS : Nat → Int32} {pR pD : Nat → Nat → Int32} {ge ge' : Nat → Int32} (h : HU C hk pS pR pD gu ge) (h1 : gu' = gu) (h2 : ∀ i, i < 130 → ge' i = ge i) : HU C hk pS pR pD gu' ge' := by
  obtain ⟨q1, u, hu, q2, q3⟩ := h
  refine ⟨q1.trans h1.symm, u, hu, h1.trans q2, fun j hj => ?_⟩
  obtain ⟨m, E, h⟩ := q3 j hj
  have hm := h.1
  exact ⟨m, E, h.congr rfl (fun i hi => ⟨rfl, rfl⟩) (h2 _ (by omega)) (fun i hi => h2 _ (by omega))⟩
theorem IM.congr {C : Nat → Nat} {fl mk ms : Int32} {my mq pS : Nat → Int32} {pR pD : Nat → Nat → Int32} {kp kp' : Nat → Int32} {o : Nat} (h : IM C fl mk ms my mq pS pR pD kp o) (h2 : ∀ i, i < 145 → kp' (o + i) = kp (o + i)) : IM C fl mk ms my mq pS pR pD kp' o := by
  obtain ⟨q1, q2⟩ := h
  have e0 : kp' o = kp o := h2 0 (by omega)
  refine ⟨by rw [e0]; exact q1, fun hf => ?_⟩
  obtain ⟨⟨m, E, q3⟩, q4⟩ := q2 hf
  have hm := q3.1
  refine ⟨⟨m, E, q3.congr rfl (fun i hi => ⟨rfl, rfl⟩) (h2 1 (by omega)) (fun i hi => ?_)⟩, q4.congr (h2 2 (by omega)) (fun i hi => ?_)⟩
  · have := h2 (3 + i) (by omega)
    rw [show o + (3 + i) = o + 3 + i by omega] at this
    exact this
  · have := h2 (15 + i) (by omega)
    rw [show o + (15 + i) = o + 15 + i by omega] at this
    exact this
def kpNew (o : Nat) (kp : Nat → Int32) (gn gu : Int32) (gd ge : Nat → Int32) : Nat → Int32 := atTo (o + 15) (atTo (o + 3) (upd (upd (upd kp o 1) (o + 1) gn) (o + 2) gu) gd 12) ge 130
theorem zz_keepM {z : Nat} (hz : z < 2) (gn gu : Int32) (gd ge kp : Nat → Int32) : fX7_keep (nI z) gn gu gd ge kp = some (gn, kpNew (145 * z) kp gn gu gd ge) := by
  unfold fX7_keep
  have h1 : decide (0 ≤ (nI z).toInt ∧ (nI z).toInt < (1 + 1 : Nat)) = true := decide_eq_true (by rw [zz_ti (by omega)]; omega)
  have e0 : 145 * nI z = nI (145 * z) := by rw [show (145 : Int32) = nI 145 from rfl, zz_mul]
  have e1 : nI (145 * z) + 1 = nI (145 * z + 1) := by rw [zz_1, zz_add]
  have e2 : nI (145 * z) + 2 = nI (145 * z + 2) := by rw [zz_2, zz_add]
  have e3 : nI (145 * z) + 3 = nI (145 * z + 3) := by rw [zz_3, zz_add]
  have e15 : nI (145 * z) + 15 = nI (145 * z + 15) := by rw [show (15 : Int32) = nI 15 from rfl, zz_add]
  have c0 : inb (nI (145 * z)) 290 = true := by rw [zz_inbt (by omega)]; omega
  have c1 : inb (nI (145 * z + 1)) 290 = true := by rw [zz_inbt (by omega)]; omega
  have c2 : inb (nI (145 * z + 2)) 290 = true := by rw [zz_inbt (by omega)]; omega
  have l1 : ∀ f : Nat → Int32, lpd (fun s6 => sX7_keep_51 (nI (145 * z)) gd s6.1 s6.2) FU (0, f) = some (atTo (145 * z + 3) f gd 12) := by
    intro f
    have h := zz_lp (st := fun s6 => sX7_keep_51 (nI (145 * z)) gd s6.1 s6.2) 12 0 (fun k => atTo (145 * z + 3) f gd k) (by omega) (fun k hk => ?_) ?_
    · rw [atTo_0] at h
      exact h
    · dsimp only
      unfold sX7_keep_51
      have f3 : nI (145 * z) + 3 + nI (0 + k) = nI (145 * z + 3 + k) := by rw [e3, zz_add, Nat.zero_add]
      have d1 : ¬ (12 : Int32) ≤ nI (0 + k) := by rw [show (12 : Int32) = nI 12 from rfl, zz_le (by omega) (by omega)]; omega
      have d2 : inb (nI (0 + k)) 16 = true := by rw [zz_inbt (by omega)]; omega
      have d3 : inb (nI (145 * z + 3 + k)) 290 = true := by rw [zz_inbt (by omega)]; omega
      simp only [f3, d1, d2, d3, ↓reduceIte, zz_cl (show 0 + k < 2147483648 by omega), zz_cl (show 145 * z + 3 + k < 2147483648 by omega)]
      rw [zz_1, zz_add, Nat.zero_add, atTo_s]
    · rfl
  have l2 : ∀ f : Nat → Int32, lpd (fun s7 => sX7_keep_81 (nI (145 * z)) ge s7.1 s7.2) FU (0, f) = some (atTo (145 * z + 15) f ge 130) := by
    intro f
    have h := zz_lp (st := fun s7 => sX7_keep_81 (nI (145 * z)) ge s7.1 s7.2) 130 0 (fun k => atTo (145 * z + 15) f ge k) (by omega) (fun k hk => ?_) ?_
    · rw [atTo_0] at h
      exact h
    · dsimp only
      unfold sX7_keep_81
      have f3 : nI (145 * z) + 15 + nI (0 + k) = nI (145 * z + 15 + k) := by rw [e15, zz_add, Nat.zero_add]
      have d1 : ¬ (130 : Int32) ≤ nI (0 + k) := by rw [show (130 : Int32) = nI 130 from rfl, zz_le (by omega) (by omega)]; omega
      have d2 : inb (nI (0 + k)) 130 = true := by rw [zz_inbt (by omega)]; omega
      have d3 : inb (nI (145 * z + 15 + k)) 290 = true := by rw [zz_inbt (by omega)]; omega
      simp only [f3, d1, d2, d3, ↓reduceIte, zz_cl (show 0 + k < 2147483648 by omega), zz_cl (show 145 * z + 15 + k < 2147483648 by omega)]
      rw [zz_1, zz_add, Nat.zero_add, atTo_s]
    · rfl
  simp only [zz_ch (a := nI z) (n := 1) (show (1 : Int64).toInt = (1 : Nat) by decide), h1, Option.bind_some, zz_bt, e0, e1, e2, c0, c1, c2, l1, l2, ↓reduceIte, zz_cl (show 145 * z < 2147483648 by omega), zz_cl (show 145 * z + 1 < 2147483648 by omega), zz_cl (show 145 * z + 2 < 2147483648 by omega)]
  rfl
theorem kpNew_out {o : Nat} {kp : Nat → Int32} {gn gu : Int32} {gd ge : Nat → Int32} {j : Nat} (h : j < o ∨ o + 145 ≤ j) : kpNew o kp gn gu gd ge j = kp j := by
  unfold kpNew atTo
  rw [if_neg (by omega), if_neg (by omega), pk_un (by omega), pk_un (by omega), pk_un (by omega)]
theorem kpNew_im {C : Nat → Nat} {m : Nat} {E : Nat → Nat} {ds gn hk gu : Int32} {dy dk gd ge my mq mS : Nat → Int32} {mR mD : Nat → Nat → Int32} {pS : Nat → Int32} {pR pD : Nat → Nat → Int32} {kp : Nat → Int32} {o : Nat} (hN : HN C m E ds dy dk gn gd) (hU : HU C hk pS pR pD gu ge) : ∃ q : Int32 × Int32 × (Nat → Int32) × (Nat → Int32) × (Nat → Int32) × (Nat → Nat → Int32) × (Nat → Nat → Int32), fX2_copyFrom my mq mS mR mD hk ds dy dk pS pR pD = some q ∧ IM C 1 q.1 q.2.1 q.2.2.1 q.2.2.2.1 q.2.2.2.2.1 q.2.2.2.2.2.1 q.2.2.2.2.2.2 (kpNew o kp gn gu gd ge) o := by
  obtain ⟨rfl, u, hu, rfl, hj⟩ := hU
  have hN0 := hN
  obtain ⟨hm, hE, rfl, rfl, hd, hg⟩ := hN
  obtain ⟨q, eq, q1, q2, q3, q4, q5⟩ := zz_hcopy (my := my) (mq := mq) (mS := mS) (mR := mR) (mD := mD) (gy := dy) (gk := dk) (gS := pS) (gR := pR) (gD := pD) hu hm (fun j hju => by
    obtain ⟨m1, E1, h1⟩ := hj j hju
    exact ⟨m1, h1.1, h1.2.2.1⟩)
  refine ⟨q, eq, ⟨?_, fun _ => ⟨⟨m, E, hN0.congr q2 (fun i hi => ?_) ?_ (fun i hi => ?_)⟩, ?_⟩⟩⟩
  · have : kpNew o kp (nI m) (nI u) gd ge o = 1 := by
      unfold kpNew atTo
      rw [if_neg (by omega), if_neg (by omega), pk_un (by omega), pk_un (by omega), pk_us]
    rw [this]
  · rw [q3, q4]
    exact ⟨cpTo_in hi, cpTo_in hi⟩
  · unfold kpNew atTo
    rw [if_neg (by omega), if_neg (by omega), pk_un (by omega), pk_us]
  · unfold kpNew atTo
    rw [if_neg (by omega), if_pos (by omega)]
    congr 1
    omega
  · have e2 : kpNew o kp (nI m) (nI u) gd ge (o + 2) = nI u := by
      unfold kpNew atTo
      rw [if_neg (by omega), if_neg (by omega), pk_us]
    have e15 : ∀ i, i < 130 → kpNew o kp (nI m) (nI u) gd ge (o + 15 + i) = ge i := by
      intro i hi
      unfold kpNew atTo
      rw [if_pos (by omega)]
      congr 1
      omega
    refine ⟨by rw [q1, e2], u, hu, e2, fun j hju => ?_⟩
    obtain ⟨m1, E1, h1⟩ := hj j hju
    have hm1 := h1.1
    obtain ⟨r1, r2, r3⟩ := q5 j hju m1 hm1 h1.2.2.1
    refine ⟨m1, E1, h1.congr (r1.trans h1.2.2.1.symm) (fun i hi => ?_) (e15 _ (by omega)) (fun i hi => ?_)⟩
    · rw [r2, r3]
      exact ⟨cpTo_in hi, cpTo_in hi⟩
    · have := e15 (13 * j + 1 + i) (by omega)
      exact this
theorem zz_keepX {a : Int32} (z0 : ¬ a = 0) (z1 : ¬ a = 1) : fX6_keep_ix a = some (-1) ∧ decide (0 ≤ a.toInt ∧ a.toInt < (1 + 1 : Nat)) = false := by
  unfold fX6_keep_ix
  have e2 : (2 : Int32) = nI (1 + 1) := rfl
  rw [e2]
  rcases zz_cs a (1 + 1) (by omega) with ⟨k, hk, rfl, -⟩ | ⟨h1, c1 | ⟨c1, -, c2⟩⟩
  · have : k = 0 ∨ k = 1 := by omega
    rcases this with rfl | rfl
    · exact absurd rfl z0
    · exact absurd rfl z1
  · simp only [c1, ↓reduceIte]
    exact ⟨trivial, h1⟩
  · simp only [c1, c2, ↓reduceIte]
    exact ⟨trivial, h1⟩
theorem hcopy_rel {C : Nat → Nat} {m : Nat} {E : Nat → Nat} {ds gn hk gu : Int32} {dy dk gd ge my mq mS : Nat → Int32} {mR mD : Nat → Nat → Int32} {pS : Nat → Int32} {pR pD : Nat → Nat → Int32} (hN : HN C m E ds dy dk gn gd) (hU : HU C hk pS pR pD gu ge) : ∃ q : Int32 × Int32 × (Nat → Int32) × (Nat → Int32) × (Nat → Int32) × (Nat → Nat → Int32) × (Nat → Nat → Int32), fX2_copyFrom my mq mS mR mD hk ds dy dk pS pR pD = some q ∧ HN C m E q.2.1 q.2.2.1 q.2.2.2.1 gn gd ∧ HU C q.1 q.2.2.2.2.1 q.2.2.2.2.2.1 q.2.2.2.2.2.2 gu ge := by
  obtain ⟨rfl, u, hu, rfl, hj⟩ := hU
  have hN0 := hN
  obtain ⟨hm, hE, rfl, rfl, hd, hg⟩ := hN
  obtain ⟨q, eq, q1, q2, q3, q4, q5⟩ := zz_hcopy (my := my) (mq := mq) (mS := mS) (mR := mR) (mD := mD) (gy := dy) (gk := dk) (gS := pS) (gR := pR) (gD := pD) hu hm (fun j hju => by
    obtain ⟨m1, E1, h1⟩ := hj j hju
    exact ⟨m1, h1.1, h1.2.2.1⟩)
  refine ⟨q, eq, hN0.congr q2 (fun i hi => by rw [q3, q4]; exact ⟨cpTo_in hi, cpTo_in hi⟩) rfl (fun i hi => rfl), q1, u, hu, rfl, fun j hju => ?_⟩
  obtain ⟨m1, E1, h1⟩ := hj j hju
  obtain ⟨r1, r2, r3⟩ := q5 j hju m1 h1.1 h1.2.2.1
  exact ⟨m1, E1, h1.congr (r1.trans h1.2.2.1.symm) (fun i hi => by rw [r2, r3]; exact ⟨cpTo_in hi, cpTo_in hi⟩) rfl (fun i hi => rfl)⟩
theorem zz_backM {z : Nat} (hz : z < 2) (gn gu : Int32) (gd ge kp : Nat → Int32) : fX7_back (nI z) gn gu gd ge kp = some (if kp (145 * z) = 0 then (-2, gn, gu, gd, ge) else (kp (145 * z + 1), kp (145 * z + 1), kp (145 * z + 2), cpTo gd (fun i => kp (145 * z + 3 + i)) 12, cpTo ge (fun i => kp (145 * z + 15 + i)) 130)) := by
  unfold fX7_back
  have h1 : decide (0 ≤ (nI z).toInt ∧ (nI z).toInt < (1 + 1 : Nat)) = true := decide_eq_true (by rw [zz_ti (by omega)]; omega)
  have e0 : 145 * nI z = nI (145 * z) := by rw [show (145 : Int32) = nI 145 from rfl, zz_mul]
  have e1 : nI (145 * z) + 1 = nI (145 * z + 1) := by rw [zz_1, zz_add]
  have e2 : nI (145 * z) + 2 = nI (145 * z + 2) := by rw [zz_2, zz_add]
  have e3 : nI (145 * z) + 3 = nI (145 * z + 3) := by rw [zz_3, zz_add]
  have e15 : nI (145 * z) + 15 = nI (145 * z + 15) := by rw [show (15 : Int32) = nI 15 from rfl, zz_add]
  have c0 : inb (nI (145 * z)) 290 = true := by rw [zz_inbt (by omega)]; omega
  have c1 : inb (nI (145 * z + 1)) 290 = true := by rw [zz_inbt (by omega)]; omega
  have c2 : inb (nI (145 * z + 2)) 290 = true := by rw [zz_inbt (by omega)]; omega
  have l1 : lpd (fun s7 => sX7_back_56 (nI (145 * z)) kp s7.1 s7.2) FU (0, gd) = some (cpTo gd (fun i => kp (145 * z + 3 + i)) 12) := by
    have h := zz_lp (st := fun s7 => sX7_back_56 (nI (145 * z)) kp s7.1 s7.2) 12 0 (fun k => cpTo gd (fun i => kp (145 * z + 3 + i)) k) (by omega) (fun k hk => ?_) ?_
    · rw [cpTo_0] at h
      exact h
    · dsimp only
      unfold sX7_back_56
      have f3 : nI (145 * z) + 3 + nI (0 + k) = nI (145 * z + 3 + k) := by rw [e3, zz_add, Nat.zero_add]
      have d1 : ¬ (12 : Int32) ≤ nI (0 + k) := by rw [show (12 : Int32) = nI 12 from rfl, zz_le (by omega) (by omega)]; omega
      have d2 : inb (nI (0 + k)) 16 = true := by rw [zz_inbt (by omega)]; omega
      have d3 : inb (nI (145 * z + 3 + k)) 290 = true := by rw [zz_inbt (by omega)]; omega
      simp only [f3, d1, d2, d3, ↓reduceIte, zz_cl (show 0 + k < 2147483648 by omega), zz_cl (show 145 * z + 3 + k < 2147483648 by omega)]
      rw [zz_1, zz_add, Nat.zero_add, ← cpTo_s]
    · rfl
  have l2 : lpd (fun s8 => sX7_back_86 (nI (145 * z)) kp s8.1 s8.2) FU (0, ge) = some (cpTo ge (fun i => kp (145 * z + 15 + i)) 130) := by
    have h := zz_lp (st := fun s8 => sX7_back_86 (nI (145 * z)) kp s8.1 s8.2) 130 0 (fun k => cpTo ge (fun i => kp (145 * z + 15 + i)) k) (by omega) (fun k hk => ?_) ?_
    · rw [cpTo_0] at h
      exact h
    · dsimp only
      unfold sX7_back_86
      have f3 : nI (145 * z) + 15 + nI (0 + k) = nI (145 * z + 15 + k) := by rw [e15, zz_add, Nat.zero_add]
      have d1 : ¬ (130 : Int32) ≤ nI (0 + k) := by rw [show (130 : Int32) = nI 130 from rfl, zz_le (by omega) (by omega)]; omega
      have d2 : inb (nI (0 + k)) 130 = true := by rw [zz_inbt (by omega)]; omega
      have d3 : inb (nI (145 * z + 15 + k)) 290 = true := by rw [zz_inbt (by omega)]; omega
      simp only [f3, d1, d2, d3, ↓reduceIte, zz_cl (show 0 + k < 2147483648 by omega), zz_cl (show 145 * z + 15 + k < 2147483648 by omega)]
      rw [zz_1, zz_add, Nat.zero_add, ← cpTo_s]
    · rfl
  simp only [zz_ch (a := nI z) (n := 1) (show (1 : Int64).toInt = (1 : Nat) by decide), h1, Option.bind_some, zz_bt, e0, e1, e2, c0, c1, c2, l1, l2, ↓reduceIte, zz_cl (show 145 * z < 2147483648 by omega), zz_cl (show 145 * z + 1 < 2147483648 by omega), zz_cl (show 145 * z + 2 < 2147483648 by omega)]
  by_cases h : kp (145 * z) = 0
  · simp only [h, ↓reduceIte]
  · simp only [h, ↓reduceIte]
