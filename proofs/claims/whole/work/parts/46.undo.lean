/-! undo; a history copied; keep, back. -/
theorem p_undo {C : Nat → Nat} {m : Nat} {E : Nat → Nat} {ds gn hk gu : Int32} {dy dk gd ge kn kh kf ks : Nat → Int32} {pS : Nat → Int32} {pR pD : Nat → Nat → Int32} (hT3 : C 3 ≤ 3) (hN : HN C m E ds dy dk gn gd) (hU : HU C hk pS pR pD gu ge) (hC : CH C m E kn kh kf ks) : ∃ (o1 : Int32 × (Nat → Int32) × Int32 × Int32 × (Nat → Int32) × (Nat → Int32)) (o2 : Int32 × Int32 × Int32 × (Nat → Int32)), fX6_undo kn hk ds dy dk pS pR pD = some o1 ∧ fX7_undo gn gu gd ge = some o2 ∧ o1.1 = o2.1 ∧ ∃ (m' : Nat) (E' : Nat → Nat), HN C m' E' o1.2.2.2.1 o1.2.2.2.2.1 o1.2.2.2.2.2 o2.2.1 o2.2.2.2 ∧ HU C o1.2.2.1 pS pR pD o2.2.2.1 ge ∧ CH C m' E' o1.2.1 kh kf ks := by
  have hU0 := hU
  obtain ⟨rfl, u, hu, rfl, hj⟩ := hU
  unfold fX6_undo fX7_undo
  by_cases h0 : u = 0
  · subst h0
    have c1 : ¬ (0 : Int32) < nI 0 := by decide
    have c2 : nI 0 = 0 := rfl
    simp only [c1, ↓reduceIte]
    simp only [c2, ↓reduceIte]
    exact ⟨_, _, rfl, rfl, rfl, m, E, hN, hU0, hC⟩
  · have c1 : (0 : Int32) < nI u := by rw [zz_0, zz_lt (by omega) (by omega)]; omega
    have c2 : ¬ nI u = 0 := by rw [zz_0, zz_eq (by omega) (by omega)]; exact h0
    have e1 : nI u - 1 = nI (u - 1) := by rw [zz_1, zz_sub (by omega)]
    have e2 : 13 * nI (u - 1) = nI (13 * (u - 1)) := by rw [show (13 : Int32) = nI 13 from rfl, zz_mul]
    have c3 : inb (nI (13 * (u - 1))) 130 = true := by rw [zz_inbt (by omega)]; omega
    have c4 : inb (nI u) 11 = true := by rw [zz_inbt (by omega)]; omega
    obtain ⟨m1, E1, h1⟩ := hj (u - 1) (by omega)
    obtain ⟨hm1, hE1, es, eg, hd1, hg1⟩ := id h1
    have e : lpd (fun s3 => sX7_undo_38 (nI (u - 1)) ge s3.1 s3.2) FU (0, gd) = some (cpTo gd (fun i => ge (13 * (u - 1) + 1 + i)) 12) := by
      have h := zz_lp (st := fun s3 => sX7_undo_38 (nI (u - 1)) ge s3.1 s3.2) 12 0 (fun k => cpTo gd (fun i => ge (13 * (u - 1) + 1 + i)) k) (by omega) (fun k hk => ?_) ?_
      · rw [cpTo_0] at h
        exact h
      · dsimp only
        unfold sX7_undo_38
        have e3 : 13 * nI (u - 1) + 1 + nI (0 + k) = nI (13 * (u - 1) + 1 + k) := by rw [e2, zz_1, zz_add, zz_add, Nat.zero_add]
        have d1 : ¬ (12 : Int32) ≤ nI (0 + k) := by rw [show (12 : Int32) = nI 12 from rfl, zz_le (by omega) (by omega)]; omega
        have d2 : inb (nI (0 + k)) 16 = true := by rw [zz_inbt (by omega)]; omega
        have d3 : inb (nI (13 * (u - 1) + 1 + k)) 130 = true := by rw [zz_inbt (by omega)]; omega
        simp only [e3, d1, d2, d3, ↓reduceIte, zz_cl (show 0 + k < 2147483648 by omega), zz_cl (show 13 * (u - 1) + 1 + k < 2147483648 by omega)]
        rw [zz_1, zz_add, Nat.zero_add, ← cpTo_s]
      · rfl
    have eb : fX2_goBack (nI u) ds dy dk pS pR pD = some (nI (u - 1), nI m1, cpTo dy (pR (u - 1)) m1, cpTo dk (pD (u - 1)) m1) := by
      unfold fX2_goBack
      simp only [c4, c2, e1, ↓reduceIte, zz_cl (show u - 1 < 2147483648 by omega), es, zz_copy hm1, Option.bind_some]
    simp only [c1, c2, c3, e1, e2, e, eb, zz_forget, Option.bind_some, ↓reduceIte, zz_cl (show 13 * (u - 1) < 2147483648 by omega)]
    refine ⟨_, _, rfl, rfl, rfl, m1, E1, h1.congr es.symm (fun i hi => ⟨cpTo_in hi, cpTo_in hi⟩) rfl (fun i hi => cpTo_in (a := gd) (b := fun i => ge (13 * (u - 1) + 1 + i)) (k := 12) (show i < 12 by omega)), ⟨rfl, u - 1, by omega, rfl, fun j hju => hj j (by omega)⟩, CH.none hT3⟩

set_option maxHeartbeats 4000000 in
theorem zz_hcopy {u m : Nat} (hu : u ≤ 10) (hm : m ≤ 6) {my mq gy gk : Nat → Int32} {mS gS : Nat → Int32} {mR mD gR gD : Nat → Nat → Int32} (hs : ∀ j, j < u → ∃ k : Nat, k ≤ 6 ∧ gS j = nI k) : ∃ o : Int32 × Int32 × (Nat → Int32) × (Nat → Int32) × (Nat → Int32) × (Nat → Nat → Int32) × (Nat → Nat → Int32), fX2_copyFrom my mq mS mR mD (nI u) (nI m) gy gk gS gR gD = some o ∧ o.1 = nI u ∧ o.2.1 = nI m ∧ o.2.2.1 = cpTo my gy m ∧ o.2.2.2.1 = cpTo mq gk m ∧ ∀ j, j < u → ∀ k : Nat, k ≤ 6 → gS j = nI k → o.2.2.2.2.1 j = nI k ∧ o.2.2.2.2.2.1 j = cpTo (mR j) (gR j) k ∧ o.2.2.2.2.2.2 j = cpTo (mD j) (gD j) k := by
  have key : ∀ (a b : Nat), a ≤ 6 → b ≤ 6 → nI a = nI b → a = b := fun a b ha hb h => by rwa [zz_eq (by omega) (by omega)] at h
  have hc : u = 0 ∨ u = 1 ∨ u = 2 ∨ u = 3 ∨ u = 4 ∨ u = 5 ∨ u = 6 ∨ u = 7 ∨ u = 8 ∨ u = 9 ∨ u = 10 := by omega
  unfold fX2_copyFrom
  rcases hc with rfl | rfl | rfl | rfl | rfl | rfl | rfl | rfl | rfl | rfl | rfl
  · have ci : inb (nI 0) 11 = true := by decide
    have eq0 : nI 0 = 0 := rfl
    simp only [ci, ↓reduceIte]
    simp only [eq0, ↓reduceIte, fX2_copyFrom_j0, zz_copy hm, Option.bind_some]
    refine ⟨_, rfl, rfl, rfl, rfl, rfl, fun j hj k hk hg => ?_⟩
    omega
  · obtain ⟨k0, b0, g0⟩ := hs 0 (by omega)
    have ci : inb (nI 1) 11 = true := by decide
    have ne0 : ¬ nI 1 = 0 := by decide
    have eq1 : nI 1 = 1 := rfl
    simp only [ci, ne0, ↓reduceIte]
    simp only [eq1, ↓reduceIte, fX2_copyFrom_j1, zz_copy hm, g0, zz_copy b0, Option.bind_some]
    refine ⟨_, rfl, rfl, rfl, rfl, rfl, fun j hj k hk hg => ?_⟩
    have hj2 : j = 0 := by omega
    rcases hj2 with rfl
    · have ek := key k k0 hk b0 (hg.symm.trans g0)
      subst ek
      simp [va_up]
  · obtain ⟨k0, b0, g0⟩ := hs 0 (by omega)
    obtain ⟨k1, b1, g1⟩ := hs 1 (by omega)
    have ci : inb (nI 2) 11 = true := by decide
    have ne0 : ¬ nI 2 = 0 := by decide
    have ne1 : ¬ nI 2 = 1 := by decide
    have eq2 : nI 2 = 2 := rfl
    simp only [ci, ne0, ne1, ↓reduceIte]
    simp only [eq2, ↓reduceIte, fX2_copyFrom_j2, zz_copy hm, g0, g1, zz_copy b0, zz_copy b1, Option.bind_some]
    refine ⟨_, rfl, rfl, rfl, rfl, rfl, fun j hj k hk hg => ?_⟩
    have hj2 : j = 0 ∨ j = 1 := by omega
    rcases hj2 with rfl | rfl
    · have ek := key k k0 hk b0 (hg.symm.trans g0)
      subst ek
      simp [va_up]
    · have ek := key k k1 hk b1 (hg.symm.trans g1)
      subst ek
      simp [va_up]
  · obtain ⟨k0, b0, g0⟩ := hs 0 (by omega)
    obtain ⟨k1, b1, g1⟩ := hs 1 (by omega)
    obtain ⟨k2, b2, g2⟩ := hs 2 (by omega)
    have ci : inb (nI 3) 11 = true := by decide
    have ne0 : ¬ nI 3 = 0 := by decide
    have ne1 : ¬ nI 3 = 1 := by decide
    have ne2 : ¬ nI 3 = 2 := by decide
    have eq3 : nI 3 = 3 := rfl
    simp only [ci, ne0, ne1, ne2, ↓reduceIte]
    simp only [eq3, ↓reduceIte, fX2_copyFrom_j3, zz_copy hm, g0, g1, g2, zz_copy b0, zz_copy b1, zz_copy b2, Option.bind_some]
    refine ⟨_, rfl, rfl, rfl, rfl, rfl, fun j hj k hk hg => ?_⟩
    have hj2 : j = 0 ∨ j = 1 ∨ j = 2 := by omega
    rcases hj2 with rfl | rfl | rfl
    · have ek := key k k0 hk b0 (hg.symm.trans g0)
      subst ek
      simp [va_up]
    · have ek := key k k1 hk b1 (hg.symm.trans g1)
      subst ek
      simp [va_up]
    · have ek := key k k2 hk b2 (hg.symm.trans g2)
      subst ek
      simp [va_up]
  · obtain ⟨k0, b0, g0⟩ := hs 0 (by omega)
    obtain ⟨k1, b1, g1⟩ := hs 1 (by omega)
    obtain ⟨k2, b2, g2⟩ := hs 2 (by omega)
    obtain ⟨k3, b3, g3⟩ := hs 3 (by omega)
    have ci : inb (nI 4) 11 = true := by decide
    have ne0 : ¬ nI 4 = 0 := by decide
    have ne1 : ¬ nI 4 = 1 := by decide
    have ne2 : ¬ nI 4 = 2 := by decide
    have ne3 : ¬ nI 4 = 3 := by decide
    have eq4 : nI 4 = 4 := rfl
    simp only [ci, ne0, ne1, ne2, ne3, ↓reduceIte]
    simp only [eq4, ↓reduceIte, fX2_copyFrom_j4, zz_copy hm, g0, g1, g2, g3, zz_copy b0, zz_copy b1, zz_copy b2, zz_copy b3, Option.bind_some]
    refine ⟨_, rfl, rfl, rfl, rfl, rfl, fun j hj k hk hg => ?_⟩
    have hj2 : j = 0 ∨ j = 1 ∨ j = 2 ∨ j = 3 := by omega
    rcases hj2 with rfl | rfl | rfl | rfl
    · have ek := key k k0 hk b0 (hg.symm.trans g0)
      subst ek
      simp [va_up]
    · have ek := key k k1 hk b1 (hg.symm.trans g1)
      subst ek
      simp [va_up]
    · have ek := key k k2 hk b2 (hg.symm.trans g2)
      subst ek
      simp [va_up]
    · have ek := key k k3 hk b3 (hg.symm.trans g3)
      subst ek
      simp [va_up]
  · obtain ⟨k0, b0, g0⟩ := hs 0 (by omega)
    obtain ⟨k1, b1, g1⟩ := hs 1 (by omega)
    obtain ⟨k2, b2, g2⟩ := hs 2 (by omega)
    obtain ⟨k3, b3, g3⟩ := hs 3 (by omega)
    obtain ⟨k4, b4, g4⟩ := hs 4 (by omega)
    have ci : inb (nI 5) 11 = true := by decide
    have ne0 : ¬ nI 5 = 0 := by decide
    have ne1 : ¬ nI 5 = 1 := by decide
    have ne2 : ¬ nI 5 = 2 := by decide
    have ne3 : ¬ nI 5 = 3 := by decide
    have ne4 : ¬ nI 5 = 4 := by decide
    have eq5 : nI 5 = 5 := rfl
    simp only [ci, ne0, ne1, ne2, ne3, ne4, ↓reduceIte]
    simp only [eq5, ↓reduceIte, fX2_copyFrom_j5, zz_copy hm, g0, g1, g2, g3, g4, zz_copy b0, zz_copy b1, zz_copy b2, zz_copy b3, zz_copy b4, Option.bind_some]
    refine ⟨_, rfl, rfl, rfl, rfl, rfl, fun j hj k hk hg => ?_⟩
    have hj2 : j = 0 ∨ j = 1 ∨ j = 2 ∨ j = 3 ∨ j = 4 := by omega
    rcases hj2 with rfl | rfl | rfl | rfl | rfl
    · have ek := key k k0 hk b0 (hg.symm.trans g0)
      subst ek
      simp [va_up]
    · have ek := key k k1 hk b1 (hg.symm.trans g1)
      subst ek
      simp [va_up]
    · have ek := key k k2 hk b2 (hg.symm.trans g2)
      subst ek
      simp [va_up]
    · have ek := key k k3 hk b3 (hg.symm.trans g3)
      subst ek
      simp [va_up]
    · have ek := key k k4 hk b4 (hg.symm.trans g4)
      subst ek
      simp [va_up]
  · obtain ⟨k0, b0, g0⟩ := hs 0 (by omega)
    obtain ⟨k1, b1, g1⟩ := hs 1 (by omega)
    obtain ⟨k2, b2, g2⟩ := hs 2 (by omega)
    obtain ⟨k3, b3, g3⟩ := hs 3 (by omega)
    obtain ⟨k4, b4, g4⟩ := hs 4 (by omega)
    obtain ⟨k5, b5, g5⟩ := hs 5 (by omega)
    have ci : inb (nI 6) 11 = true := by decide
    have ne0 : ¬ nI 6 = 0 := by decide
    have ne1 : ¬ nI 6 = 1 := by decide
    have ne2 : ¬ nI 6 = 2 := by decide
    have ne3 : ¬ nI 6 = 3 := by decide
    have ne4 : ¬ nI 6 = 4 := by decide
    have ne5 : ¬ nI 6 = 5 := by decide
    have eq6 : nI 6 = 6 := rfl
    simp only [ci, ne0, ne1, ne2, ne3, ne4, ne5, ↓reduceIte]
    simp only [eq6, ↓reduceIte, fX2_copyFrom_j6, zz_copy hm, g0, g1, g2, g3, g4, g5, zz_copy b0, zz_copy b1, zz_copy b2, zz_copy b3, zz_copy b4, zz_copy b5, Option.bind_some]
    refine ⟨_, rfl, rfl, rfl, rfl, rfl, fun j hj k hk hg => ?_⟩
    have hj2 : j = 0 ∨ j = 1 ∨ j = 2 ∨ j = 3 ∨ j = 4 ∨ j = 5 := by omega
    rcases hj2 with rfl | rfl | rfl | rfl | rfl | rfl
    · have ek := key k k0 hk b0 (hg.symm.trans g0)
      subst ek
      simp [va_up]
    · have ek := key k k1 hk b1 (hg.symm.trans g1)
      subst ek
      simp [va_up]
    · have ek := key k k2 hk b2 (hg.symm.trans g2)
      subst ek
      simp [va_up]
    · have ek := key k k3 hk b3 (hg.symm.trans g3)
      subst ek
      simp [va_up]
    · have ek := key k k4 hk b4 (hg.symm.trans g4)
      subst ek
      simp [va_up]
    · have ek := key k k5 hk b5 (hg.symm.trans g5)
      subst ek
      simp [va_up]
  · obtain ⟨k0, b0, g0⟩ := hs 0 (by omega)
    obtain ⟨k1, b1, g1⟩ := hs 1 (by omega)
    obtain ⟨k2, b2, g2⟩ := hs 2 (by omega)
    obtain ⟨k3, b3, g3⟩ := hs 3 (by omega)
    obtain ⟨k4, b4, g4⟩ := hs 4 (by omega)
    obtain ⟨k5, b5, g5⟩ := hs 5 (by omega)
    obtain ⟨k6, b6, g6⟩ := hs 6 (by omega)
    have ci : inb (nI 7) 11 = true := by decide
    have ne0 : ¬ nI 7 = 0 := by decide
    have ne1 : ¬ nI 7 = 1 := by decide
    have ne2 : ¬ nI 7 = 2 := by decide
    have ne3 : ¬ nI 7 = 3 := by decide
    have ne4 : ¬ nI 7 = 4 := by decide
    have ne5 : ¬ nI 7 = 5 := by decide
    have ne6 : ¬ nI 7 = 6 := by decide
    have eq7 : nI 7 = 7 := rfl
    simp only [ci, ne0, ne1, ne2, ne3, ne4, ne5, ne6, ↓reduceIte]
    simp only [eq7, ↓reduceIte, fX2_copyFrom_j7, zz_copy hm, g0, g1, g2, g3, g4, g5, g6, zz_copy b0, zz_copy b1, zz_copy b2, zz_copy b3, zz_copy b4, zz_copy b5, zz_copy b6, Option.bind_some]
    refine ⟨_, rfl, rfl, rfl, rfl, rfl, fun j hj k hk hg => ?_⟩
    have hj2 : j = 0 ∨ j = 1 ∨ j = 2 ∨ j = 3 ∨ j = 4 ∨ j = 5 ∨ j = 6 := by omega
    rcases hj2 with rfl | rfl | rfl | rfl | rfl | rfl | rfl
    · have ek := key k k0 hk b0 (hg.symm.trans g0)
      subst ek
      simp [va_up]
    · have ek := key k k1 hk b1 (hg.symm.trans g1)
      subst ek
      simp [va_up]
    · have ek := key k k2 hk b2 (hg.symm.trans g2)
      subst ek
      simp [va_up]
    · have ek := key k k3 hk b3 (hg.symm.trans g3)
      subst ek
      simp [va_up]
    · have ek := key k k4 hk b4 (hg.symm.trans g4)
      subst ek
      simp [va_up]
    · have ek := key k k5 hk b5 (hg.symm.trans g5)
      subst ek
      simp [va_up]
    · have ek := key k k6 hk b6 (hg.symm.trans g6)
      subst ek
      simp [va_up]
  · obtain ⟨k0, b0, g0⟩ := hs 0 (by omega)
    obtain ⟨k1, b1, g1⟩ := hs 1 (by omega)
    obtain ⟨k2, b2, g2⟩ := hs 2 (by omega)
    obtain ⟨k3, b3, g3⟩ := hs 3 (by omega)
    obtain ⟨k4, b4, g4⟩ := hs 4 (by omega)
    obtain ⟨k5, b5, g5⟩ := hs 5 (by omega)
    obtain ⟨k6, b6, g6⟩ := hs 6 (by omega)
    obtain ⟨k7, b7, g7⟩ := hs 7 (by omega)
    have ci : inb (nI 8) 11 = true := by decide
    have ne0 : ¬ nI 8 = 0 := by decide
    have ne1 : ¬ nI 8 = 1 := by decide
    have ne2 : ¬ nI 8 = 2 := by decide
    have ne3 : ¬ nI 8 = 3 := by decide
    have ne4 : ¬ nI 8 = 4 := by decide
    have ne5 : ¬ nI 8 = 5 := by decide
    have ne6 : ¬ nI 8 = 6 := by decide
    have ne7 : ¬ nI 8 = 7 := by decide
    have eq8 : nI 8 = 8 := rfl
    simp only [ci, ne0, ne1, ne2, ne3, ne4, ne5, ne6, ne7, ↓reduceIte]
    simp only [eq8, ↓reduceIte, fX2_copyFrom_j8, zz_copy hm, g0, g1, g2, g3, g4, g5, g6, g7, zz_copy b0, zz_copy b1, zz_copy b2, zz_copy b3, zz_copy b4, zz_copy b5, zz_copy b6, zz_copy b7, Option.bind_some]
    refine ⟨_, rfl, rfl, rfl, rfl, rfl, fun j hj k hk hg => ?_⟩
    have hj2 : j = 0 ∨ j = 1 ∨ j = 2 ∨ j = 3 ∨ j = 4 ∨ j = 5 ∨ j = 6 ∨ j = 7 := by omega
    rcases hj2 with rfl | rfl | rfl | rfl | rfl | rfl | rfl | rfl
    · have ek := key k k0 hk b0 (hg.symm.trans g0)
      subst ek
      simp [va_up]
    · have ek := key k k1 hk b1 (hg.symm.trans g1)
      subst ek
      simp [va_up]
    · have ek := key k k2 hk b2 (hg.symm.trans g2)
      subst ek
      simp [va_up]
    · have ek := key k k3 hk b3 (hg.symm.trans g3)
      subst ek
      simp [va_up]
    · have ek := key k k4 hk b4 (hg.symm.trans g4)
      subst ek
      simp [va_up]
    · have ek := key k k5 hk b5 (hg.symm.trans g5)
      subst ek
      simp [va_up]
    · have ek := key k k6 hk b6 (hg.symm.trans g6)
      subst ek
      simp [va_up]
    · have ek := key k k7 hk b7 (hg.symm.trans g7)
      subst ek
      simp [va_up]
  · obtain ⟨k0, b0, g0⟩ := hs 0 (by omega)
    obtain ⟨k1, b1, g1⟩ := hs 1 (by omega)
    obtain ⟨k2, b2, g2⟩ := hs 2 (by omega)
    obtain ⟨k3, b3, g3⟩ := hs 3 (by omega)
    obtain ⟨k4, b4, g4⟩ := hs 4 (by omega)
    obtain ⟨k5, b5, g5⟩ := hs 5 (by omega)
    obtain ⟨k6, b6, g6⟩ := hs 6 (by omega)
    obtain ⟨k7, b7, g7⟩ := hs 7 (by omega)
    obtain ⟨k8, b8, g8⟩ := hs 8 (by omega)
    have ci : inb (nI 9) 11 = true := by decide
    have ne0 : ¬ nI 9 = 0 := by decide
    have ne1 : ¬ nI 9 = 1 := by decide
    have ne2 : ¬ nI 9 = 2 := by decide
    have ne3 : ¬ nI 9 = 3 := by decide
    have ne4 : ¬ nI 9 = 4 := by decide
    have ne5 : ¬ nI 9 = 5 := by decide
    have ne6 : ¬ nI 9 = 6 := by decide
    have ne7 : ¬ nI 9 = 7 := by decide
    have ne8 : ¬ nI 9 = 8 := by decide
    have eq9 : nI 9 = 9 := rfl
    simp only [ci, ne0, ne1, ne2, ne3, ne4, ne5, ne6, ne7, ne8, ↓reduceIte]
    simp only [eq9, ↓reduceIte, fX2_copyFrom_j9, zz_copy hm, g0, g1, g2, g3, g4, g5, g6, g7, g8, zz_copy b0, zz_copy b1, zz_copy b2, zz_copy b3, zz_copy b4, zz_copy b5, zz_copy b6, zz_copy b7, zz_copy b8, Option.bind_some]
    refine ⟨_, rfl, rfl, rfl, rfl, rfl, fun j hj k hk hg => ?_⟩
    have hj2 : j = 0 ∨ j = 1 ∨ j = 2 ∨ j = 3 ∨ j = 4 ∨ j = 5 ∨ j = 6 ∨ j = 7 ∨ j = 8 := by omega
    rcases hj2 with rfl | rfl | rfl | rfl | rfl | rfl | rfl | rfl | rfl
    · have ek := key k k0 hk b0 (hg.symm.trans g0)
      subst ek
      simp [va_up]
    · have ek := key k k1 hk b1 (hg.symm.trans g1)
      subst ek
      simp [va_up]
    · have ek := key k k2 hk b2 (hg.symm.trans g2)
      subst ek
      simp [va_up]
    · have ek := key k k3 hk b3 (hg.symm.trans g3)
      subst ek
      simp [va_up]
    · have ek := key k k4 hk b4 (hg.symm.trans g4)
      subst ek
      simp [va_up]
    · have ek := key k k5 hk b5 (hg.symm.trans g5)
      subst ek
      simp [va_up]
    · have ek := key k k6 hk b6 (hg.symm.trans g6)
      subst ek
      simp [va_up]
    · have ek := key k k7 hk b7 (hg.symm.trans g7)
      subst ek
      simp [va_up]
    · have ek := key k k8 hk b8 (hg.symm.trans g8)
      subst ek
      simp [va_up]
  · obtain ⟨k0, b0, g0⟩ := hs 0 (by omega)
    obtain ⟨k1, b1, g1⟩ := hs 1 (by omega)
    obtain ⟨k2, b2, g2⟩ := hs 2 (by omega)
    obtain ⟨k3, b3, g3⟩ := hs 3 (by omega)
    obtain ⟨k4, b4, g4⟩ := hs 4 (by omega)
    obtain ⟨k5, b5, g5⟩ := hs 5 (by omega)
    obtain ⟨k6, b6, g6⟩ := hs 6 (by omega)
    obtain ⟨k7, b7, g7⟩ := hs 7 (by omega)
    obtain ⟨k8, b8, g8⟩ := hs 8 (by omega)
    obtain ⟨k9, b9, g9⟩ := hs 9 (by omega)
    have ci : inb (nI 10) 11 = true := by decide
    have ne0 : ¬ nI 10 = 0 := by decide
    have ne1 : ¬ nI 10 = 1 := by decide
    have ne2 : ¬ nI 10 = 2 := by decide
    have ne3 : ¬ nI 10 = 3 := by decide
    have ne4 : ¬ nI 10 = 4 := by decide
    have ne5 : ¬ nI 10 = 5 := by decide
    have ne6 : ¬ nI 10 = 6 := by decide
    have ne7 : ¬ nI 10 = 7 := by decide
    have ne8 : ¬ nI 10 = 8 := by decide
    have ne9 : ¬ nI 10 = 9 := by decide
    have eq10 : nI 10 = 10 := rfl
    simp only [ci, ne0, ne1, ne2, ne3, ne4, ne5, ne6, ne7, ne8, ne9, ↓reduceIte]
    simp only [eq10, ↓reduceIte, fX2_copyFrom_j10, zz_copy hm, g0, g1, g2, g3, g4, g5, g6, g7, g8, g9, zz_copy b0, zz_copy b1, zz_copy b2, zz_copy b3, zz_copy b4, zz_copy b5, zz_copy b6, zz_copy b7, zz_copy b8, zz_copy b9, Option.bind_some]
    refine ⟨_, rfl, rfl, rfl, rfl, rfl, fun j hj k hk hg => ?_⟩
    have hj2 : j = 0 ∨ j = 1 ∨ j = 2 ∨ j = 3 ∨ j = 4 ∨ j = 5 ∨ j = 6 ∨ j = 7 ∨ j = 8 ∨ j = 9 := by omega
    rcases hj2 with rfl | rfl | rfl | rfl | rfl | rfl | rfl | rfl | rfl | rfl
    · have ek := key k k0 hk b0 (hg.symm.trans g0)
      subst ek
      simp [va_up]
    · have ek := key k k1 hk b1 (hg.symm.trans g1)
      subst ek
      simp [va_up]
    · have ek := key k k2 hk b2 (hg.symm.trans g2)
      subst ek
      simp [va_up]
    · have ek := key k k3 hk b3 (hg.symm.trans g3)
      subst ek
      simp [va_up]
    · have ek := key k k4 hk b4 (hg.symm.trans g4)
      subst ek
      simp [va_up]
    · have ek := key k k5 hk b5 (hg.symm.trans g5)
      subst ek
      simp [va_up]
    · have ek := key k k6 hk b6 (hg.symm.trans g6)
      subst ek
      simp [va_up]
    · have ek := key k k7 hk b7 (hg.symm.trans g7)
      subst ek
      simp [va_up]
    · have ek := key k k8 hk b8 (hg.symm.trans g8)
      subst ek
      simp [va_up]
    · have ek := key k k9 hk b9 (hg.symm.trans g9)
      subst ek
      simp [va_up]
