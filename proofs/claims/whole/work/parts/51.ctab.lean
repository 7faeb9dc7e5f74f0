/-! The class's two tables: who one is a year on; who one is behind a year's deeds. -/
def tabY (C : Nat → Nat) (f : Nat → Int32) : Prop := ∀ s v, s < C 1 → v < 3 → f (3 * s + v) = nI (cBec C s v)
def tabD (C : Nat → Nat) (m : Nat) (E : Nat → Nat) (f : Nat → Int32) : Prop := ∀ y s, y < C 0 → s < C 1 → f (6 * y + s) = nI (cDee C E y m s)
theorem zz_prepS {C : Nat → Nat} {ty ts tb tt td tq : Int32} {tl tz tc tY tA tB tF tG gl : Nat → Int32} {s : Nat} (h : IC C ty ts tb tt td tq tl tz tc tY tA tB tF tG gl) (hs : s < C 1) (f g : Nat → Int32) : ∃ (f' g' : Nat → Int32), fX3_prepareState (nI s) f g ty ts tc = some (f', g') ∧ (∀ v, v < 3 → f' (3 * s + v) = nI (cBec C s v)) ∧ (∀ i, (i < 3 * s ∨ 3 * s + 3 ≤ i) → f' i = f i) ∧ (∀ y, y < C 0 → g' (6 * y + s) = nI s) ∧ (∀ y z, z < 6 → z ≠ s → g' (6 * y + z) = g (6 * y + z)) := by
  obtain ⟨hO, hl, rfl, rfl, -, -, -, -, hst, -, -⟩ := h
  have hS6 : C 1 ≤ 6 := hO.2.2.1
  have hY16 : C 0 ≤ 16 := hO.2.1
  have hss := hO.2.2.2.2.2.2.2.2.1
  unfold fX3_prepareState
  have l1 : lpd (fun s1 => sX3_prepareState_2 (nI s) (nI (C 1)) tc s1.1 s1.2) FU (0, f) = some (atTo (3 * s) f (fun v => nI (cBec C s v)) 3) := by
    have h := zz_lp (st := fun s1 => sX3_prepareState_2 (nI s) (nI (C 1)) tc s1.1 s1.2) 3 0 (fun k => atTo (3 * s) f (fun v => nI (cBec C s v)) k) (by omega) (fun k hk => ?_) ?_
    · rw [atTo_0] at h
      exact h
    · dsimp only
      unfold sX3_prepareState_2
      have c1 : ¬ (3 : Int32) ≤ nI (0 + k) := by rw [zz_3, zz_le (by omega) (by omega)]; omega
      have e1 : nI s * 3 + nI (0 + k) = nI (3 * s + k) := by rw [zz_3, zz_mul, zz_add]; congr 1; omega
      have c2 : inb (nI (3 * s + k)) 18 = true := by rw [zz_inbt (by omega)]; omega
      have hb := (hst s hs).2.2 k hk
      have hb5 := (hss s hs).2.2 k hk
      simp only [jn, c1, e1, c2, zz_cl (show 3 * s + k < 2147483648 by omega), hb, zz_le (show C 1 < 2147483648 by omega) (show C (10 + 5 * s + k) < 2147483648 by omega), ↓reduceIte]
      have ea := atTo_s (3 * s) f (fun v => nI (cBec C s v)) k
      unfold cBec at ea ⊢
      by_cases a1 : C 1 ≤ C (10 + 5 * s + k)
      · have a2 : ¬ C (10 + 5 * s + k) < C 1 := by omega
        simp only [a2, ↓reduceIte] at ea
        simp only [a1, ↓reduceIte]
        rw [ea, zz_1, zz_add]
      · have a2 : C (10 + 5 * s + k) < C 1 := by omega
        simp only [a2, ↓reduceIte] at ea
        simp only [a1, ↓reduceIte]
        rw [ea, zz_1, zz_add]
    · rfl
  have l2 : ∃ g', lpd (fun s2 => sX3_prepareState_55 (nI s) (nI (C 0)) s2.1 s2.2) FU (0, g) = some g' ∧ (∀ y, y < C 0 → g' (6 * y + s) = nI s) ∧ (∀ y z, z < 6 → z ≠ s → g' (6 * y + z) = g (6 * y + z)) := by
    have h := zz_lp (st := fun s2 => sX3_prepareState_55 (nI s) (nI (C 0)) s2.1 s2.2) (C 0) 0 (fun k => fun i => if i % 6 = s ∧ i / 6 < k then nI s else g i) (by omega) (fun k hk => ?_) ?_
    · have e0 : (fun i => if i % 6 = s ∧ i / 6 < 0 then nI s else g i) = g := by funext i; rw [if_neg (by omega)]
      rw [e0] at h
      refine ⟨_, h, fun y hy => ?_, fun y z hz hzs => ?_⟩
      · rw [if_pos (by omega)]
      · rw [if_neg (by omega)]
    · dsimp only
      unfold sX3_prepareState_55
      have c1 : ¬ nI (C 0) ≤ nI (0 + k) := by rw [zz_le (by omega) (by omega)]; omega
      have e1 : nI (0 + k) * 6 + nI s = nI (6 * k + s) := by rw [zz_6, zz_mul, zz_add]; congr 1; omega
      have c2 : inb (nI (6 * k + s)) 96 = true := by rw [zz_inbt (by omega)]; omega
      simp only [c1, e1, c2, zz_cl (show 6 * k + s < 2147483648 by omega), ↓reduceIte]
      rw [zz_1, zz_add]
      congr 3
      funext i
      unfold upd
      by_cases hi : i = 6 * k + s
      · rw [if_pos hi, if_pos (by omega)]
      · rw [if_neg hi]
        dsimp only
        by_cases h2 : i % 6 = s ∧ i / 6 < k
        · rw [if_pos h2, if_pos (by omega)]
        · rw [if_neg h2, if_neg (by omega)]
    · dsimp only
      unfold sX3_prepareState_55
      have c1 : nI (C 0) ≤ nI (0 + C 0) := by rw [zz_le (by omega) (by omega)]; omega
      simp only [c1, ↓reduceIte]
  obtain ⟨g', e2, q1, q2⟩ := l2
  refine ⟨_, g', by rw [l1, Option.bind_some, e2]; rfl, fun v hv => ?_, fun i hi => ?_, q1, q2⟩
  · unfold atTo
    rw [if_pos (by omega), show 3 * s + v - 3 * s = v by omega]
  · unfold atTo
    rw [if_neg (by omega)]
theorem zz_addD {C : Nat → Nat} {ty ts tb tt td tq : Int32} {tl tz tc tY tA tB tF tG gl : Nat → Int32} {y d : Nat} (h : IC C ty ts tb tt td tq tl tz tc tY tA tB tF tG gl) (hy : y < C 0) (hd : d < C 5) (g : Nat → Int32) (G : Nat → Nat → Nat) (hg : ∀ y s, y < C 0 → s < C 1 → g (6 * y + s) = nI (G y s)) (hG : ∀ y s, y < C 0 → s < C 1 → G y s < C 1) : ∃ g', fX3_addDeed (nI y) (nI d) g ts tF tG = some g' ∧ (∀ z s, z < C 0 → s < C 1 → g' (6 * z + s) = nI (if z = y ∧ C (47 + 2 * d) = G z s ∧ C (48 + 2 * d) < C 1 then C (48 + 2 * d) else G z s)) ∧ (∀ i, (i < 6 * y ∨ 6 * y + 6 ≤ i) → g' i = g i) := by
  obtain ⟨hO, hl, rfl, rfl, -, -, -, -, -, -, hde⟩ := h
  have hS6 : C 1 ≤ 6 := hO.2.2.1
  have hY16 : C 0 ≤ 16 := hO.2.1
  have hD4 : C 5 ≤ 4 := hO.2.2.2.2.2.2.2.1
  obtain ⟨w1, w2⟩ := hO.2.2.2.2.2.2.2.2.2.2.2 d hd
  obtain ⟨f1, f2⟩ := hde d hd
  unfold fX3_addDeed
  have c0 : inb (nI d) 4 = true := by rw [zz_inbt (by omega)]; omega
  simp only [c0, zz_cl (show d < 2147483648 by omega), f1, f2, zz_lt (show C (48 + 2 * d) < 2147483648 by omega) (show C 1 < 2147483648 by omega), ↓reduceIte]
  by_cases a1 : C (48 + 2 * d) < C 1
  · simp only [a1, ↓reduceIte]
    have h := zz_lp (st := fun s4 => sX3_addDeed_37 (nI y) (nI (C (47 + 2 * d))) (nI (C (48 + 2 * d))) (nI (C 1)) s4.1 s4.2) (C 1) 0 (fun k => fun i => if 6 * y ≤ i ∧ i < 6 * y + k ∧ C (47 + 2 * d) = G y (i - 6 * y) then nI (C (48 + 2 * d)) else g i) (by omega) (fun k hk => ?_) ?_
    · have e0 : (fun i => if 6 * y ≤ i ∧ i < 6 * y + 0 ∧ C (47 + 2 * d) = G y (i - 6 * y) then nI (C (48 + 2 * d)) else g i) = g := by funext i; rw [if_neg (by omega)]
      rw [e0] at h
      refine ⟨_, by rw [zz_0, h]; rfl, fun z s hz hs => ?_, fun i hi => ?_⟩
      · by_cases hzy : z = y
        · subst hzy
          rw [show 6 * z + s - 6 * z = s by omega]
          by_cases hq : C (47 + 2 * d) = G z s
          · rw [if_pos ⟨by omega, by omega, hq⟩, if_pos ⟨rfl, hq, trivial⟩]
          · rw [if_neg (fun h => hq h.2.2), if_neg (fun h => hq h.2.1)]
            exact hg z s hz hs
        · rw [if_neg (by omega), if_neg (fun h => hzy h.1)]
          exact hg z s hz hs
      · rw [if_neg (by omega)]
    · dsimp only
      unfold sX3_addDeed_37
      have c1 : ¬ nI (C 1) ≤ nI (0 + k) := by rw [zz_le (by omega) (by omega)]; omega
      have e1 : nI y * 6 + nI (0 + k) = nI (6 * y + k) := by rw [zz_6, zz_mul, zz_add]; congr 1; omega
      have c2 : inb (nI (6 * y + k)) 96 = true := by rw [zz_inbt (by omega)]; omega
      have eg : (if 6 * y ≤ 6 * y + k ∧ 6 * y + k < 6 * y + k ∧ C (47 + 2 * d) = G y (6 * y + k - 6 * y) then nI (C (48 + 2 * d)) else g (6 * y + k)) = nI (G y k) := by
        rw [if_neg (by omega)]
        exact hg y k hy hk
      have hGk := hG y k hy hk
      simp only [c1, e1, c2, zz_cl (show 6 * y + k < 2147483648 by omega), eg, zz_eq (show G y k < 2147483648 by omega) (show C (47 + 2 * d) < 2147483648 by omega), ↓reduceIte]
      by_cases a2 : G y k = C (47 + 2 * d)
      · simp only [a2, ↓reduceIte]
        rw [zz_1, zz_add]
        congr 3
        funext i
        unfold upd
        by_cases hi : i = 6 * y + k
        · subst hi
          rw [if_pos rfl, if_pos ⟨by omega, by omega, by rw [show 6 * y + k - 6 * y = k by omega]; exact a2.symm⟩]
        · rw [if_neg hi]
          dsimp only
          by_cases h2 : 6 * y ≤ i ∧ i < 6 * y + k ∧ C (47 + 2 * d) = G y (i - 6 * y)
          · rw [if_pos h2, if_pos ⟨h2.1, by omega, h2.2.2⟩]
          · rw [if_neg h2, if_neg (fun h => h2 ⟨h.1, by omega, h.2.2⟩)]
      · simp only [a2, ↓reduceIte]
        rw [zz_1, zz_add]
        congr 3
        funext i
        by_cases h2 : 6 * y ≤ i ∧ i < 6 * y + k ∧ C (47 + 2 * d) = G y (i - 6 * y)
        · rw [if_pos h2, if_pos ⟨h2.1, by omega, h2.2.2⟩]
        · rw [if_neg h2, if_neg (fun h => by
            by_cases hi : i = 6 * y + k
            · have := h.2.2
              rw [hi, show 6 * y + k - 6 * y = k by omega] at this
              exact a2 this.symm
            · exact h2 ⟨h.1, by omega, h.2.2⟩)]
    · dsimp only
      unfold sX3_addDeed_37
      have c1 : nI (C 1) ≤ nI (0 + C 1) := by rw [zz_le (by omega) (by omega)]; omega
      simp only [c1, ↓reduceIte]
  · simp only [a1, ↓reduceIte]
    refine ⟨g, rfl, fun z s hz hs => ?_, fun _ _ => rfl⟩
    rw [if_neg (fun h => h.2.2)]
    exact hg z s hz hs
