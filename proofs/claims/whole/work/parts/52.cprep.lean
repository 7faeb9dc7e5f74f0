/-! The class prepares its tables. -/
theorem lpd_ex {σ ε : Type} {st : σ → Option (σ ⊕ ε)} {P : ε → Prop} (I : Nat → σ → Prop) (n : Nat) (hn : n < 100000) (s0 : σ) (h0 : I 0 s0) (hs : ∀ k s, k < n → I k s → ∃ s', st s = some (.inl s') ∧ I (k + 1) s') (he : ∀ s, I n s → ∃ e, st s = some (.inr e) ∧ P e) : ∃ e, lpd st FU s0 = some e ∧ P e := by
  have key : ∀ (d k : Nat) (s : σ) (f : Nat), k + d = n → d < f → I k s → ∃ e, lpd st f s = some e ∧ P e := by
    intro d
    induction d with
    | zero =>
      intro k s f hk hf hI
      obtain ⟨f, rfl⟩ : ∃ q, f = q + 1 := ⟨f - 1, by omega⟩
      obtain ⟨e, h1, h2⟩ := he s (by rw [← hk]; exact hI)
      refine ⟨e, ?_, h2⟩
      show (st s).bind _ = _
      rw [h1]; rfl
    | succ d ih =>
      intro k s f hk hf hI
      obtain ⟨f, rfl⟩ : ∃ q, f = q + 1 := ⟨f - 1, by omega⟩
      obtain ⟨s', h1, h2⟩ := hs k s (by omega) hI
      obtain ⟨e, h3, h4⟩ := ih (k + 1) s' f (by omega) (by omega) h2
      refine ⟨e, ?_, h4⟩
      show (st s).bind _ = _
      rw [h1]; exact h3
  exact key n 0 s0 FU (by omega) (FU_lt hn) h0
theorem zz_prep {C : Nat → Nat} {m : Nat} {E : Nat → Nat} {ty ts tb tt td tq ds gn : Int32} {tl tz tc tY tA tB tF tG gl dy dk gd : Nat → Int32} (h : IC C ty ts tb tt td tq tl tz tc tY tA tB tF tG gl) (hN : HN C m E ds dy dk gn gd) (f g : Nat → Int32) : ∃ f' g', fX3_prepare f g ty ts tb tq tc tF tG ds dy dk = some (nI (cBeg C), nI (C 4), f', g') ∧ tabY C f' ∧ tabD C m E g' := by
  have hIC := h
  have hb := zz_begC h
  obtain ⟨hO, hl, ety, ets, etb, ett, etd, etq, hst, htr, hde⟩ := h
  have hS6 : C 1 ≤ 6 := hO.2.2.1
  have hY16 : C 0 ≤ 16 := hO.2.1
  obtain ⟨hm, hE, eds, egn, hd, hg⟩ := hN
  unfold fX3_prepare
  rw [hb, Option.bind_some]
  have l1 : ∃ q : (Nat → Int32) × (Nat → Int32), lpd (fun s2 => sX3_prepare_29 ty ts tc s2.1 s2.2.1 s2.2.2) FU (0, f, g) = some q ∧ (tabY C q.1 ∧ tabD C 0 E q.2) := by
    refine lpd_ex (fun k s => s.1 = nI k ∧ (∀ s' v, s' < k → v < 3 → s.2.1 (3 * s' + v) = nI (cBec C s' v)) ∧ (∀ y s', y < C 0 → s' < k → s.2.2 (6 * y + s') = nI s')) (C 1) (by omega) (0, f, g) ⟨rfl, fun s' v h => by omega, fun y s' _ h => by omega⟩ (fun k s hk hI => ?_) (fun s hI => ?_)
    · obtain ⟨i1, i2, i3⟩ := hI
      obtain ⟨f1, g1, e1, q1, q2, q3, q4⟩ := zz_prepS hIC hk s.2.1 s.2.2
      have c1 : ¬ nI (C 1) ≤ nI k := by rw [zz_le (by omega) (by omega)]; omega
      refine ⟨(nI k + 1, f1, g1), ?_, by dsimp only; rw [zz_1, zz_add], fun s' v hs' hv => ?_, fun y s' hy hs' => ?_⟩
      · unfold sX3_prepare_29
        rw [ets] at e1 ⊢
        simp only [i1, c1, e1, Option.bind_some, ↓reduceIte]
      · dsimp only
        by_cases hsk : s' = k
        · subst hsk; exact q1 v hv
        · rw [q2 _ (by omega)]
          exact i2 s' v (by omega) hv
      · dsimp only
        by_cases hsk : s' = k
        · subst hsk; exact q3 y hy
        · rw [q4 y s' (by omega) hsk]
          exact i3 y s' hy (by omega)
    · obtain ⟨i1, i2, i3⟩ := hI
      have c1 : nI (C 1) ≤ nI (C 1) := by rw [zz_le (by omega) (by omega)]; omega
      refine ⟨(s.2.1, s.2.2), ?_, fun s' v hs' hv => i2 s' v hs' hv, fun y s' hy hs' => i3 y s' hy hs'⟩
      unfold sX3_prepare_29
      simp only [i1, ets, c1, ↓reduceIte]
  obtain ⟨q, eq, hY, hD⟩ := l1
  rw [eq, Option.bind_some]
  have l2 : ∃ g', lpd (fun s3 => sX3_prepare_53 ts tF tG ds dy dk s3.1 s3.2) FU (0, q.2) = some g' ∧ tabD C m E g' := by
    refine lpd_ex (fun k s => s.1 = nI k ∧ tabD C k E s.2) m (by omega) (0, q.2) ⟨rfl, hD⟩ (fun k s hk hI => ?_) (fun s hI => ?_)
    · obtain ⟨i1, i2⟩ := hI
      obtain ⟨y1, y2⟩ := hE k hk
      obtain ⟨d1, d2⟩ := hd k hk
      obtain ⟨g1, e1, q1, q2⟩ := zz_addD hIC y1 y2 s.2 (fun y s => cDee C E y k s) i2 (fun y s _ hs => cDee_lt hs k)
      have c1 : ¬ nI m ≤ nI k := by rw [zz_le (by omega) (by omega)]; omega
      have c2 : inb (nI k) 6 = true := by rw [zz_inbt (by omega)]; omega
      refine ⟨(nI k + 1, g1), ?_, by dsimp only; rw [zz_1, zz_add], fun y s' hy hs' => ?_⟩
      · unfold sX3_prepare_53
        simp only [i1, eds, c1, c2, zz_cl (show k < 2147483648 by omega), d1, d2, e1, Option.bind_some, ↓reduceIte]
      · dsimp only
        rw [q1 y s' hy hs']
        congr 1
        rw [show cDee C E y (k + 1) s' = if E (2 * k) = y ∧ C (47 + 2 * E (2 * k + 1)) = cDee C E y k s' ∧ C (48 + 2 * E (2 * k + 1)) < C 1 then C (48 + 2 * E (2 * k + 1)) else cDee C E y k s' from rfl]
        by_cases a1 : E (2 * k) = y
        · subst a1
          simp only [true_and]
        · have a2 : ¬ y = E (2 * k) := fun h => a1 h.symm
          simp only [a1, a2, false_and, ↓reduceIte]
    · obtain ⟨i1, i2⟩ := hI
      have c1 : nI m ≤ nI m := by rw [zz_le (by omega) (by omega)]; omega
      refine ⟨s.2, ?_, i2⟩
      unfold sX3_prepare_53
      simp only [i1, eds, c1, ↓reduceIte]
  obtain ⟨g', eg', hD'⟩ := l2
  exact ⟨q.1, g', by rw [eg', Option.bind_some, etq], hY, hD'⟩
