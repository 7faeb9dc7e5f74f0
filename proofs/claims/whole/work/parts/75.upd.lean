/-! court: what an item changes. -/
def cUp (C : Nat → Nat) (k v : Nat) : Nat → Nat := fun j => if j = k then v else C j
theorem cUp_s {C : Nat → Nat} {k v : Nat} : cUp C k v k = v := if_pos rfl
theorem cUp_n {C : Nat → Nat} {k v j : Nat} (h : j ≠ k) : cUp C k v j = C j := if_neg h
theorem upd_cUp {g : Nat → Int32} {C : Nat → Nat} (h : ∀ i, i < 55 → g i = nI (C i)) (k v : Nat) : ∀ i, i < 55 → upd g k (nI v) i = nI (cUp C k v i) := by
  intro i hi
  by_cases c : i = k
  · subst c; rw [pk_us, cUp_s]
  · rw [pk_un c, cUp_n c]; exact h i hi
theorem OKC.sc {C C' : Nat → Nat} (h : OKC C) (hs : ∀ j, j ≠ 0 → j ≠ 2 → j ≠ 4 → j ≠ 6 → C' j = C j) (h0 : 2 ≤ C' 0 ∧ C' 0 ≤ 16) (hy : C' 0 = C 0 ∨ C 3 = 0) (h2 : C' 2 ≤ 5) (h4 : 1 ≤ C' 4 ∧ C' 4 ≤ 9) : OKC C' := by
  obtain ⟨a1, a2, a3, a4, a5, a6, a7, a8, a9, a10, a11, a12⟩ := h
  have e1 := hs 1 (by omega) (by omega) (by omega) (by omega)
  have e3 := hs 3 (by omega) (by omega) (by omega) (by omega)
  have e5 := hs 5 (by omega) (by omega) (by omega) (by omega)
  refine ⟨h0.1, h0.2, by rw [e1]; exact a3, h2, by rw [e3]; exact a5, h4.1, h4.2, by rw [e5]; exact a8, fun s hs' => ?_, fun t ht => ?_, fun t ht => ?_, fun k hk => ?_⟩
  · rw [e1] at hs'
    obtain ⟨x, y, z⟩ := a9 s hs'
    rw [hs (8 + 5 * s) (by omega) (by omega) (by omega) (by omega), hs (9 + 5 * s) (by omega) (by omega) (by omega) (by omega)]
    refine ⟨x, y, fun v hv => ?_⟩
    rw [hs (10 + 5 * s + v) (by omega) (by omega) (by omega) (by omega)]
    exact z v hv
  · rw [e3] at ht
    obtain ⟨x, y, z⟩ := a10 t ht
    rw [hs (38 + 3 * t) (by omega) (by omega) (by omega) (by omega), hs (39 + 3 * t) (by omega) (by omega) (by omega) (by omega), hs (40 + 3 * t) (by omega) (by omega) (by omega) (by omega)]
    refine ⟨x, y, ?_⟩
    rcases hy with hy | hy
    · rw [hy]; exact z
    · omega
  · rw [e3] at ht
    rw [hs (38 + 3 * t) (by omega) (by omega) (by omega) (by omega), hs (41 + 3 * t) (by omega) (by omega) (by omega) (by omega)]
    exact a11 t ht
  · rw [e5] at hk
    rw [hs (47 + 2 * k) (by omega) (by omega) (by omega) (by omega), hs (48 + 2 * k) (by omega) (by omega) (by omega) (by omega)]
    exact a12 k hk
theorem IC.sc {C C' : Nat → Nat} {ty ts tb tt td tq : Int32} {tl tz tc tY tA tB tF tG gl gl' : Nat → Int32} (h : IC C ty ts tb tt td tq tl tz tc tY tA tB tF tG gl) (hs : ∀ j, j ≠ 0 → j ≠ 2 → j ≠ 4 → j ≠ 6 → C' j = C j) (h0 : 2 ≤ C' 0 ∧ C' 0 ≤ 16) (hy : C' 0 = C 0 ∨ C 3 = 0) (h2 : C' 2 ≤ 5) (h4 : 1 ≤ C' 4 ∧ C' 4 ≤ 9) (hgl : ∀ i, i < 55 → gl' i = nI (C' i)) : IC C' (nI (C' 0)) ts (nI (C' 2)) tt td (nI (C' 4)) tl tz tc tY tA tB tF tG gl' := by
  obtain ⟨hO, hl, ety, ets, etb, ett, etd, etq, hst, htr, hde⟩ := h
  have e1 := hs 1 (by omega) (by omega) (by omega) (by omega)
  have e3 := hs 3 (by omega) (by omega) (by omega) (by omega)
  have e5 := hs 5 (by omega) (by omega) (by omega) (by omega)
  refine ⟨OKC.sc hO hs h0 hy h2 h4, hgl, rfl, by rw [e1]; exact ets, rfl, by rw [e3]; exact ett, by rw [e5]; exact etd, rfl, fun s hs' => ?_, fun t ht => ?_, fun k hk => ?_⟩
  · rw [e1] at hs'
    obtain ⟨x, y, z⟩ := hst s hs'
    rw [hs (8 + 5 * s) (by omega) (by omega) (by omega) (by omega), hs (9 + 5 * s) (by omega) (by omega) (by omega) (by omega)]
    refine ⟨x, y, fun v hv => ?_⟩
    rw [hs (10 + 5 * s + v) (by omega) (by omega) (by omega) (by omega)]
    exact z v hv
  · rw [e3] at ht
    rw [hs (38 + 3 * t) (by omega) (by omega) (by omega) (by omega), hs (39 + 3 * t) (by omega) (by omega) (by omega) (by omega), hs (40 + 3 * t) (by omega) (by omega) (by omega) (by omega)]
    exact htr t ht
  · rw [e5] at hk
    rw [hs (47 + 2 * k) (by omega) (by omega) (by omega) (by omega), hs (48 + 2 * k) (by omega) (by omega) (by omega) (by omega)]
    exact hde k hk
theorem IC.st {C C' w : Nat → Nat} {ty ts tb tt td tq : Int32} {tl tz tc tY tA tB tF tG gl gl' nums : Nat → Int32} (h : IC C ty ts tb tt td tq tl tz tc tY tA tB tF tG gl) (h6 : C 1 < 6) (w0 : w 0 ≤ 18) (w1 : w 1 ≤ 1) (w2 : ∀ i, i < 3 → w (2 + i) ≤ 5) (hn : ∀ i, i < 5 → nums i = nI (w i)) (hA : ∀ i, i < 5 → C' (8 + 5 * C 1 + i) = w i) (hB : ∀ j, j ≠ 1 → (j < 8 + 5 * C 1 ∨ 8 + 5 * C 1 + 5 ≤ j) → C' j = C j) (hC : C' 1 = C 1 + 1) (hgl : ∀ i, i < 55 → gl' i = nI (C' i)) : IC C' ty (nI (C 1 + 1)) tb tt td tq (upd tl (C 1) (nums 0 - 9)) (upd tz (C 1) (nums 1)) (atTo (3 * C 1) tc (fun v => nums (2 + v)) 3) tY tA tB tF tG gl' := by
  obtain ⟨⟨a1, a2, a3, a4, a5, a6, a7, a8, a9, a10, a11, a12⟩, hl, ety, ets, etb, ett, etd, etq, hst, htr, hde⟩ := h
  have e0 := hB 0 (by omega) (by omega)
  have e2 := hB 2 (by omega) (by omega)
  have e3 := hB 3 (by omega) (by omega)
  have e4 := hB 4 (by omega) (by omega)
  have e5 := hB 5 (by omega) (by omega)
  have eA := hA 0 (by omega)
  have eB := hA 1 (by omega)
  rw [show 8 + 5 * C 1 + 0 = 8 + 5 * C 1 by omega] at eA
  rw [show 8 + 5 * C 1 + 1 = 9 + 5 * C 1 by omega] at eB
  have eV : ∀ v, v < 3 → C' (10 + 5 * C 1 + v) = w (2 + v) := fun v hv => by
    have := hA (2 + v) (by omega)
    rw [show 8 + 5 * C 1 + (2 + v) = 10 + 5 * C 1 + v by omega] at this
    exact this
  have hO' : OKC C' := by
    refine ⟨by rw [e0]; exact a1, by rw [e0]; exact a2, by rw [hC]; omega, by rw [e2]; exact a4, by rw [e3]; exact a5, by rw [e4]; exact a6, by rw [e4]; exact a7, by rw [e5]; exact a8, fun s hs => ?_, fun t ht => ?_, fun t ht => ?_, fun k hk => ?_⟩
    · by_cases c : s = C 1
      · subst c
        rw [eA, eB]
        refine ⟨w0, w1, fun v hv => ?_⟩
        rw [eV v hv]
        exact w2 v hv
      · obtain ⟨x, y, z⟩ := a9 s (by omega)
        rw [hB (8 + 5 * s) (by omega) (by omega), hB (9 + 5 * s) (by omega) (by omega)]
        refine ⟨x, y, fun v hv => ?_⟩
        rw [hB (10 + 5 * s + v) (by omega) (by omega)]
        exact z v hv
    · rw [e3] at ht
      rw [hB (38 + 3 * t) (by omega) (by omega), hB (39 + 3 * t) (by omega) (by omega), hB (40 + 3 * t) (by omega) (by omega), e0]
      exact a10 t ht
    · rw [e3] at ht
      rw [hB (38 + 3 * t) (by omega) (by omega), hB (41 + 3 * t) (by omega) (by omega)]
      exact a11 t ht
    · rw [e5] at hk
      rw [hB (47 + 2 * k) (by omega) (by omega), hB (48 + 2 * k) (by omega) (by omega)]
      exact a12 k hk
  refine ⟨hO', hgl, by rw [e0]; exact ety, by rw [hC], by rw [e2]; exact etb, by rw [e3]; exact ett, by rw [e5]; exact etd, by rw [e4]; exact etq, fun s hs => ?_, fun t ht => ?_, fun k hk => ?_⟩
  · by_cases c : s = C 1
    · subst c
      rw [eA, eB, pk_us, pk_us, hn 0 (by omega), hn 1 (by omega)]
      refine ⟨rfl, rfl, fun v hv => ?_⟩
      rw [eV v hv]
      unfold atTo
      rw [if_pos (by omega), show 3 * C 1 + v - 3 * C 1 = v by omega]
      exact hn (2 + v) (by omega)
    · obtain ⟨x, y, z⟩ := hst s (by omega)
      rw [hB (8 + 5 * s) (by omega) (by omega), hB (9 + 5 * s) (by omega) (by omega), pk_un c, pk_un c]
      refine ⟨x, y, fun v hv => ?_⟩
      rw [hB (10 + 5 * s + v) (by omega) (by omega)]
      unfold atTo
      rw [if_neg (by omega)]
      exact z v hv
  · rw [e3] at ht
    rw [hB (38 + 3 * t) (by omega) (by omega), hB (39 + 3 * t) (by omega) (by omega), hB (40 + 3 * t) (by omega) (by omega)]
    exact htr t ht
  · rw [e5] at hk
    rw [hB (47 + 2 * k) (by omega) (by omega), hB (48 + 2 * k) (by omega) (by omega)]
    exact hde k hk
theorem IC.tr {C C' : Nat → Nat} {v0 v1 v2 : Nat} {ty ts tb tt td tq : Int32} {tl tz tc tY tA tB tF tG gl gl' : Nat → Int32} (h : IC C ty ts tb tt td tq tl tz tc tY tA tB tF tG gl) (h3 : C 3 < 3) (w0 : v0 < v1) (w1 : v1 ≤ v2) (w2 : v2 < C 0) (wp : ∀ t, t + 1 = C 3 → C (38 + 3 * t) < v0) (h38 : C' (38 + 3 * C 3) = v0) (h39 : C' (39 + 3 * C 3) = v1) (h40 : C' (40 + 3 * C 3) = v2) (hB : ∀ j, j ≠ 3 → (j < 38 + 3 * C 3 ∨ 41 + 3 * C 3 ≤ j) → C' j = C j) (hC : C' 3 = C 3 + 1) (hgl : ∀ i, i < 55 → gl' i = nI (C' i)) : IC C' ty ts tb (nI (C 3 + 1)) td tq tl tz tc (upd tY (C 3) (nI v0)) (upd tA (C 3) (nI v1)) (upd tB (C 3) (nI v2)) tF tG gl' := by
  obtain ⟨⟨a1, a2, a3, a4, a5, a6, a7, a8, a9, a10, a11, a12⟩, hl, ety, ets, etb, ett, etd, etq, hst, htr, hde⟩ := h
  have e0 := hB 0 (by omega) (by omega)
  have e1 := hB 1 (by omega) (by omega)
  have e2 := hB 2 (by omega) (by omega)
  have e4 := hB 4 (by omega) (by omega)
  have e5 := hB 5 (by omega) (by omega)
  have hO' : OKC C' := by
    refine ⟨by rw [e0]; exact a1, by rw [e0]; exact a2, by rw [e1]; exact a3, by rw [e2]; exact a4, by rw [hC]; omega, by rw [e4]; exact a6, by rw [e4]; exact a7, by rw [e5]; exact a8, fun s hs => ?_, fun t ht => ?_, fun t ht => ?_, fun k hk => ?_⟩
    · rw [e1] at hs
      obtain ⟨x, y, z⟩ := a9 s hs
      rw [hB (8 + 5 * s) (by omega) (by omega), hB (9 + 5 * s) (by omega) (by omega)]
      refine ⟨x, y, fun v hv => ?_⟩
      rw [hB (10 + 5 * s + v) (by omega) (by omega)]
      exact z v hv
    · by_cases c : t = C 3
      · subst c
        rw [h38, h39, h40, e0]
        exact ⟨w0, w1, w2⟩
      · rw [hB (38 + 3 * t) (by omega) (by omega), hB (39 + 3 * t) (by omega) (by omega), hB (40 + 3 * t) (by omega) (by omega), e0]
        exact a10 t (by omega)
    · by_cases c : t + 1 = C 3
      · have := wp t c
        rw [hB (38 + 3 * t) (by omega) (by omega), show 41 + 3 * t = 38 + 3 * C 3 by omega, h38]
        exact this
      · rw [hB (38 + 3 * t) (by omega) (by omega), hB (41 + 3 * t) (by omega) (by omega)]
        exact a11 t (by omega)
    · rw [e5] at hk
      rw [hB (47 + 2 * k) (by omega) (by omega), hB (48 + 2 * k) (by omega) (by omega)]
      exact a12 k hk
  refine ⟨hO', hgl, by rw [e0]; exact ety, by rw [e1]; exact ets, by rw [e2]; exact etb, by rw [hC], by rw [e5]; exact etd, by rw [e4]; exact etq, fun s hs => ?_, fun t ht => ?_, fun k hk => ?_⟩
  · rw [e1] at hs
    obtain ⟨x, y, z⟩ := hst s hs
    rw [hB (8 + 5 * s) (by omega) (by omega), hB (9 + 5 * s) (by omega) (by omega)]
    refine ⟨x, y, fun v hv => ?_⟩
    rw [hB (10 + 5 * s + v) (by omega) (by omega)]
    exact z v hv
  · by_cases c : t = C 3
    · subst c
      rw [h38, h39, h40, pk_us, pk_us, pk_us]
      exact ⟨rfl, rfl, rfl⟩
    · rw [hB (38 + 3 * t) (by omega) (by omega), hB (39 + 3 * t) (by omega) (by omega), hB (40 + 3 * t) (by omega) (by omega), pk_un c, pk_un c, pk_un c]
      exact htr t (by omega)
  · rw [e5] at hk
    rw [hB (47 + 2 * k) (by omega) (by omega), hB (48 + 2 * k) (by omega) (by omega)]
    exact hde k hk
theorem IC.de {C C' : Nat → Nat} {v0 v1 : Nat} {ty ts tb tt td tq : Int32} {tl tz tc tY tA tB tF tG gl gl' : Nat → Int32} (h : IC C ty ts tb tt td tq tl tz tc tY tA tB tF tG gl) (h5 : C 5 < 4) (w0 : v0 ≤ 5) (w1 : v1 ≤ 5) (h47 : C' (47 + 2 * C 5) = v0) (h48 : C' (48 + 2 * C 5) = v1) (hB : ∀ j, j ≠ 5 → (j < 47 + 2 * C 5 ∨ 49 + 2 * C 5 ≤ j) → C' j = C j) (hC : C' 5 = C 5 + 1) (hgl : ∀ i, i < 55 → gl' i = nI (C' i)) : IC C' ty ts tb tt (nI (C 5 + 1)) tq tl tz tc tY tA tB (upd tF (C 5) (nI v0)) (upd tG (C 5) (nI v1)) gl' := by
  obtain ⟨⟨a1, a2, a3, a4, a5, a6, a7, a8, a9, a10, a11, a12⟩, hl, ety, ets, etb, ett, etd, etq, hst, htr, hde⟩ := h
  have e0 := hB 0 (by omega) (by omega)
  have e1 := hB 1 (by omega) (by omega)
  have e2 := hB 2 (by omega) (by omega)
  have e3 := hB 3 (by omega) (by omega)
  have e4 := hB 4 (by omega) (by omega)
  have hO' : OKC C' := by
    refine ⟨by rw [e0]; exact a1, by rw [e0]; exact a2, by rw [e1]; exact a3, by rw [e2]; exact a4, by rw [e3]; exact a5, by rw [e4]; exact a6, by rw [e4]; exact a7, by rw [hC]; omega, fun s hs => ?_, fun t ht => ?_, fun t ht => ?_, fun k hk => ?_⟩
    · rw [e1] at hs
      obtain ⟨x, y, z⟩ := a9 s hs
      rw [hB (8 + 5 * s) (by omega) (by omega), hB (9 + 5 * s) (by omega) (by omega)]
      refine ⟨x, y, fun v hv => ?_⟩
      rw [hB (10 + 5 * s + v) (by omega) (by omega)]
      exact z v hv
    · rw [e3] at ht
      rw [hB (38 + 3 * t) (by omega) (by omega), hB (39 + 3 * t) (by omega) (by omega), hB (40 + 3 * t) (by omega) (by omega), e0]
      exact a10 t ht
    · rw [e3] at ht
      rw [hB (38 + 3 * t) (by omega) (by omega), hB (41 + 3 * t) (by omega) (by omega)]
      exact a11 t ht
    · by_cases c : k = C 5
      · subst c
        rw [h47, h48]
        exact ⟨w0, w1⟩
      · rw [hB (47 + 2 * k) (by omega) (by omega), hB (48 + 2 * k) (by omega) (by omega)]
        exact a12 k (by omega)
  refine ⟨hO', hgl, by rw [e0]; exact ety, by rw [e1]; exact ets, by rw [e2]; exact etb, by rw [e3]; exact ett, by rw [hC], by rw [e4]; exact etq, fun s hs => ?_, fun t ht => ?_, fun k hk => ?_⟩
  · rw [e1] at hs
    obtain ⟨x, y, z⟩ := hst s hs
    rw [hB (8 + 5 * s) (by omega) (by omega), hB (9 + 5 * s) (by omega) (by omega)]
    refine ⟨x, y, fun v hv => ?_⟩
    rw [hB (10 + 5 * s + v) (by omega) (by omega)]
    exact z v hv
  · rw [e3] at ht
    rw [hB (38 + 3 * t) (by omega) (by omega), hB (39 + 3 * t) (by omega) (by omega), hB (40 + 3 * t) (by omega) (by omega)]
    exact htr t ht
  · by_cases c : k = C 5
    · subst c
      rw [h47, h48, pk_us, pk_us]
      exact ⟨rfl, rfl⟩
    · rw [hB (47 + 2 * k) (by omega) (by omega), hB (48 + 2 * k) (by omega) (by omega), pk_un c, pk_un c]
      exact hde k (by omega)
/-- what was told once already -/
def FL (C : Nat → Nat) (yT bT qT : Int32) : Prop := C 6 < 8 ∧ (yT = 0 ↔ nI (C 6) &&& 1 = 0) ∧ (bT = 0 ↔ nI (C 6) &&& 2 = 0) ∧ (qT = 0 ↔ nI (C 6) &&& 4 = 0)
theorem zz_fl1 : ∀ v, v < 8 → (nI v ||| 1 = nI (v ||| 1) ∧ (v ||| 1) < 8 ∧ ¬ (nI (v ||| 1) &&& 1 = 0) ∧ (nI (v ||| 1) &&& 2 = 0 ↔ nI v &&& 2 = 0) ∧ (nI (v ||| 1) &&& 4 = 0 ↔ nI v &&& 4 = 0)) := by decide +kernel
theorem zz_fl2 : ∀ v, v < 8 → (nI v ||| 2 = nI (v ||| 2) ∧ (v ||| 2) < 8 ∧ ¬ (nI (v ||| 2) &&& 2 = 0) ∧ (nI (v ||| 2) &&& 1 = 0 ↔ nI v &&& 1 = 0) ∧ (nI (v ||| 2) &&& 4 = 0 ↔ nI v &&& 4 = 0)) := by decide +kernel
theorem zz_fl4 : ∀ v, v < 8 → (nI v ||| 4 = nI (v ||| 4) ∧ (v ||| 4) < 8 ∧ ¬ (nI (v ||| 4) &&& 4 = 0) ∧ (nI (v ||| 4) &&& 1 = 0 ↔ nI v &&& 1 = 0) ∧ (nI (v ||| 4) &&& 2 = 0 ↔ nI v &&& 2 = 0)) := by decide +kernel
