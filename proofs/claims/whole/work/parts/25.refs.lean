/-! Arrays of references whose places are listed. -/
def fam (l : List (Option Nat)) : Nat → Option Nat := fun j => l.getD j none
theorem fam_up {l : List (Option Nat)} {i v : Nat} (h : i < l.length) : va_up (fam l) i (some v) = fam (l.set i (some v)) := by
  funext j
  unfold va_up fam
  by_cases hj : j = i
  · subst hj
    simp [List.getD, h]
  · simp [List.getD, hj, List.getElem?_set, Ne.symm hj]
theorem fam_none (n : Nat) : (fun _ => none : Nat → Option Nat) = fam (List.replicate n none) := by
  funext j
  unfold fam
  by_cases h : j < n
  · simp [List.getD, List.getElem?_replicate, h]
  · simp [List.getD, List.getElem?_replicate, h]
abbrev rD (cD : ClassId) (q n : Nat) (l : List (Option Nat)) : Nat × va_E := (q, .inl (cD, n, .inr (.inr (.inr (.inr (fam l))))))
section KR
variable {p : Program} {l : Launch} {e : Env} {R : Room} {s : State} {m : MethodId} {args : Array Value} {below : List Frame} {meth : Method} {c : Code} {H : Heap} {locs : List Loc} {cells slots : Nat} {Q : State → Prop}
variable {cc : ByteArray} {pc nL : Nat} {ls : Array Slot} {rest : List Value} {D : va_G} {tys : List (ClassId × FieldType)} {A : Nat → Prop} {ws : va_W} {own : String} {a : Nat}
theorem k_aald (X : Cx p s m args c D tys A cc own nL) (hP : va_P D vwCl ws H) {cA : ClassId} {C : String} {n v : Nat} {fl : List (Option Nat)} {i : Int32} (q0 t0 j : Nat) (ha : ws[q0]? = some (a, .inl (cA, n, .inr (.inr (.inr (.inr (fam fl))))))) (ht : tys[t0]? = some (cA, .object C)) (hin : inb i n = true) (hj : i.toNatClampNeg = j) (hv : fl[j]? = some (some v)) (hdg : decode cc pc = .ok (.aaload, 1))
    (kk : W p l e R s m args below meth c H locs cells slots Q (F0 m (pc + 1) ls (.ref v :: rest))) : W p l e R s m args below meth c H locs cells slots Q (F0 m pc ls (.int i :: .ref a :: rest)) := by
  refine va_aldq X.1 X.2.1 X.2.2.2.2.2.1 hP q0 t0 ha ht (inb_in hin) hdg ?_
  have e1 : fam fl i.toNatClampNeg = some v := by
    rw [hj]; unfold fam; rw [List.getD_eq_getElem?_getD, hv]; rfl
  rw [e1]
  exact kk
theorem k_aast (X : Cx p s m args c D tys A cc own nL) (hP : va_P D vwCl ws H) (hD : va_D A ws) (hS : va_S A s.heap H locs) {cA : ClassId} {r : vw_C} {n v ci : Nat} {vs : List Value} {fl : List (Option Nat)} {i : Int32} (wn : va_W) (q0 t0 qk j : Nat) (ha : ws[q0]? = some (a, .inl (cA, n, .inr (.inr (.inr (.inr (fam fl))))))) (ht : tys[t0]? = some (cA, .object r.1)) (hv : ws[qk]? = some (v, .inr (ci, vs))) (hc : vwCl[ci]? = some r) (hin : inb i n = true) (hj : i.toNatClampNeg = j) (hl : j < fl.length) (hw : ws.set q0 (a, .inl (cA, n, .inr (.inr (.inr (.inr (fam (fl.set j (some v)))))))) = wn) (hdg : decode cc pc = .ok (.aastore, 1))
    (kk : ∀ (H1 : Heap) (locs1 : List Loc), va_P D vwCl wn H1 → va_D A wn → va_S A s.heap H1 locs1 → W p l e R s m args below meth c H1 locs1 cells slots Q (F0 m (pc + 1) ls rest)) : W p l e R s m args below meth c H locs cells slots Q (F0 m pc ls (.ref v :: .int i :: .ref a :: rest)) := by
  subst hw
  refine va_astq X.1 X.2.1 X.2.2.2.2.2.1 hP hD hS q0 t0 qk ci ha ht hv hc (inb_in hin) hdg (fun H1 locs1 h1 h2 h3 => ?_)
  rw [hj, fam_up hl] at h1 h2
  exact kk H1 locs1 h1 h2 h3
end KR
