/-! The generic rows of this claim: a method's contract over a list of cells, a functional program beside the machine. -/
def FU : Nat := 100000
def inb (i : Int32) (n : Nat) : Bool := decide (0 ≤ i.toInt) && decide (i.toInt < n)
theorem inb_in {i : Int32} {n : Nat} (h : inb i n = true) : vp_in i n := by
  rw [vp_in_iff]
  simpa [inb] using h
def bI (b : Bool) : Int32 := if b = true then 1 else 0
theorem bnd {α β : Type} {x : Option α} {k : α → Option β} {o : β} (h : x.bind k = some o) : ∃ r, x = some r ∧ k r = some o := by
  cases x with
  | none => cases h
  | some r => exact ⟨r, rfl, h⟩
theorem ite_t {c : Prop} [Decidable c] {α : Type} {x y : Option α} {o : α} (hc : c) (h : (if c then x else y) = some o) : x = some o := by
  rw [if_pos hc] at h; exact h
theorem ite_f {c : Prop} [Decidable c] {α : Type} {x y : Option α} {o : α} (hc : ¬ c) (h : (if c then x else y) = some o) : y = some o := by
  rw [if_neg hc] at h; exact h
theorem ck_t {c : Prop} [Decidable c] {α : Type} {x : Option α} {o : α} (h : (if c then x else none) = some o) : c ∧ x = some o := by
  by_cases hc : c
  · rw [if_pos hc] at h; exact ⟨hc, h⟩
  · rw [if_neg hc] at h; cases h
def jn {α β : Type} (k : α → β) (b : (α → β) → β) : β := b k
def lpd {σ ε : Type} (st : σ → Option (σ ⊕ ε)) : Nat → σ → Option ε
  | 0, _ => none
  | n + 1, s => (st s).bind fun r => match r with
    | .inl s' => lpd st n s'
    | .inr e => some e
theorem lpd_ind {σ ε : Type} {st : σ → Option (σ ⊕ ε)} {P : σ → Prop} (e : ε) (h : ∀ (s : σ) (r : σ ⊕ ε), st s = some r → (∀ s', r = .inl s' → P s') → (∀ e', r = .inr e' → e' = e) → P s) : ∀ (n : Nat) (s : σ), lpd st n s = some e → P s := by
  intro n
  induction n with
  | zero => intro s hs; cases hs
  | succ n ih =>
    intro s hs
    obtain ⟨r, hr, hk⟩ := bnd (show ((st s).bind fun r => match r with
      | .inl s' => lpd st n s'
      | .inr e => some e) = some e from hs)
    refine h s r hr (fun s' e1 => ?_) (fun e' e1 => ?_)
    · subst e1; exact ih s' hk
    · subst e1; exact Option.some.inj hk
theorem fm_of {α β : Type} (f : α → Option β) : ∀ (l : List α) (w : List β), l.map f = w.map some → l.filterMap f = w
  | [], [], _ => rfl
  | [], _ :: _, h => by simp at h
  | _ :: _, [], h => by simp at h
  | a :: l, b :: w, h => by
    simp only [List.map_cons, List.cons.injEq] at h
    rw [List.filterMap_cons, h.1, fm_of f l w h.2]
def rbt (j : Nat) : Int32 := if j = 0 then 1 else if j = 1 then 3 else if j = 2 then 9 else 27
/-- what a method takes of the tables beside the good words: the static row, the links of nest mates, the arrays of own classes -/
def NW (U : State) : Prop := va_Nw (.fieldLinkNest RX3 83 "LaterJury" "ROWS_BY_TRIALS" "[I" "LaterJury") U ∧ va_Nw (.methodLinkNest RX6 19 yX5_init "LaterJury") U ∧ va_Nw (.methodLinkNest RX6 29 yX4_init "LaterJury") U ∧ va_Nw (.methodLinkNest RX6 36 yX3_init "LaterJury") U ∧ va_Nw (.methodLinkNest RX3 11 yX5_init "LaterJury") U ∧ va_Nw (.methodLinkNest RX6 43 yX1_init "LaterJury") U ∧ va_Nw (.methodLinkNest RX2 11 yX0_init "LaterJury") U ∧ va_AO RX0 U ∧ va_AO RX2 U
def ZR (A : Nat → Prop) (U : State) (H : Heap) : Prop := (∃ rb : Nat, va_Z "LaterJury" "ROWS_BY_TRIALS" "[I" (.ref rb) A U H ∧ va_T .int rb 4 (fun j => .int (rbt j)) A U H) ∧ NW U
theorem NW.same {u U : State} (h : u.vm = U.vm) (hn : NW u) : NW U := by
  obtain ⟨h1, h2, h3, h4, h5, h6, h7, h8, h9⟩ := hn
  have hv : u.vm.Alike U.vm := h ▸ Vm.Alike.refl u.vm
  exact ⟨va_Nw.same rfl h h1, va_Nw.same rfl h h2, va_Nw.same rfl h h3, va_Nw.same rfl h h4, va_Nw.same rfl h h5, va_Nw.same rfl h h6, va_Nw.same rfl h h7, h8.moved hv, h9.moved hv⟩
theorem NW.warm {s U : State} (h : s.WarmedH U.vm) (hn : NW s) : NW U := by
  obtain ⟨h1, h2, h3, h4, h5, h6, h7, h8, h9⟩ := hn
  exact ⟨h1.warmF h, h2.warmM h, h3.warmM h, h4.warmM h, h5.warmM h, h6.warmM h, h7.warmM h, h8.moved h.alike, h9.moved h.alike⟩
theorem ZR.same {A : Nat → Prop} {u U : State} {H : Heap} (h : u.vm = U.vm) (hz : ZR A u H) : ZR A U H := by
  obtain ⟨⟨rb, h1, h2⟩, h3⟩ := hz
  have hv : u.vm.Alike U.vm := h ▸ Vm.Alike.refl u.vm
  exact ⟨⟨rb, h1.moved hv, h2.moved hv⟩, h3.same h⟩
theorem ZR.call {A B : Nat → Prop} {s U : State} {H : Heap} {locs : List Loc} (hW : s.WarmedH U.vm) (hS : va_S A s.heap H locs) (hB : ∀ q, B q → A q) (hz : ZR A s s.heap) : ZR B U H := by
  obtain ⟨⟨rb, h1, h2⟩, h3⟩ := hz
  exact ⟨⟨rb, ((h1.moved hW.alike).kept hS.2.1).narrow hB, ((h2.moved hW.alike).kept hS.2.1).narrow hB⟩, h3.warm hW⟩
/-- a method's context: the machine, its code, the good words, the tables, the static row, the free cells -/
def Cx (p : Program) (s : State) (m : MethodId) (args : Array Value) (c : Code) (D : va_G) (tys : List (ClassId × FieldType)) (A : Nat → Prop) (cc : ByteArray) (own : String) (nL : Nat) : Prop :=
  p.tables.exec = Jvm.exec ∧ c.code = cc ∧ c.maxLocals = nL ∧ s.vm.findClass own = some m.cls ∧ (∀ w ∈ gt, w.before args s = true) ∧ va_K D vwCl tys s ∧ ZR A s s.heap ∧ (∀ q, s.heap.size ≤ q → A q)
def PreC (D : va_G) (tys : List (ClassId × FieldType)) (ws : va_W) (sz : Nat) : State → Prop := fun U => U.heap.size = sz ∧ va_P D vwCl ws U.heap ∧ va_K D vwCl tys U ∧ va_D (fun _ => True) ws ∧ ZR (va_A ws sz) U U.heap
theorem PreC.blind {D : va_G} {tys : List (ClassId × FieldType)} {ws : va_W} {sz : Nat} {av : List Value} : FrameBlind (va_Pc av (PreC D tys ws sz)) := by
  intro a U g mk q
  obtain ⟨q0, q1, qP, qK, qD, qZ⟩ := q
  exact ⟨q0, q1, qP, va_K.moved (u := U) (U := U.calling g mk a) (Vm.Alike.refl U.vm) qK, qD, ZR.same (u := U) (U := U.calling g mk a) rfl qZ⟩
def QO (D : va_G) (tys : List (ClassId × FieldType)) (ws' : va_W) (A : Nat → Prop) (v : Option Value) : Array Value → State → Outcome → State → Prop := fun _ st oc t => (oc = .returned v ∧ va_P D vwCl ws' t.heap ∧ va_K D vwCl tys t ∧ va_D A ws') ∧ va_F A st t
def Ct (l : Launch) (y : MethodName) (cc : ByteArray) (mL : Nat) (ret : Option FieldType) (rm : Room) (D : va_G) (tys : List (ClassId × FieldType)) (av : List Value) (ws ws' : va_W) (v : Option Value) (mc ms : Nat) : Prop :=
  ∀ sz, Met l y (.code y cc mL ret :: gt) rm (va_Pc av (PreC D tys ws sz)) (QO D tys ws' (va_A ws sz) v) mc ms (va_A ws sz)
theorem goodIn_app {big a b : List Cond} (ha : GoodIn big a) (hb : GoodIn big b) : GoodIn big (a ++ b) := fun w h => (List.mem_append.mp h).elim (ha w) (hb w)
theorem gG {x y : MethodName} {c1 c2 : ByteArray} {n1 n2 : Nat} {r1 r2 : Option FieldType} (h : Cond.code y c2 n2 r2 ∈ gt) : GoodIn gt (.code y c2 n2 r2 :: gt) := by
  intro w hw
  rcases List.mem_cons.mp hw with rfl | hw
  · exact ⟨h, good_of_word (gt_good _ h)⟩
  · exact ⟨hw, good_of_word (gt_good _ hw)⟩
section KT
variable {p : Program} {l : Launch} {e : Env} {R : Room} {s : State} {m : MethodId} {args : Array Value} {below : List Frame} {meth : Method} {c : Code} {H : Heap} {locs : List Loc} {cells slots : Nat} {Q : State → Prop}
variable {cc : ByteArray} {pc nL : Nat} {ls : Array Slot} {rest : List Value} {D : va_G} {tys : List (ClassId × FieldType)} {A : Nat → Prop} {ws : va_W} {own : String} {a : Nat}
theorem k_get (X : Cx p s m args c D tys A cc own nL) (hP : va_P D vwCl ws H) {ref C : String} {T : u_T} {N ci index : Nat} {fs : List Value} {v : Value} (q0 : Nat) (he : ws[q0]? = some (a, .inr (ci, fs))) (hc : vwCl[ci]? = some (C, T, N)) (hin : ∀ w ∈ u_ws C T N, w ∈ gt) (k : Nat) (hk : k < N) (hlink : Cond.fieldLink own index ref (T k).2.1 (T k).2.2.1 ∈ gt) (hsame : (T k).1 = ref) (hv : fs[k]? = some v) (hdg : decode cc pc = .ok (.getfield index, 3))
    (kk : W p l e R s m args below meth c H locs cells slots Q (F0 m (pc + 3) ls (v :: rest))) : W p l e R s m args below meth c H locs cells slots Q (F0 m pc ls (.ref a :: rest)) :=
  va_get X.1 X.2.1 X.2.2.2.2.1 hin X.2.2.2.1 X.2.2.2.2.2.1 hP q0 he hc k hk (X.2.2.2.2.1 _ hlink) (fun x h => by rw [← hsame]; exact h) hv hdg kk
theorem k_put (X : Cx p s m args c D tys A cc own nL) (hP : va_P D vwCl ws H) (hD : va_D A ws) (hS : va_S A s.heap H locs) {ref C : String} {T : u_T} {N ci index : Nat} {fs : List Value} {v : Value} {ty0 : Nat → FieldType} (wn : va_W) (q0 : Nat) (he : ws[q0]? = some (a, .inr (ci, fs))) (hc : vwCl[ci]? = some (C, T, N)) (hin : ∀ w ∈ u_ws C T N, w ∈ gt) (hty : ∀ k, k < N → parseFieldDescriptor (T k).2.2.1 = some (ty0 k)) (hnm : ∀ a, a < N → ∀ b, b < N → a ≠ b → (T a).2.1 ≠ (T b).2.1) (k : Nat) (hk : k < N) (hlink : Cond.fieldLink own index ref (T k).2.1 (T k).2.2.1 ∈ gt) (hsame : (T k).1 = ref) (hfin : (T k).2.2.2 = false) (hn : narrow (ty0 k) v = v) (hfit : fits (ty0 k) v = true) (hl : k < fs.length) (hw : ws.set q0 (a, .inr (ci, fs.set k v)) = wn) (hdg : decode cc pc = .ok (.putfield index, 3))
    (kk : ∀ (H1 : Heap) (locs1 : List Loc), va_P D vwCl wn H1 → va_D A wn → va_S A s.heap H1 locs1 → W p l e R s m args below meth c H1 locs1 cells slots Q (F0 m (pc + 3) ls rest)) : W p l e R s m args below meth c H locs cells slots Q (F0 m pc ls (v :: .ref a :: rest)) := by
  subst hw
  exact va_put X.1 X.2.1 X.2.2.2.2.1 hin ty0 hty hnm X.2.2.2.1 X.2.2.2.2.2.1 hP hD hS q0 he hc k hk (X.2.2.2.2.1 _ hlink) (fun x h => by rw [← hsame]; exact h) hfin (hty k hk) hn hfit hl hdg kk
theorem k_iald (X : Cx p s m args c D tys A cc own nL) (hP : va_P D vwCl ws H) {cA : ClassId} {n : Nat} {f : Nat → Int32} {i : Int32} (q0 t0 : Nat) (ha : ws[q0]? = some (a, .inl (cA, n, .inl f))) (ht : tys[t0]? = some (cA, .int)) (hin : inb i n = true) (hdg : decode cc pc = .ok (.iaload, 1))
    (kk : W p l e R s m args below meth c H locs cells slots Q (F0 m (pc + 1) ls (.int (f i.toNatClampNeg) :: rest))) : W p l e R s m args below meth c H locs cells slots Q (F0 m pc ls (.int i :: .ref a :: rest)) :=
  va_iald X.1 X.2.1 X.2.2.2.2.2.1 hP q0 t0 ha ht (inb_in hin) hdg kk
theorem k_zald (X : Cx p s m args c D tys A cc own nL) (hP : va_P D vwCl ws H) {cA : ClassId} {n : Nat} {f : Nat → Int32} {i : Int32} (q0 t0 : Nat) (ha : ws[q0]? = some (a, .inl (cA, n, .inl f))) (ht : tys[t0]? = some (cA, .boolean)) (hin : inb i n = true) (hdg : decode cc pc = .ok (.baload, 1))
    (kk : W p l e R s m args below meth c H locs cells slots Q (F0 m (pc + 1) ls (.int (f i.toNatClampNeg) :: rest))) : W p l e R s m args below meth c H locs cells slots Q (F0 m pc ls (.int i :: .ref a :: rest)) :=
  va_zald X.1 X.2.1 X.2.2.2.2.2.1 hP q0 t0 ha ht (inb_in hin) hdg kk
theorem k_iast (X : Cx p s m args c D tys A cc own nL) (hP : va_P D vwCl ws H) (hD : va_D A ws) (hS : va_S A s.heap H locs) {cA : ClassId} {n : Nat} {f : Nat → Int32} {i x : Int32} (wn : va_W) (q0 t0 : Nat) (ha : ws[q0]? = some (a, .inl (cA, n, .inl f))) (ht : tys[t0]? = some (cA, .int)) (hin : inb i n = true) (hw : ws.set q0 (a, .inl (cA, n, .inl (upd f i.toNatClampNeg x))) = wn) (hdg : decode cc pc = .ok (.iastore, 1))
    (kk : ∀ (H1 : Heap) (locs1 : List Loc), va_P D vwCl wn H1 → va_D A wn → va_S A s.heap H1 locs1 → W p l e R s m args below meth c H1 locs1 cells slots Q (F0 m (pc + 1) ls rest)) : W p l e R s m args below meth c H locs cells slots Q (F0 m pc ls (.int x :: .int i :: .ref a :: rest)) := by
  subst hw
  exact va_iast X.1 X.2.1 X.2.2.2.2.2.1 hP hD hS q0 t0 ha ht (inb_in hin) hdg kk
theorem k_zast (X : Cx p s m args c D tys A cc own nL) (hP : va_P D vwCl ws H) (hD : va_D A ws) (hS : va_S A s.heap H locs) {cA : ClassId} {n : Nat} {f : Nat → Int32} {i x : Int32} (wn : va_W) (q0 t0 : Nat) (ha : ws[q0]? = some (a, .inl (cA, n, .inl f))) (ht : tys[t0]? = some (cA, .boolean)) (hin : inb i n = true) (hx : vp_nar .boolean x = x) (hw : ws.set q0 (a, .inl (cA, n, .inl (upd f i.toNatClampNeg x))) = wn) (hdg : decode cc pc = .ok (.bastore, 1))
    (kk : ∀ (H1 : Heap) (locs1 : List Loc), va_P D vwCl wn H1 → va_D A wn → va_S A s.heap H1 locs1 → W p l e R s m args below meth c H1 locs1 cells slots Q (F0 m (pc + 1) ls rest)) : W p l e R s m args below meth c H locs cells slots Q (F0 m pc ls (.int x :: .int i :: .ref a :: rest)) := by
  subst hw
  refine va_zast X.1 X.2.1 X.2.2.2.2.2.1 hP hD hS q0 t0 ha ht (inb_in hin) hdg (fun H1 locs1 h1 h2 h3 => ?_)
  rw [hx] at h1 h2
  exact kk H1 locs1 h1 h2 h3
theorem callO {st0 : List Value} {av : Array Value} {A0 A1 : Nat → Prop} {H0 : Heap} {mc ms : Nat} {free : Addr → Prop} {w1 : va_W} {v : Option Value} (hr : va_Run p l e R s m args below meth c H locs cells slots mc ms (F0 m pc ls st0) rest (QO D tys w1 A1 v av) free) (hS : va_S A0 H0 H locs) (hA : ∀ q, q < H.size → A1 q → A0 q) (hf : ∀ q, free q → A0 q)
    (kk : ∀ (t : State) (H1 : Heap) (locs1 : List Loc), t.heap = H1 → s.vm.Alike t.vm → (va_P D vwCl w1 t.heap ∧ va_K D vwCl tys t ∧ va_D A1 w1) → H.size ≤ H1.size → (∀ q : Nat, q < H.size → ¬ A1 q → H1[q]? = H[q]?) → va_S A0 H0 H1 locs1 → W p l e R s m args below meth c H1 locs1 (cells + mc) (slots + ms) Q (F0 m (pc + 3) ls (v.toList ++ rest))) : W p l e R s m args below meth c H locs cells slots Q (F0 m pc ls st0) := by
  intro T hT X
  obtain ⟨v', st₀, t, T', L, h0, X', hL, e1, e2, ⟨⟨hv, hb⟩, hz, hk⟩, st⟩ := hr T hT X
  cases hv
  rw [h0] at hz hk
  obtain ⟨t2, a1, b1⟩ := kk t T'.heap (locs ++ L) e1.symm (by rw [← e2]; exact X'.warmed.alike) hb (by rw [e1]; exact hz) (fun q h1 h2 => by rw [e1]; exact hk q h1 h2)
    ⟨Nat.le_trans hS.1 (by rw [e1]; exact hz), fun q h1 h2 => by rw [e1, hk q (Nat.lt_of_lt_of_le h1 hS.1) (fun z => h2 (hA q (Nat.lt_of_lt_of_le h1 hS.1) z))]; exact hS.2.1 q h1 h2, fun q hq => by
      rcases List.mem_append.mp hq with h | h
      · exact hS.2.2 q h
      · exact hf _ (hL q h)⟩ T' rfl X'
  exact ⟨t2, st t2 a1, b1⟩
def place (w1 : va_W) : va_W → List (Option Nat) → va_W
  | c :: ws, none :: src => c :: place w1 ws src
  | c :: ws, some t :: src => w1.getD t c :: place w1 ws src
  | ws, [] => ws
  | [], _ :: _ => []
def chk (src : List (Option Nat)) (isC : List Nat) : Bool := (List.range src.length).all fun k => match src[k]? with
  | some (some t) => decide (isC[t]? = some k)
  | some none => decide (k ∉ isC)
  | none => true
theorem place_at (w1 : va_W) : ∀ (ws : va_W) (src : List (Option Nat)) (k : Nat) (q : Nat × va_E), ws.length = src.length → (∀ (j t : Nat), src[j]? = some (some t) → t < w1.length) → (place w1 ws src)[k]? = some q → (∃ t : Nat, src[k]? = some (some t) ∧ w1[t]? = some q) ∨ (src[k]? = some none ∧ ws[k]? = some q)
  | [], [], k, q, _, _, h => by simp [place] at h
  | [], _ :: _, k, q, hl, _, _ => by simp at hl
  | _ :: _, [], k, q, hl, _, _ => by simp at hl
  | c :: ws, none :: src, k, q, hl, ht, h => by
    cases k with
    | zero => exact Or.inr ⟨rfl, h⟩
    | succ k =>
      have h' : (place w1 ws src)[k]? = some q := h
      exact place_at w1 ws src k q (by simpa using hl) (fun j t hj => ht (j + 1) t hj) h'
  | c :: ws, some t :: src, k, q, hl, ht, h => by
    cases k with
    | zero =>
      have h' : some (w1.getD t c) = some q := h
      refine Or.inl ⟨t, rfl, ?_⟩
      rw [← h', List.getElem?_eq_getElem (ht 0 t rfl), List.getD_eq_getElem?_getD, List.getElem?_eq_getElem (ht 0 t rfl)]
      rfl
    | succ k =>
      have h' : (place w1 ws src)[k]? = some q := h
      exact place_at w1 ws src k q (by simpa using hl) (fun j t hj => ht (j + 1) t hj) h'
theorem chk_s {src : List (Option Nat)} {isC : List Nat} (h : chk src isC = true) {k t : Nat} (hk : src[k]? = some (some t)) : isC[t]? = some k := by
  have h1 := List.all_eq_true.mp h k (List.mem_range.mpr (List.getElem?_eq_some_iff.mp hk).1)
  simp only [hk, decide_eq_true_eq] at h1
  exact h1
theorem chk_n {src : List (Option Nat)} {isC : List Nat} (h : chk src isC = true) {k : Nat} (hk : src[k]? = some none) : k ∉ isC := by
  have h1 := List.all_eq_true.mp h k (List.mem_range.mpr (List.getElem?_eq_some_iff.mp hk).1)
  simp only [hk, decide_eq_true_eq] at h1
  exact h1
theorem place_get (is : List Nat) (w ws : va_W) (src : List (Option Nat)) (hs : ws.length = src.length) (hc : chk src is = true) (k : Nat) (q : Nat × va_E) (hl : is.length = w.length) (h : (place w ws src)[k]? = some q) : (∃ t : Nat, is[t]? = some k ∧ w[t]? = some q) ∨ (k ∉ is ∧ ws[k]? = some q) := by
  rcases place_at w ws src k q hs (fun j t hj => by
    have := (List.getElem?_eq_some_iff.mp (chk_s hc hj)).1
    omega) h with ⟨t, h1, h2⟩ | ⟨h1, h2⟩
  · exact Or.inl ⟨t, chk_s hc h1, h2⟩
  · exact Or.inr ⟨chk_n hc h1, h2⟩
/-- a call's world: the callee's cells, put back in their places -/
theorem k_join {wc w1 : va_W} {H1 : Heap} (hP : va_P D vwCl ws H) (hD : va_D A ws) (isC : List Nat) (src : List (Option Nat)) (hsrc : ws.length = src.length) (hchk : chk src isC = true) (hC : isC.map (fun i => ws[i]?) = wc.map some) (hlen : isC.length = w1.length)
    (hk : ∀ q : Nat, q < H.size → ¬ va_A wc H.size q → H1[q]? = H[q]?) (hF : ∀ q, va_A wc H.size q → A q) (hP1 : va_P D vwCl w1 H1) (hD1 : va_D (va_A wc H.size) w1) : va_P D vwCl (place w1 ws src) H1 ∧ va_D A (place w1 ws src) := by
  have apart : ∀ (k : Nat) (q : Nat × va_E), k ∉ isC → ws[k]? = some q → q.1 < H.size ∧ ¬ va_A wc H.size q.1 := by
    intro k q hk1 hq
    have hl := (hP k q hq).lt
    refine ⟨hl, fun h => ?_⟩
    rcases h with ⟨k2, e, h⟩ | h
    · have h1 : (isC.map (fun i => ws[i]?))[k2]? = some (some (q.1, e)) := by rw [hC, List.getElem?_map, h]; rfl
      rw [List.getElem?_map] at h1
      cases hi : isC[k2]? with
      | none => rw [hi] at h1; cases h1
      | some i =>
        rw [hi] at h1
        have h4 : ws[i]? = some (q.1, e) := Option.some.inj h1
        have hij := hD.1 k i q (q.1, e) hq h4 rfl
        subst hij
        exact hk1 (List.mem_of_getElem? hi)
    · omega
  refine ⟨fun k q hq => ?_, fun i j x y hx hy hxy => ?_, fun k q hq => ?_⟩
  · rcases place_get isC w1 ws src hsrc hchk k q hlen hq with ⟨t, h1, h2⟩ | ⟨h1, h2⟩
    · exact hP1 t q h2
    · obtain ⟨g1, g2⟩ := apart k q h1 h2
      exact (hP k q h2).kept (hk q.1 g1 g2)
  · rcases place_get isC w1 ws src hsrc hchk i x hlen hx with ⟨t, h1, h2⟩ | ⟨h1, h2⟩ <;> rcases place_get isC w1 ws src hsrc hchk j y hlen hy with ⟨t', h3, h4⟩ | ⟨h3, h4⟩
    · have := hD1.1 t t' x y h2 h4 hxy
      subst this
      rw [h1] at h3
      exact Option.some.inj h3
    · exact absurd (hxy ▸ hD1.2 t x h2) (apart j y h3 h4).2
    · exact absurd (hxy.symm ▸ hD1.2 t' y h4) (apart i x h1 h2).2
    · exact hD.1 i j x y h2 h4 hxy
  · rcases place_get isC w1 ws src hsrc hchk k q hlen hq with ⟨t, h1, h2⟩ | ⟨h1, h2⟩
    · exact hF q.1 (hD1.2 t q h2)
    · exact hD.2 k q h2
theorem k_callV (X : Cx p s m args c D tys A cc own nL) (hP : va_P D vwCl ws H) (hD : va_D A ws) (hS : va_S A s.heap H locs) {y : MethodName} {bytes : ByteArray} {mL idx q0 ci n mc ms : Nat} {ret : Option FieldType} {rm : Room} {b : Nat} {As st0 stk : List Value} {fs : List Value} {q : vw_C} {wc w1 : va_W} {v : Option Value} (wn : va_W) (hM : Ct l y bytes mL ret rm D tys (.ref b :: As) wc w1 v mc ms)
    (h1 : Cond.methodLink own idx y ∈ gt) (h2 : Cond.instanceMethod y ∈ gt) (h3 : Cond.selects y.cls y y ∈ gt) (h4 : Cond.initialized y.cls ∈ gt) (h5 : Cond.code y bytes mL ret ∈ gt) (hrc : rm.cells = mc) (hrs : rm.slots = ms) (hd : y.cls ≠ "java/lang/invoke/MethodHandle" ∧ y.cls ≠ "java/lang/invoke/VarHandle" ∧ (parseMethodDescriptor y.desc).map (fun d => d.parameters.length) = some n) (hR : rm.frames + 1 ≤ R.frames ∧ 8 + (mL + 11) + rm.locals ≤ R.locals) (hcl : cells + mc ≤ R.cells ∧ slots + ms ≤ R.slots)
    (isC : List Nat) (src : List (Option Nat)) (hC : isC.map (fun i => ws[i]?) = wc.map some) (hnC : va_nd isC = true) (hsrc : ws.length = src.length) (hchk : chk src isC = true) (hlw : isC.length = w1.length) (hN : place w1 ws src = wn) (he : wc[q0]? = some (b, .inr (ci, fs))) (hc : vwCl[ci]? = some q) (hqc : q.1 = y.cls) (hsz : ls.size = nL) (hlen : As.length = n) (hst : st0 = As.reverse ++ .ref b :: rest) (hroom : (rest.map fun v => v.category).sum ≤ 8) (hstk : v.toList ++ rest = stk) (hdg : decode cc pc = .ok (.invokevirtual idx, 3))
    (kk : ∀ (H1 : Heap) (locs1 : List Loc), va_P D vwCl wn H1 → va_D A wn → va_S A s.heap H1 locs1 → W p l e R s m args below meth c H1 locs1 (cells + mc) (slots + ms) Q (F0 m (pc + 3) ls stk)) : W p l e R s m args below meth c H locs cells slots Q (F0 m pc ls st0) := by
  have hts := X.2.2.2.2.1
  have hK := X.2.2.2.2.2.1
  have hFc := va_free (wc := wc) hD hS X.2.2.2.2.2.2.2 isC hC
  have hPc : va_P D vwCl wc H := hP.sub isC (fm_of _ _ _ hC)
  have hDc := hD.sub isC hnC hC
  subst hst
  subst hstk
  refine callO (va_runV (C := y.cls) (As := As) (rest := rest) (nL := nL) ⟨X.1, X.2.1, X.2.2.1, X.2.2.2.1, hts⟩ (hM H.size) (cwV n hts ?_ rfl hrc hrs ⟨rfl, hd⟩ hR) ⟨PreC.blind, ?_, fun U hU hW => ⟨rfl, by rw [hU], by rw [hU]; exact hPc, va_K.moved hW.alike hK, hDc.weaken (fun _ _ _ _ => trivial), ?_⟩⟩ rfl hlen hsz rfl (lv_room hroom) hdg hcl) hS (fun q _ h => hFc q h) hFc (fun t H1 locs1 ht hvm hB hz1 hk1 hS1 => ?_)
  · exact goodIn_app (fun w hw => by
      simp only [List.mem_cons, List.not_mem_nil, or_false] at hw
      rcases hw with rfl | rfl | rfl | rfl
      · exact ⟨h1, good_of_word (gt_good _ h1)⟩
      · exact ⟨h2, good_of_word (gt_good _ h2)⟩
      · exact ⟨h3, good_of_word (gt_good _ h3)⟩
      · exact ⟨h4, good_of_word (gt_good _ h4)⟩) (gG (x := y) (c1 := bytes) (n1 := mL) (r1 := ret) h5)
  · have h := va_recv hK hPc (ci := ci) (q0 := q0) hc he
    rw [hqc] at h
    exact h
  · rw [hU]
    exact ZR.call hW hS hFc X.2.2.2.2.2.2.1
  · obtain ⟨hP1, hK1, hD1⟩ := hB
    rw [ht] at hP1
    obtain ⟨g1, g2⟩ := k_join hP hD isC src hsrc hchk hC hlw hk1 hFc hP1 hD1
    rw [hN] at g1 g2
    exact kk H1 locs1 g1 g2 hS1
theorem k_callS (X : Cx p s m args c D tys A cc own nL) (hP : va_P D vwCl ws H) (hD : va_D A ws) (hS : va_S A s.heap H locs) {y : MethodName} {bytes : ByteArray} {mL idx n mc ms : Nat} {ret : Option FieldType} {rm : Room} {As st0 stk : List Value} {wc w1 : va_W} {v : Option Value} (wn : va_W) (hM : Ct l y bytes mL ret rm D tys As wc w1 v mc ms)
    (h1 : Cond.methodLink own idx y ∈ gt) (h2 : Cond.static y ∈ gt) (h4 : Cond.initialized y.cls ∈ gt) (h5 : Cond.code y bytes mL ret ∈ gt) (hrc : rm.cells = mc) (hrs : rm.slots = ms) (hd : y.cls ≠ "java/lang/invoke/MethodHandle" ∧ y.cls ≠ "java/lang/invoke/VarHandle" ∧ (parseMethodDescriptor y.desc).map (fun d => d.parameters.length) = some n) (hR : rm.frames + 1 ≤ R.frames ∧ 8 + (mL + 11) + rm.locals ≤ R.locals) (hcl : cells + mc ≤ R.cells ∧ slots + ms ≤ R.slots)
    (isC : List Nat) (src : List (Option Nat)) (hC : isC.map (fun i => ws[i]?) = wc.map some) (hnC : va_nd isC = true) (hsrc : ws.length = src.length) (hchk : chk src isC = true) (hlw : isC.length = w1.length) (hN : place w1 ws src = wn) (hsz : ls.size = nL) (hlen : As.length = n) (hst : st0 = As.reverse ++ rest) (hroom : (rest.map fun v => v.category).sum ≤ 8) (hstk : v.toList ++ rest = stk) (hdg : decode cc pc = .ok (.invokestatic idx, 3))
    (kk : ∀ (H1 : Heap) (locs1 : List Loc), va_P D vwCl wn H1 → va_D A wn → va_S A s.heap H1 locs1 → W p l e R s m args below meth c H1 locs1 (cells + mc) (slots + ms) Q (F0 m (pc + 3) ls stk)) : W p l e R s m args below meth c H locs cells slots Q (F0 m pc ls st0) := by
  have hts := X.2.2.2.2.1
  have hK := X.2.2.2.2.2.1
  have hFc := va_free (wc := wc) hD hS X.2.2.2.2.2.2.2 isC hC
  have hPc : va_P D vwCl wc H := hP.sub isC (fm_of _ _ _ hC)
  have hDc := hD.sub isC hnC hC
  subst hst
  subst hstk
  refine callO (va_runS (As := As) (rest := rest) (nL := nL) ⟨X.1, X.2.1, X.2.2.1, X.2.2.2.1, hts⟩ (hM H.size) (va_cwS n hts ?_ rfl hrc hrs hd hR) ⟨PreC.blind, fun U hU hW => ⟨rfl, by rw [hU], by rw [hU]; exact hPc, va_K.moved hW.alike hK, hDc.weaken (fun _ _ _ _ => trivial), ?_⟩⟩ rfl hlen hsz rfl (lv_room hroom) hdg hcl) hS (fun q _ h => hFc q h) hFc (fun t H1 locs1 ht hvm hB hz1 hk1 hS1 => ?_)
  · exact goodIn_app (fun w hw => by
      simp only [List.mem_cons, List.not_mem_nil, or_false] at hw
      rcases hw with rfl | rfl | rfl
      · exact ⟨h1, good_of_word (gt_good _ h1)⟩
      · exact ⟨h2, good_of_word (gt_good _ h2)⟩
      · exact ⟨h4, good_of_word (gt_good _ h4)⟩) (gG (x := y) (c1 := bytes) (n1 := mL) (r1 := ret) h5)
  · rw [hU]
    exact ZR.call hW hS hFc X.2.2.2.2.2.2.1
  · obtain ⟨hP1, hK1, hD1⟩ := hB
    rw [ht] at hP1
    obtain ⟨g1, g2⟩ := k_join hP hD isC src hsrc hchk hC hlw hk1 hFc hP1 hD1
    rw [hN] at g1 g2
    exact kk H1 locs1 g1 g2 hS1
end KT
