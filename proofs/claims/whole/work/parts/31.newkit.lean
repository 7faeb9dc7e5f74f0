/-! Constructors: what they make has addresses of its own. -/
def QN (D : va_G) (tys : List (ClassId × FieldType)) (ws' : (Nat → Nat) → va_W) (A : Nat → Prop) : Array Value → State → Outcome → State → Prop := fun _ st oc t => (oc = .returned none ∧ ∃ ad : Nat → Nat, va_P D vwCl (ws' ad) t.heap ∧ va_K D vwCl tys t ∧ va_D A (ws' ad)) ∧ va_F A st t
def CtN (l : Launch) (y : MethodName) (cc : ByteArray) (mL : Nat) (rm : Room) (D : va_G) (tys : List (ClassId × FieldType)) (av : List Value) (ws : va_W) (ws' : (Nat → Nat) → va_W) (mc ms : Nat) : Prop :=
  ∀ sz, Met l y (.code y cc mL none :: gt) rm (va_Pc av (PreC D tys ws sz)) (QN D tys ws' (va_A ws sz)) mc ms (va_A ws sz)
def RtN (p : Program) (l : Launch) (e : Env) (R : Room) (s : State) (m : MethodId) (args : Array Value) (below : List Frame) (meth : Method) (c : Code) (D : va_G) (A : Nat → Prop) (cc : ByteArray) (mc ms : Nat) (Q : State → Prop) (ws' : (Nat → Nat) → va_W) : Prop :=
  ∀ (H : Heap) (locs : List Loc) (pc : Nat) (ls : Array Slot) (ad : Nat → Nat), decode cc pc = .ok (.return_, 1) → va_P D vwCl (ws' ad) H → va_D A (ws' ad) → va_S A s.heap H locs → W p l e R s m args below meth c H locs mc ms Q (F0 m pc ls [])
theorem mkN {l : Launch} {y : MethodName} {cc : ByteArray} {mL : Nat} {rm : Room} {D : va_G} {tys : List (ClassId × FieldType)} {av : List Value} {ws : va_W} {ws' : (Nat → Nat) → va_W} {mc ms : Nat} (hy : plainName y.cls = true) (hav : (lg_sl av).length ≤ mL)
    (h : ∀ (p : Program) (e : Env) (s : State) (m : MethodId) (args : Array Value) (below : List Frame) (meth : Method) (c : Code) (A : Nat → Prop) (Q : State → Prop), Cx p s m args c D tys A cc y.cls mL → meth.name = y.name → RtN p l e rm s m args below meth c D A cc mc ms Q ws' → ∀ ls : Array Slot, lv_has ls mL (lv_args 0 av) → ∀ (H : Heap) (locs : List Loc), va_P D vwCl ws H → va_D A ws → va_S A s.heap H locs → W p l e rm s m args below meth c H locs 0 0 Q (F0 m 0 ls [])) :
    CtN l y cc mL rm D tys av ws ws' mc ms := by
  intro sz
  refine Met.ofW (cc := cc) (maxL := mL) (ret := none) hy rfl ?_
  intro p e s m args below meth c s₁ B hml hv
  obtain ⟨rfl, hsz, hP, hK, hD0, hZ⟩ := hv
  have hts := atoms_spec (ws := Cond.code y cc mL none :: gt) B.pre
  have hown : s.vm.findClass y.cls = some m.cls := findClass_of_methodNamed B.named
  have hlocks := B.notSynchronized
  have hr := B.returns
  have hin : meth.name = y.name := (name_of_methodNamed B.named B.method).1
  subst hsz
  rw [lg_entry_eq]
  refine h p e s m av.toArray below meth c (va_A ws s.heap.size) _ ⟨B.exec, B.bytes, hml, hown, fun w hw => hts w (List.mem_cons_of_mem _ hw), hK, hZ, fun q h => Or.inr h⟩ hin ?_ _ (lv_entry av hav) s.heap [] hP hD0.self va_S.rf
  intro H locs pc ls ad hd hP9 hD9 hS9
  exact W.vret B.exec B.bytes hr (fun t ht hW => ⟨⟨rfl, ad, by rw [ht]; exact hP9, va_K.moved hW.alike hK, hD9⟩, hS9.F ht⟩) hS9.2.2 hd
section KN
variable {p : Program} {l : Launch} {e : Env} {R : Room} {s : State} {m : MethodId} {args : Array Value} {below : List Frame} {meth : Method} {c : Code} {H : Heap} {locs : List Loc} {cells slots : Nat} {Q : State → Prop}
variable {cc : ByteArray} {pc nL : Nat} {ls : Array Slot} {rest : List Value} {D : va_G} {tys : List (ClassId × FieldType)} {A : Nat → Prop} {ws : va_W} {own : String} {a : Nat}
theorem k_objI (X : Cx p s m args c D tys A cc own nL) {idx : Nat} (hl : Cond.methodLink own idx objectInit ∈ gt) (hsz : ls.size = nL) (hfr : 1 ≤ R.frames) (hlo : 2 * (F0 m pc ls (.ref a :: rest)).monitorRoom + (rest.map fun v => v.category).sum + 12 ≤ R.locals) (hdg : decode cc pc = .ok (.invokespecial idx, 3))
    (kk : W p l e R s m args below meth c H locs cells slots Q (F0 m (pc + 3) ls rest)) : W p l e R s m args below meth c H locs cells slots Q (F0 m pc ls (.ref a :: rest)) :=
  W.objInit X.1 X.2.1 X.2.2.2.1 (X.2.2.2.2.1 _ hl) (X.2.2.2.2.1 _ im_objectInit) (X.2.2.2.2.1 _ cd_objectInit) rfl (by rw [X.2.2.1]; exact hsz) rfl hdg hfr hlo kk
theorem k_putF (X : Cx p s m args c D tys A cc own nL) (hin2 : meth.name = "<init>") (hP : va_P D vwCl ws H) (hD : va_D A ws) (hS : va_S A s.heap H locs) {ref C : String} {T : u_T} {N ci index : Nat} {fs : List Value} {v : Value} {ty0 : Nat → FieldType} (wn : va_W) (q0 : Nat) (he : ws[q0]? = some (a, .inr (ci, fs))) (hc : vwCl[ci]? = some (C, T, N)) (hin : ∀ w ∈ u_ws C T N, w ∈ gt) (hty : ∀ k, k < N → parseFieldDescriptor (T k).2.2.1 = some (ty0 k)) (hnm : ∀ a, a < N → ∀ b, b < N → a ≠ b → (T a).2.1 ≠ (T b).2.1) (k : Nat) (hk : k < N) (hlink : Cond.fieldLink own index ref (T k).2.1 (T k).2.2.1 ∈ gt) (hsame : (T k).1 = ref) (hfin : (T k).2.2.2 = true) (hdecl : (T k).1 = own) (hn : narrow (ty0 k) v = v) (hfit : fits (ty0 k) v = true) (hl : k < fs.length) (hw : ws.set q0 (a, .inr (ci, fs.set k v)) = wn) (hdg : decode cc pc = .ok (.putfield index, 3))
    (kk : ∀ (H1 : Heap) (locs1 : List Loc), va_P D vwCl wn H1 → va_D A wn → va_S A s.heap H1 locs1 → W p l e R s m args below meth c H1 locs1 cells slots Q (F0 m (pc + 3) ls rest)) : W p l e R s m args below meth c H locs cells slots Q (F0 m pc ls (v :: .ref a :: rest)) := by
  subst hw
  exact va_putF X.1 X.2.1 X.2.2.2.2.1 hin ty0 hty hnm X.2.2.2.1 X.2.2.2.2.2.1 hP hD hS q0 he hc k hk (X.2.2.2.2.1 _ hlink) (fun x h => by rw [← hsame]; exact h) hfin hin2 hdecl (hty k hk) hn hfit hl hdg kk
theorem k_newI (X : Cx p s m args c D tys A cc own nL) {cA : ClassId} (t0 : Nat) (ht : tys[t0]? = some (cA, .int)) (hP : va_P D vwCl ws H) (hD : va_D A ws) (hS : va_S A s.heap H locs) {n : Int32} (N : Nat) (hn : ¬ n < 0) (hN : n.toNatClampNeg = N) (hb : N * componentBytes .int ≤ 536870912) (hcells : cells + 1 ≤ R.cells) (hslots : slots + N ≤ R.slots) (hdg : decode cc pc = .ok (.newarray .int, 2))
    (kk : ∀ (q : Nat) (H1 : Heap), va_P D vwCl (ws ++ [rI cA q N (fun _ => 0)]) H1 → va_D A (ws ++ [rI cA q N (fun _ => 0)]) → va_S A s.heap H1 locs → W p l e R s m args below meth c H1 locs (cells + 1) (slots + N) Q (F0 m (pc + 2) ls (.ref q :: rest))) : W p l e R s m args below meth c H locs cells slots Q (F0 m pc ls (.int n :: rest)) := by
  have hK := X.2.2.2.2.2.1
  refine va_newa (atype := .int) X.1 X.2.1 (X.2.2.2.2.1 _ ac_int) (ty := .int) rfl hK hP hD hS X.2.2.2.2.2.2.2 (a0 := (N, .inl (fun _ => 0))) (fun cA => rfl) hn hN hb hcells hslots hdg (fun q cB H1 hK1 hP1 hD1 hS1 => ?_)
  have e1 : s.vm.findClass ("[" ++ FieldType.int.toString) = some cA := (hK.2 t0 _ ht).2
  have e2 : s.vm.findClass ("[" ++ FieldType.int.toString) = some cB := (hK1.2 tys.length (cB, .int) (by simp)).2
  have e3 : cB = cA := Option.some.inj (e2.symm.trans e1)
  subst e3
  exact kk q H1 hP1 hD1 hS1
theorem k_newZ (X : Cx p s m args c D tys A cc own nL) {cA : ClassId} (t0 : Nat) (ht : tys[t0]? = some (cA, .boolean)) (hP : va_P D vwCl ws H) (hD : va_D A ws) (hS : va_S A s.heap H locs) {n : Int32} (N : Nat) (hn : ¬ n < 0) (hN : n.toNatClampNeg = N) (hb : N * componentBytes .boolean ≤ 536870912) (hcells : cells + 1 ≤ R.cells) (hslots : slots + N ≤ R.slots) (hdg : decode cc pc = .ok (.newarray .boolean, 2))
    (kk : ∀ (q : Nat) (H1 : Heap), va_P D vwCl (ws ++ [rZ cA q N (fun _ => 0)]) H1 → va_D A (ws ++ [rZ cA q N (fun _ => 0)]) → va_S A s.heap H1 locs → W p l e R s m args below meth c H1 locs (cells + 1) (slots + N) Q (F0 m (pc + 2) ls (.ref q :: rest))) : W p l e R s m args below meth c H locs cells slots Q (F0 m pc ls (.int n :: rest)) := by
  have hK := X.2.2.2.2.2.1
  refine va_newa (atype := .boolean) X.1 X.2.1 (X.2.2.2.2.1 _ ac_boolean) (ty := .boolean) rfl hK hP hD hS X.2.2.2.2.2.2.2 (a0 := (N, .inl (fun _ => 0))) (fun cA => rfl) hn hN hb hcells hslots hdg (fun q cB H1 hK1 hP1 hD1 hS1 => ?_)
  have e1 : s.vm.findClass ("[" ++ FieldType.boolean.toString) = some cA := (hK.2 t0 _ ht).2
  have e2 : s.vm.findClass ("[" ++ FieldType.boolean.toString) = some cB := (hK1.2 tys.length (cB, .boolean) (by simp)).2
  have e3 : cB = cA := Option.some.inj (e2.symm.trans e1)
  subst e3
  exact kk q H1 hP1 hD1 hS1
theorem k_newq (X : Cx p s m args c D tys A cc own nL) {cA : ClassId} {C : String} {idx : Nat} (t0 : Nat) (ht : tys[t0]? = some (cA, .object C)) (hcl : Cond.classLink own idx C ∈ gt) (hov : va_AO C s) (hP : va_P D vwCl ws H) (hD : va_D A ws) (hS : va_S A s.heap H locs) {n : Int32} (N : Nat) (hn : ¬ n < 0) (hN : n.toNatClampNeg = N) (hb : N * 4 ≤ 536870912) (hcells : cells + 1 ≤ R.cells) (hslots : slots + N ≤ R.slots) (hdg : decode cc pc = .ok (.anewarray idx, 3))
    (kk : ∀ (q : Nat) (H1 : Heap), va_P D vwCl (ws ++ [rD cA q N (List.replicate N none)]) H1 → va_D A (ws ++ [rD cA q N (List.replicate N none)]) → va_S A s.heap H1 locs → W p l e R s m args below meth c H1 locs (cells + 1) (slots + N) Q (F0 m (pc + 3) ls (.ref q :: rest))) : W p l e R s m args below meth c H locs cells slots Q (F0 m pc ls (.int n :: rest)) := by
  have hK := X.2.2.2.2.2.1
  refine va_newq X.1 X.2.1 X.2.2.2.1 (X.2.2.2.2.1 _ hcl) hov hK hP hD hS X.2.2.2.2.2.2.2 hn hN hb hcells hslots hdg (fun q cB H1 hK1 hP1 hD1 hS1 => ?_)
  obtain ⟨kA, comp, -, -, -, e1⟩ := (hK.2 t0 _ ht).2
  obtain ⟨kB, comp2, -, -, -, e2⟩ := (hK1.2 tys.length (cB, .object C) (by simp)).2
  have e3 : cB = cA := Option.some.inj (e2.symm.trans e1)
  subst e3
  rw [fam_none N] at hP1 hD1
  exact kk q H1 hP1 hD1 hS1
theorem k_new (X : Cx p s m args c D tys A cc own nL) {C : String} {T : u_T} {N ci idx : Nat} {ty : Nat → FieldType} (hcl : Cond.classLink own idx C ∈ gt) (hia : Cond.instantiable C N ∈ gt) (hini : Cond.initialized C ∈ gt) (hin : ∀ w ∈ u_ws C T N, w ∈ gt) (hty : ∀ k, k < N → parseFieldDescriptor (T k).2.2.1 = some (ty k)) (hc : vwCl[ci]? = some (C, T, N)) (hP : va_P D vwCl ws H) (hD : va_D A ws) (hS : va_S A s.heap H locs) (fs : List Value) (hfs : ∀ j, j < N → defaultValue (ty j) = vp_V fs j) (hcells : cells + 1 ≤ R.cells) (hslots : slots + N ≤ R.slots) (hdg : decode cc pc = .ok (.new idx, 3))
    (kk : ∀ (q : Nat) (H1 : Heap), va_P D vwCl (ws ++ [(q, .inr (ci, fs))]) H1 → va_D A (ws ++ [(q, .inr (ci, fs))]) → va_S A s.heap H1 locs → W p l e R s m args below meth c H1 locs (cells + 1) (slots + N) Q (F0 m (pc + 3) ls (.ref q :: rest))) : W p l e R s m args below meth c H locs cells slots Q (F0 m pc ls rest) :=
  va_new X.1 X.2.1 X.2.2.2.2.1 hin ty hty X.2.2.2.1 (X.2.2.2.2.1 _ hcl) (X.2.2.2.2.1 _ hia) (X.2.2.2.2.1 _ hini) X.2.2.2.2.2.1 hP hD hS X.2.2.2.2.2.2.2 hc hfs hcells hslots hdg kk
theorem callN {st0 : List Value} {av : Array Value} {A0 A1 : Nat → Prop} {H0 : Heap} {mc ms : Nat} {free : Addr → Prop} {w1 : (Nat → Nat) → va_W} (hr : va_Run p l e R s m args below meth c H locs cells slots mc ms (F0 m pc ls st0) rest (QN D tys w1 A1 av) free) (hS : va_S A0 H0 H locs) (hA : ∀ q, q < H.size → A1 q → A0 q) (hf : ∀ q, free q → A0 q)
    (kk : ∀ (t : State) (H1 : Heap) (locs1 : List Loc) (ad : Nat → Nat), t.heap = H1 → (va_P D vwCl (w1 ad) t.heap ∧ va_K D vwCl tys t ∧ va_D A1 (w1 ad)) → H.size ≤ H1.size → (∀ q : Nat, q < H.size → ¬ A1 q → H1[q]? = H[q]?) → va_S A0 H0 H1 locs1 → W p l e R s m args below meth c H1 locs1 (cells + mc) (slots + ms) Q (F0 m (pc + 3) ls rest)) : W p l e R s m args below meth c H locs cells slots Q (F0 m pc ls st0) := by
  intro T hT X
  obtain ⟨v', st₀, t, T', L, h0, X', hL, e1, e2, ⟨⟨hv, ad, hb⟩, hz, hk⟩, st⟩ := hr T hT X
  cases hv
  rw [h0] at hz hk
  obtain ⟨t2, a1, b1⟩ := kk t T'.heap (locs ++ L) ad e1.symm hb (by rw [e1]; exact hz) (fun q h1 h2 => by rw [e1]; exact hk q h1 h2)
    ⟨Nat.le_trans hS.1 (by rw [e1]; exact hz), fun q h1 h2 => by rw [e1, hk q (Nat.lt_of_lt_of_le h1 hS.1) (fun z => h2 (hA q (Nat.lt_of_lt_of_le h1 hS.1) z))]; exact hS.2.1 q h1 h2, fun q hq => by
      rcases List.mem_append.mp hq with h | h
      · exact hS.2.2 q h
      · exact hf _ (hL q h)⟩ T' rfl X'
  exact ⟨t2, st t2 a1, b1⟩
/-- the world behind a constructor: the cells that were there but the last, then what came of it -/
theorem k_joinN {w0 w1 : va_W} {H1 : Heap} {b : Nat} {en : va_E} (hP : va_P D vwCl (w0 ++ [(b, en)]) H) (hD : va_D A (w0 ++ [(b, en)])) (hk : ∀ q : Nat, q < H.size → ¬ va_A [(b, en)] H.size q → H1[q]? = H[q]?) (hF : ∀ q, va_A [(b, en)] H.size q → A q) (hP1 : va_P D vwCl w1 H1) (hD1 : va_D (va_A [(b, en)] H.size) w1) : va_P D vwCl (w0 ++ w1) H1 ∧ va_D A (w0 ++ w1) := by
  have g0 : ∀ (k : Nat) (q : Nat × va_E), w0[k]? = some q → (w0 ++ [(b, en)])[k]? = some q := fun k q h => by
    rw [List.getElem?_append_left (List.getElem?_eq_some_iff.mp h).1]; exact h
  have gb : (w0 ++ [(b, en)])[w0.length]? = some (b, en) := by simp
  have apart : ∀ (k : Nat) (q : Nat × va_E), w0[k]? = some q → q.1 < H.size ∧ ¬ va_A [(b, en)] H.size q.1 := by
    intro k q hq
    have hl := (hP k q (g0 k q hq)).lt
    refine ⟨hl, fun h => ?_⟩
    rcases h with ⟨k2, e2, h⟩ | h
    · have h5 : b = q.1 := by
        cases k2 with
        | zero => simp at h; exact h.1
        | succ n => simp at h
      have := hD.1 k w0.length q (b, en) (g0 k q hq) gb h5.symm
      have hlt := (List.getElem?_eq_some_iff.mp hq).1
      omega
    · omega
  refine ⟨va_P.app (fun k q hq => ?_) hP1, va_D.app ⟨fun i j x y hi hj hxy => hD.1 i j x y (g0 i x hi) (g0 j y hj) hxy, fun k q hq => hD.2 k q (g0 k q hq)⟩ (hD1.weaken (fun k q _ h => hF q.1 h)) (fun i j x y hx hy hxy => ?_)⟩
  · obtain ⟨g1, g2⟩ := apart k q hq
    exact (hP k q (g0 k q hq)).kept (hk q.1 g1 g2)
  · exact (apart i x hx).2 (by rw [hxy]; exact hD1.2 j y hy)
theorem k_callN (X : Cx p s m args c D tys A cc own nL) {w0 : va_W} {b : Nat} {en : va_E} (hP : va_P D vwCl (w0 ++ [(b, en)]) H) (hD : va_D A (w0 ++ [(b, en)])) (hS : va_S A s.heap H locs) {y : MethodName} {bytes : ByteArray} {mL idx mc ms : Nat} {rm : Room} {w1 : (Nat → Nat) → va_W} (hM : CtN l y bytes mL rm D tys [.ref b] [(b, en)] w1 mc ms) (hyn : y.name = "<init>") (him : Cond.instanceMethod y ∈ gt) (h4 : Cond.initialized y.cls ∈ gt) (h5 : Cond.code y bytes mL none ∈ gt) (hlk : Cond.methodLink own idx y ∈ gt ∨ va_Nw (.methodLinkNest own idx y "LaterJury") s) (hrc : rm.cells = mc) (hrs : rm.slots = ms) (hd : y.cls ≠ "java/lang/invoke/MethodHandle" ∧ y.cls ≠ "java/lang/invoke/VarHandle" ∧ (parseMethodDescriptor y.desc).map (fun d => d.parameters.length) = some 0) (hR : rm.frames + 1 ≤ R.frames ∧ 8 + (mL + 11) + rm.locals ≤ R.locals) (hcl : cells + mc ≤ R.cells ∧ slots + ms ≤ R.slots) (hsz : ls.size = nL) (hroom : (rest.map fun v => v.category).sum ≤ 8) (hdg : decode cc pc = .ok (.invokespecial idx, 3))
    (kk : ∀ (H1 : Heap) (locs1 : List Loc) (ad : Nat → Nat), va_P D vwCl (w0 ++ w1 ad) H1 → va_D A (w0 ++ w1 ad) → va_S A s.heap H1 locs1 → W p l e R s m args below meth c H1 locs1 (cells + mc) (slots + ms) Q (F0 m (pc + 3) ls rest)) : W p l e R s m args below meth c H locs cells slots Q (F0 m pc ls (.ref b :: rest)) := by
  have hts := X.2.2.2.2.1
  have hK := X.2.2.2.2.2.1
  have hFc : ∀ q, va_A [(b, en)] H.size q → A q := by
    intro q h
    rcases h with ⟨k, e2, h⟩ | h
    · have h5 : b = q := by
        cases k with
        | zero => simp at h; exact h.1
        | succ n => simp at h
      rw [← h5]
      exact hD.2 w0.length (b, en) (by simp)
    · exact X.2.2.2.2.2.2.2 q (Nat.le_trans hS.1 h)
  have hPc : va_P D vwCl [(b, en)] H := fun k q h => hP (w0.length + k) q (by rw [List.getElem?_append_right (by omega)]; simpa using h)
  have hDc : va_D (fun _ => True) [(b, en)] := ⟨fun i j x z hi hj _ => by
    have h1 := (List.getElem?_eq_some_iff.mp hi).1
    have h2 := (List.getElem?_eq_some_iff.mp hj).1
    simp at h1 h2
    omega, fun _ _ _ => trivial⟩
  have hrun : va_Run p l e R s m args below meth c H locs cells slots mc ms (F0 m pc ls (.ref b :: rest)) rest (QN D tys w1 (va_A [(b, en)] H.size) (Value.ref b :: ([] : List Value)).toArray) (va_A [(b, en)] H.size) := by
    have hpre : PreS s H (va_Pc [.ref b] (PreC D tys [(b, en)] H.size)) (.ref b :: []) := ⟨PreC.blind, fun U hU hW => ⟨rfl, by rw [hU], by rw [hU]; exact hPc, va_K.moved hW.alike hK, hDc, by rw [hU]; exact ZR.call hW hS hFc X.2.2.2.2.2.2.1⟩⟩
    rcases hlk with hlk | hlk
    · exact va_runI (As := []) (rest := rest) (nL := nL) ⟨X.1, X.2.1, X.2.2.1, X.2.2.2.1, hts⟩ (hM H.size) (cwI 0 hts (gG (x := y) (c1 := bytes) (n1 := mL) (r1 := none) h5) rfl hrc hrs (hts _ h4) (hts _ hlk) (hts _ him) hyn hd hR) hpre rfl rfl hsz rfl (lv_room hroom) hdg hcl
    · exact va_runIN (As := []) (rest := rest) (nL := nL) ⟨X.1, X.2.1, X.2.2.1, X.2.2.2.1, hts⟩ (hM H.size) ⟨va_cnB 0 hts (gG (x := y) (c1 := bytes) (n1 := mL) (r1 := none) h5) rfl hrc hrs hlk (hts _ h4) hd hR, hyn, hts _ him⟩ hpre rfl rfl hsz rfl (lv_room hroom) hdg hcl
  refine callN hrun hS (fun q _ h => hFc q h) hFc (fun t H1 locs1 ad ht hB hz1 hk1 hS1 => ?_)
  obtain ⟨hP1, hK1, hD1⟩ := hB
  rw [ht] at hP1
  obtain ⟨g1, g2⟩ := k_joinN hP hD hk1 hFc hP1 hD1
  exact kk H1 locs1 ad g1 g2 hS1
end KN
