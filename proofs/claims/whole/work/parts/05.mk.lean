/-! From a walk of a method's body to its contract. -/
def Rt (p : Program) (l : Launch) (e : Env) (R : Room) (s : State) (m : MethodId) (args : Array Value) (below : List Frame) (meth : Method) (c : Code) (D : va_G) (A : Nat → Prop) (cc : ByteArray) (mc ms : Nat) (Q : State → Prop) (ws' : va_W) (op : Instr) (stk : List Value) : Prop :=
  ∀ (H : Heap) (locs : List Loc) (pc : Nat) (ls : Array Slot), decode cc pc = .ok (op, 1) → va_P D vwCl ws' H → va_D A ws' → va_S A s.heap H locs → W p l e R s m args below meth c H locs mc ms Q (F0 m pc ls stk)
section MK
variable {l : Launch} {y : MethodName} {cc : ByteArray} {mL : Nat} {rm : Room} {D : va_G} {tys : List (ClassId × FieldType)} {av : List Value} {ws ws' : va_W} {mc ms : Nat}
theorem mkI {r : Int32} (hy : plainName y.cls = true) (hav : (lg_sl av).length ≤ mL)
    (h : ∀ (p : Program) (e : Env) (s : State) (m : MethodId) (args : Array Value) (below : List Frame) (meth : Method) (c : Code) (A : Nat → Prop) (Q : State → Prop), Cx p s m args c D tys A cc y.cls mL → Rt p l e rm s m args below meth c D A cc mc ms Q ws' .ireturn [.int r] → ∀ ls : Array Slot, lv_has ls mL (lv_args 0 av) → ∀ (H : Heap) (locs : List Loc), va_P D vwCl ws H → va_D A ws → va_S A s.heap H locs → W p l e rm s m args below meth c H locs 0 0 Q (F0 m 0 ls [])) :
    Ct l y cc mL (some .int) rm D tys av ws ws' (some (.int r)) mc ms := by
  intro sz
  refine Met.ofW (cc := cc) (maxL := mL) (ret := some .int) hy rfl ?_
  intro p e s m args below meth c s₁ B hml hv
  obtain ⟨rfl, hsz, hP, hK, hD0, hZ⟩ := hv
  have hts := atoms_spec (ws := Cond.code y cc mL (some .int) :: gt) B.pre
  have hown : s.vm.findClass y.cls = some m.cls := findClass_of_methodNamed B.named
  have hlocks := B.notSynchronized
  have hr := B.returns
  subst hsz
  rw [lg_entry_eq]
  refine h p e s m av.toArray below meth c (va_A ws s.heap.size) _ ⟨B.exec, B.bytes, hml, hown, fun w hw => hts w (List.mem_cons_of_mem _ hw), hK, hZ, fun q h => Or.inr h⟩ ?_ _ (lv_entry av hav) s.heap [] hP hD0.self va_S.rf
  intro H locs pc ls hd hP9 hD9 hS9
  exact W.iret (v := r) B.exec B.bytes hr (fun t ht hW => ⟨⟨rfl, by rw [ht]; exact hP9, va_K.moved hW.alike hK, hD9⟩, hS9.F ht⟩) hS9.2.2 hd
theorem bI_nar (b : Bool) : narrow .boolean (.int (bI b)) = .int (bI b) := by cases b <;> rfl
theorem mkZ {r : Bool} (hy : plainName y.cls = true) (hav : (lg_sl av).length ≤ mL)
    (h : ∀ (p : Program) (e : Env) (s : State) (m : MethodId) (args : Array Value) (below : List Frame) (meth : Method) (c : Code) (A : Nat → Prop) (Q : State → Prop), Cx p s m args c D tys A cc y.cls mL → Rt p l e rm s m args below meth c D A cc mc ms Q ws' .ireturn [.int (bI r)] → ∀ ls : Array Slot, lv_has ls mL (lv_args 0 av) → ∀ (H : Heap) (locs : List Loc), va_P D vwCl ws H → va_D A ws → va_S A s.heap H locs → W p l e rm s m args below meth c H locs 0 0 Q (F0 m 0 ls [])) :
    Ct l y cc mL (some .boolean) rm D tys av ws ws' (some (.int (bI r))) mc ms := by
  intro sz
  refine Met.ofW (cc := cc) (maxL := mL) (ret := some .boolean) hy rfl ?_
  intro p e s m args below meth c s₁ B hml hv
  obtain ⟨rfl, hsz, hP, hK, hD0, hZ⟩ := hv
  have hts := atoms_spec (ws := Cond.code y cc mL (some .boolean) :: gt) B.pre
  have hown : s.vm.findClass y.cls = some m.cls := findClass_of_methodNamed B.named
  have hlocks := B.notSynchronized
  have hr := B.returns
  subst hsz
  rw [lg_entry_eq]
  refine h p e s m av.toArray below meth c (va_A ws s.heap.size) _ ⟨B.exec, B.bytes, hml, hown, fun w hw => hts w (List.mem_cons_of_mem _ hw), hK, hZ, fun q h => Or.inr h⟩ ?_ _ (lv_entry av hav) s.heap [] hP hD0.self va_S.rf
  intro H locs pc ls hd hP9 hD9 hS9
  exact W.zret (v := bI r) B.exec B.bytes hr (bI_nar r) (fun t ht hW => ⟨⟨rfl, by rw [ht]; exact hP9, va_K.moved hW.alike hK, hD9⟩, hS9.F ht⟩) hS9.2.2 hd
theorem mkL {r : Int64} (hy : plainName y.cls = true) (hav : (lg_sl av).length ≤ mL)
    (h : ∀ (p : Program) (e : Env) (s : State) (m : MethodId) (args : Array Value) (below : List Frame) (meth : Method) (c : Code) (A : Nat → Prop) (Q : State → Prop), Cx p s m args c D tys A cc y.cls mL → Rt p l e rm s m args below meth c D A cc mc ms Q ws' .lreturn [.long r] → ∀ ls : Array Slot, lv_has ls mL (lv_args 0 av) → ∀ (H : Heap) (locs : List Loc), va_P D vwCl ws H → va_D A ws → va_S A s.heap H locs → W p l e rm s m args below meth c H locs 0 0 Q (F0 m 0 ls [])) :
    Ct l y cc mL (some .long) rm D tys av ws ws' (some (.long r)) mc ms := by
  intro sz
  refine Met.ofW (cc := cc) (maxL := mL) (ret := some .long) hy rfl ?_
  intro p e s m args below meth c s₁ B hml hv
  obtain ⟨rfl, hsz, hP, hK, hD0, hZ⟩ := hv
  have hts := atoms_spec (ws := Cond.code y cc mL (some .long) :: gt) B.pre
  have hown : s.vm.findClass y.cls = some m.cls := findClass_of_methodNamed B.named
  have hlocks := B.notSynchronized
  have hr := B.returns
  subst hsz
  rw [lg_entry_eq]
  refine h p e s m av.toArray below meth c (va_A ws s.heap.size) _ ⟨B.exec, B.bytes, hml, hown, fun w hw => hts w (List.mem_cons_of_mem _ hw), hK, hZ, fun q h => Or.inr h⟩ ?_ _ (lv_entry av hav) s.heap [] hP hD0.self va_S.rf
  intro H locs pc ls hd hP9 hD9 hS9
  exact W.lret (v := r) B.exec B.bytes hr (fun t ht hW => ⟨⟨rfl, by rw [ht]; exact hP9, va_K.moved hW.alike hK, hD9⟩, hS9.F ht⟩) hS9.2.2 hd
theorem mkV (hy : plainName y.cls = true) (hav : (lg_sl av).length ≤ mL)
    (h : ∀ (p : Program) (e : Env) (s : State) (m : MethodId) (args : Array Value) (below : List Frame) (meth : Method) (c : Code) (A : Nat → Prop) (Q : State → Prop), Cx p s m args c D tys A cc y.cls mL → meth.name = y.name → Rt p l e rm s m args below meth c D A cc mc ms Q ws' .return_ [] → ∀ ls : Array Slot, lv_has ls mL (lv_args 0 av) → ∀ (H : Heap) (locs : List Loc), va_P D vwCl ws H → va_D A ws → va_S A s.heap H locs → W p l e rm s m args below meth c H locs 0 0 Q (F0 m 0 ls [])) :
    Ct l y cc mL none rm D tys av ws ws' none mc ms := by
  intro sz
  refine Met.ofW (cc := cc) (maxL := mL) (ret := none) hy rfl ?_
  intro p e s m args below meth c s₁ B hml hv
  obtain ⟨rfl, hsz, hP, hK, hD0, hZ⟩ := hv
  have hts := atoms_spec (ws := Cond.code y cc mL none :: gt) B.pre
  have hown : s.vm.findClass y.cls = some m.cls := findClass_of_methodNamed B.named
  have hlocks := B.notSynchronized
  have hr := B.returns
  have hin : meth.name = y.name := (name_of_methodNamed B.named B.method).1
  subst hsz
  rw [lg_entry_eq]
  refine h p e s m av.toArray below meth c (va_A ws s.heap.size) _ ⟨B.exec, B.bytes, hml, hown, fun w hw => hts w (List.mem_cons_of_mem _ hw), hK, hZ, fun q h => Or.inr h⟩ hin ?_ _ (lv_entry av hav) s.heap [] hP hD0.self va_S.rf
  intro H locs pc ls hd hP9 hD9 hS9
  exact W.vret B.exec B.bytes hr (fun t ht hW => ⟨⟨rfl, by rw [ht]; exact hP9, va_K.moved hW.alike hK, hD9⟩, hS9.F ht⟩) hS9.2.2 hd
end MK
/-! Switches: a known number on the stack. -/
section SW
variable {p : Program} {l : Launch} {e : Env} {R : Room} {s : State} {m : MethodId} {args : Array Value} {below : List Frame} {meth : Method} {c : Code} {H : Heap} {locs : List Loc} {cells slots : Nat} {Q : State → Prop} {pc : Nat} {ls : Array Slot} {rest : List Value}
theorem top_eq {x v : Int32} (h : x = v) (k : W p l e R s m args below meth c H locs cells slots Q (F0 m pc ls (.int v :: rest))) : W p l e R s m args below meth c H locs cells slots Q (F0 m pc ls (.int x :: rest)) := by subst h; exact k
end SW
theorem i32_ne {x : Int32} {v : Int32} {k : Int} (hv : v.toInt = k) (h : ¬ x = v) : x.toInt ≠ k := fun q => h (Int32.toInt_inj.mp (q.trans hv.symm))
