def fX0_append (a1 : Int32) (a2 : Int32) (d_size : Int32) (d_year : Nat → Int32) (d_kind : Nat → Int32) : Option (Int32 × (Nat → Int32) × (Nat → Int32)) :=
  if d_size < 6 then if inb d_size 6 = true then if inb d_size 6 = true then some (d_size + 1, upd d_year d_size.toNatClampNeg a1, upd d_kind d_size.toNatClampNeg a2) else none else none else some (d_size, d_year, d_kind)
set_option maxHeartbeats 4000000 in
set_option maxRecDepth 100000 in
theorem ctX0_append (l : Launch) (D : va_G) (cI cZ cD cH : ClassId) (qd : Nat) (qd_year : Nat) (qd_kind : Nat) (a1 : Int32) (a2 : Int32) (d_size : Int32) (d_year : Nat → Int32) (d_kind : Nat → Int32) (o : Int32 × (Nat → Int32) × (Nat → Int32)) (hf : fX0_append a1 a2 d_size d_year d_kind = some o) : Ct l yX0_append cX0_append 3 none { frames := 0, cells := 0, slots := 0, locals := 0 } D (Tys cI cZ cD cH) [.ref qd, .int a1, .int a2] [(qd, .inr (0, [.int d_size, .ref qd_year, .ref qd_kind])), rI cI qd_year 6 d_year, rI cI qd_kind 6 d_kind] [(qd, .inr (0, [.int o.1, .ref qd_year, .ref qd_kind])), rI cI qd_year 6 o.2.1, rI cI qd_kind 6 o.2.2] none 0 0 := by
  refine mkV (by decide) (Nat.le_of_ble_eq_true rfl) ?_
  intro p e s m args below meth c A Q X hnm hret ls hl H locs hP hD hS
  replace X : Cx p s m args c D (Tys cI cZ cD cH) A cX0_append RX0 3 := X
  obtain ⟨hx, hb, hml, hown, hts, hK, hZ, hA⟩ := id X
  have hl : lv_has ls 3 [(0, .ref qd), (1, .int a1), (2, .int a2)] := hl
  unfold fX0_append at hf
  refine lv_aload_n hx hb dX0_append_0 rfl (lv_at hl 0 rfl) ?_
  refine k_get X hP 0 rfl rfl inX0 0 (by decide) fl_RX0_9 rfl rfl dX0_append_1 ?_
  refine lv_bipush (v := 6) hx hb dX0_append_4 (by decide) ?_
  refine lv_icmp_lt (tgt := 10) hx hb dX0_append_6 (by decide) (fun c1 => ?_) (fun c1 => ?_)
  · replace hf := ite_t c1 hf
    refine lv_aload_n hx hb dX0_append_10 rfl (lv_at hl 0 rfl) ?_
    refine k_get X hP 0 rfl rfl inX0 1 (by decide) fl_RX0_15 rfl rfl dX0_append_11 ?_
    refine lv_aload_n hx hb dX0_append_14 rfl (lv_at hl 0 rfl) ?_
    refine k_get X hP 0 rfl rfl inX0 0 (by decide) fl_RX0_9 rfl rfl dX0_append_15 ?_
    refine lv_iload_n hx hb dX0_append_18 rfl (lv_at hl 1 rfl) ?_
    obtain ⟨h2, hf⟩ := ck_t hf
    refine k_iast X hP hD hS [(qd, .inr (0, [.int d_size, .ref qd_year, .ref qd_kind])), rI cI qd_year 6 (upd d_year d_size.toNatClampNeg a1), rI cI qd_kind 6 d_kind] 1 0 rfl rfl h2 rfl dX0_append_19 (fun H locs hP hD hS => ?_)
    refine lv_aload_n hx hb dX0_append_20 rfl (lv_at hl 0 rfl) ?_
    refine k_get X hP 0 rfl rfl inX0 2 (by decide) fl_RX0_19 rfl rfl dX0_append_21 ?_
    refine lv_aload_n hx hb dX0_append_24 rfl (lv_at hl 0 rfl) ?_
    refine k_get X hP 0 rfl rfl inX0 0 (by decide) fl_RX0_9 rfl rfl dX0_append_25 ?_
    refine lv_iload_n hx hb dX0_append_28 rfl (lv_at hl 2 rfl) ?_
    obtain ⟨h3, hf⟩ := ck_t hf
    refine k_iast X hP hD hS [(qd, .inr (0, [.int d_size, .ref qd_year, .ref qd_kind])), rI cI qd_year 6 (upd d_year d_size.toNatClampNeg a1), rI cI qd_kind 6 (upd d_kind d_size.toNatClampNeg a2)] 2 0 rfl rfl h3 rfl dX0_append_29 (fun H locs hP hD hS => ?_)
    refine lv_aload_n hx hb dX0_append_30 rfl (lv_at hl 0 rfl) ?_
    refine lv_dup hx hb dX0_append_31 rfl ?_
    refine k_get X hP 0 rfl rfl inX0 0 (by decide) fl_RX0_9 rfl rfl dX0_append_32 ?_
    refine lv_iconst (v := 1) hx hb dX0_append_35 (by decide) ?_
    refine lv_iadd hx hb dX0_append_36 ?_
    refine k_put X hP hD hS [(qd, .inr (0, [.int (d_size + 1), .ref qd_year, .ref qd_kind])), rI cI qd_year 6 (upd d_year d_size.toNatClampNeg a1), rI cI qd_kind 6 (upd d_kind d_size.toNatClampNeg a2)] 0 rfl rfl inX0 tyX0_ok nmX0 0 (by decide) fl_RX0_9 rfl rfl rfl rfl (Nat.le_of_ble_eq_true rfl) rfl dX0_append_37 (fun H locs hP hD hS => ?_)
    replace hf := Option.some.inj hf
    subst hf
    exact hret H locs _ ls dX0_append_40 hP hD hS
  · replace hf := ite_f c1 hf
    replace hf := Option.some.inj hf
    subst hf
    exact hret H locs _ ls dX0_append_9 hP hD hS

def sX0_removeAt_2 (d_size : Int32) (v2 : Int32) (d_year : Nat → Int32) (d_kind : Nat → Int32) : Option ((Int32 × (Nat → Int32) × (Nat → Int32)) ⊕ (((Nat → Int32) × (Nat → Int32)))) :=
  if d_size ≤ (v2 + 1) then some (.inr (d_year, d_kind)) else if inb (v2 + 1) 6 = true then if inb v2 6 = true then if inb (v2 + 1) 6 = true then if inb v2 6 = true then some (.inl (v2 + 1, upd d_year v2.toNatClampNeg (d_year (v2 + 1).toNatClampNeg), upd d_kind v2.toNatClampNeg (d_kind (v2 + 1).toNatClampNeg))) else none else none else none else none
def fX0_removeAt (a1 : Int32) (d_size : Int32) (d_year : Nat → Int32) (d_kind : Nat → Int32) : Option (Int32 × (Nat → Int32) × (Nat → Int32)) :=
  (lpd (fun s1 => sX0_removeAt_2 d_size s1.1 s1.2.1 s1.2.2) FU (a1, d_year, d_kind)).bind (fun (y1_0 : (Nat → Int32) × (Nat → Int32)) => some (d_size - 1, y1_0.1, y1_0.2))
set_option maxHeartbeats 4000000 in
set_option maxRecDepth 100000 in
theorem ctX0_removeAt (l : Launch) (D : va_G) (cI cZ cD cH : ClassId) (qd : Nat) (qd_year : Nat) (qd_kind : Nat) (a1 : Int32) (d_size : Int32) (d_year : Nat → Int32) (d_kind : Nat → Int32) (o : Int32 × (Nat → Int32) × (Nat → Int32)) (hf : fX0_removeAt a1 d_size d_year d_kind = some o) : Ct l yX0_removeAt cX0_removeAt 3 none { frames := 0, cells := 0, slots := 0, locals := 0 } D (Tys cI cZ cD cH) [.ref qd, .int a1] [(qd, .inr (0, [.int d_size, .ref qd_year, .ref qd_kind])), rI cI qd_year 6 d_year, rI cI qd_kind 6 d_kind] [(qd, .inr (0, [.int o.1, .ref qd_year, .ref qd_kind])), rI cI qd_year 6 o.2.1, rI cI qd_kind 6 o.2.2] none 0 0 := by
  refine mkV (by decide) (Nat.le_of_ble_eq_true rfl) ?_
  intro p e s m args below meth c A Q X hnm hret ls hl H locs hP hD hS
  replace X : Cx p s m args c D (Tys cI cZ cD cH) A cX0_removeAt RX0 3 := X
  obtain ⟨hx, hb, hml, hown, hts, hK, hZ, hA⟩ := id X
  have hl : lv_has ls 3 [(0, .ref qd), (1, .int a1)] := hl
  unfold fX0_removeAt at hf
  refine lv_iload_n hx hb dX0_removeAt_0 rfl (lv_at hl 1 rfl) ?_
  refine lv_istore_n (lv' := [(2, .int a1), (0, .ref qd), (1, .int a1)]) hx hb dX0_removeAt_1 rfl hl (by decide) rfl (fun ls hl => ?_)
  obtain ⟨e1, he1, hf⟩ := bnd hf
  have hx1_0 : ∀ (y1_0 : (Nat → Int32) × (Nat → Int32)), y1_0 = e1 → ∀ (H : Heap) (locs : List Loc) (ls : Array Slot), va_P D vwCl [(qd, .inr (0, [.int d_size, .ref qd_year, .ref qd_kind])), rI cI qd_year 6 y1_0.1, rI cI qd_kind 6 y1_0.2] H → va_D A [(qd, .inr (0, [.int d_size, .ref qd_year, .ref qd_kind])), rI cI qd_year 6 y1_0.1, rI cI qd_kind 6 y1_0.2] → va_S A s.heap H locs → lv_has ls 3 [(0, .ref qd)] → W p l e ({ frames := 0, cells := 0, slots := 0, locals := 0 } : Room) s m args below meth c H locs 0 0 Q (F0 m 46 ls []) := by
    intro y1_0 heq H locs ls hP hD hS hl
    subst heq
    refine lv_aload_n hx hb dX0_removeAt_46 rfl (lv_at hl 0 rfl) ?_
    refine lv_dup hx hb dX0_removeAt_47 rfl ?_
    refine k_get X hP 0 rfl rfl inX0 0 (by decide) fl_RX0_9 rfl rfl dX0_removeAt_48 ?_
    refine lv_iconst (v := 1) hx hb dX0_removeAt_51 (by decide) ?_
    refine lv_isub hx hb dX0_removeAt_52 ?_
    refine k_put X hP hD hS [(qd, .inr (0, [.int (d_size - 1), .ref qd_year, .ref qd_kind])), rI cI qd_year 6 y1_0.1, rI cI qd_kind 6 y1_0.2] 0 rfl rfl inX0 tyX0_ok nmX0 0 (by decide) fl_RX0_9 rfl rfl rfl rfl (Nat.le_of_ble_eq_true rfl) rfl dX0_removeAt_53 (fun H locs hP hD hS => ?_)
    replace hf := Option.some.inj hf
    subst hf
    exact hret H locs _ ls dX0_removeAt_56 hP hD hS
  refine lpd_ind (P := fun s1 => ∀ (H : Heap) (locs : List Loc) (ls : Array Slot), va_P D vwCl [(qd, .inr (0, [.int d_size, .ref qd_year, .ref qd_kind])), rI cI qd_year 6 s1.2.1, rI cI qd_kind 6 s1.2.2] H → va_D A [(qd, .inr (0, [.int d_size, .ref qd_year, .ref qd_kind])), rI cI qd_year 6 s1.2.1, rI cI qd_kind 6 s1.2.2] → va_S A s.heap H locs → lv_has ls 3 [(0, .ref qd), (2, .int s1.1)] → W p l e ({ frames := 0, cells := 0, slots := 0, locals := 0 } : Room) s m args below meth c H locs 0 0 Q (F0 m 2 ls [])) e1 ?_ _ _ he1 H locs ls hP hD hS (lv_sub hl [1, 0] rfl)
  intro s1 r1 hf ih1 hq1 H locs ls hP hD hS hl
  unfold sX0_removeAt_2 at hf
  refine lv_iload_n hx hb dX0_removeAt_2 rfl (lv_at hl 1 rfl) ?_
  refine lv_iconst (v := 1) hx hb dX0_removeAt_3 (by decide) ?_
  refine lv_iadd hx hb dX0_removeAt_4 ?_
  refine lv_aload_n hx hb dX0_removeAt_5 rfl (lv_at hl 0 rfl) ?_
  refine k_get X hP 0 rfl rfl inX0 0 (by decide) fl_RX0_9 rfl rfl dX0_removeAt_6 ?_
  refine lv_icmp_ge (tgt := 46) hx hb dX0_removeAt_9 (by decide) (fun c2 => ?_) (fun c2 => ?_)
  · replace hf := ite_t c2 hf
    exact hx1_0 _ (hq1 _ (Option.some.inj hf).symm) H locs ls hP hD hS (lv_sub hl [0] rfl)
  · replace hf := ite_f c2 hf
    refine lv_aload_n hx hb dX0_removeAt_12 rfl (lv_at hl 0 rfl) ?_
    refine k_get X hP 0 rfl rfl inX0 1 (by decide) fl_RX0_15 rfl rfl dX0_removeAt_13 ?_
    refine lv_iload_n hx hb dX0_removeAt_16 rfl (lv_at hl 1 rfl) ?_
    refine lv_aload_n hx hb dX0_removeAt_17 rfl (lv_at hl 0 rfl) ?_
    refine k_get X hP 0 rfl rfl inX0 1 (by decide) fl_RX0_15 rfl rfl dX0_removeAt_18 ?_
    refine lv_iload_n hx hb dX0_removeAt_21 rfl (lv_at hl 1 rfl) ?_
    refine lv_iconst (v := 1) hx hb dX0_removeAt_22 (by decide) ?_
    refine lv_iadd hx hb dX0_removeAt_23 ?_
    obtain ⟨h3, hf⟩ := ck_t hf
    refine k_iald X hP 1 0 rfl rfl h3 dX0_removeAt_24 ?_
    obtain ⟨h4, hf⟩ := ck_t hf
    refine k_iast X hP hD hS [(qd, .inr (0, [.int d_size, .ref qd_year, .ref qd_kind])), rI cI qd_year 6 (upd s1.2.1 s1.1.toNatClampNeg (s1.2.1 (s1.1 + 1).toNatClampNeg)), rI cI qd_kind 6 s1.2.2] 1 0 rfl rfl h4 rfl dX0_removeAt_25 (fun H locs hP hD hS => ?_)
    refine lv_aload_n hx hb dX0_removeAt_26 rfl (lv_at hl 0 rfl) ?_
    refine k_get X hP 0 rfl rfl inX0 2 (by decide) fl_RX0_19 rfl rfl dX0_removeAt_27 ?_
    refine lv_iload_n hx hb dX0_removeAt_30 rfl (lv_at hl 1 rfl) ?_
    refine lv_aload_n hx hb dX0_removeAt_31 rfl (lv_at hl 0 rfl) ?_
    refine k_get X hP 0 rfl rfl inX0 2 (by decide) fl_RX0_19 rfl rfl dX0_removeAt_32 ?_
    refine lv_iload_n hx hb dX0_removeAt_35 rfl (lv_at hl 1 rfl) ?_
    refine lv_iconst (v := 1) hx hb dX0_removeAt_36 (by decide) ?_
    refine lv_iadd hx hb dX0_removeAt_37 ?_
    obtain ⟨h5, hf⟩ := ck_t hf
    refine k_iald X hP 2 0 rfl rfl h5 dX0_removeAt_38 ?_
    obtain ⟨h6, hf⟩ := ck_t hf
    refine k_iast X hP hD hS [(qd, .inr (0, [.int d_size, .ref qd_year, .ref qd_kind])), rI cI qd_year 6 (upd s1.2.1 s1.1.toNatClampNeg (s1.2.1 (s1.1 + 1).toNatClampNeg)), rI cI qd_kind 6 (upd s1.2.2 s1.1.toNatClampNeg (s1.2.2 (s1.1 + 1).toNatClampNeg))] 2 0 rfl rfl h6 rfl dX0_removeAt_39 (fun H locs hP hD hS => ?_)
    refine lv_iinc (v := s1.1 + 1) (lv' := [(2, .int (s1.1 + 1)), (0, .ref qd)]) hx hb dX0_removeAt_40 hl (k := 1) rfl rfl (by decide) rfl (fun ls hl => ?_)
    refine lv_goto (tgt := 2) hx hb dX0_removeAt_43 (by decide) ?_
    exact ih1 _ (Option.some.inj hf).symm H locs ls hP hD hS (lv_sub hl [1, 0] rfl)

def sX0_copyFrom_10 (d_size : Int32) (f_year : Nat → Int32) (f_kind : Nat → Int32) (v2 : Int32) (d_year : Nat → Int32) (d_kind : Nat → Int32) : Option ((Int32 × (Nat → Int32) × (Nat → Int32)) ⊕ (((Nat → Int32) × (Nat → Int32)))) :=
  if d_size ≤ v2 then some (.inr (d_year, d_kind)) else if inb v2 6 = true then if inb v2 6 = true then if inb v2 6 = true then if inb v2 6 = true then some (.inl (v2 + 1, upd d_year v2.toNatClampNeg (f_year v2.toNatClampNeg), upd d_kind v2.toNatClampNeg (f_kind v2.toNatClampNeg))) else none else none else none else none
def fX0_copyFrom (d_year : Nat → Int32) (d_kind : Nat → Int32) (f_size : Int32) (f_year : Nat → Int32) (f_kind : Nat → Int32) : Option (Int32 × (Nat → Int32) × (Nat → Int32)) :=
  (lpd (fun s1 => sX0_copyFrom_10 f_size f_year f_kind s1.1 s1.2.1 s1.2.2) FU (0, d_year, d_kind)).bind (fun (y1_0 : (Nat → Int32) × (Nat → Int32)) => some (f_size, y1_0.1, y1_0.2))
set_option maxHeartbeats 4000000 in
set_option maxRecDepth 100000 in
theorem ctX0_copyFrom (l : Launch) (D : va_G) (cI cZ cD cH : ClassId) (qd : Nat) (qd_year : Nat) (qd_kind : Nat) (qf : Nat) (qf_year : Nat) (qf_kind : Nat) (d_size : Int32) (d_year : Nat → Int32) (d_kind : Nat → Int32) (f_size : Int32) (f_year : Nat → Int32) (f_kind : Nat → Int32) (o : Int32 × (Nat → Int32) × (Nat → Int32)) (hf : fX0_copyFrom d_year d_kind f_size f_year f_kind = some o) : Ct l yX0_copyFrom cX0_copyFrom 3 none { frames := 0, cells := 0, slots := 0, locals := 0 } D (Tys cI cZ cD cH) [.ref qd, .ref qf] [(qd, .inr (0, [.int d_size, .ref qd_year, .ref qd_kind])), rI cI qd_year 6 d_year, rI cI qd_kind 6 d_kind, (qf, .inr (0, [.int f_size, .ref qf_year, .ref qf_kind])), rI cI qf_year 6 f_year, rI cI qf_kind 6 f_kind] [(qd, .inr (0, [.int o.1, .ref qd_year, .ref qd_kind])), rI cI qd_year 6 o.2.1, rI cI qd_kind 6 o.2.2, (qf, .inr (0, [.int f_size, .ref qf_year, .ref qf_kind])), rI cI qf_year 6 f_year, rI cI qf_kind 6 f_kind] none 0 0 := by
  refine mkV (by decide) (Nat.le_of_ble_eq_true rfl) ?_
  intro p e s m args below meth c A Q X hnm hret ls hl H locs hP hD hS
  replace X : Cx p s m args c D (Tys cI cZ cD cH) A cX0_copyFrom RX0 3 := X
  obtain ⟨hx, hb, hml, hown, hts, hK, hZ, hA⟩ := id X
  have hl : lv_has ls 3 [(0, .ref qd), (1, .ref qf)] := hl
  unfold fX0_copyFrom at hf
  refine lv_aload_n hx hb dX0_copyFrom_0 rfl (lv_at hl 0 rfl) ?_
  refine lv_aload_n hx hb dX0_copyFrom_1 rfl (lv_at hl 1 rfl) ?_
  refine k_get X hP 3 rfl rfl inX0 0 (by decide) fl_RX0_9 rfl rfl dX0_copyFrom_2 ?_
  refine k_put X hP hD hS [(qd, .inr (0, [.int f_size, .ref qd_year, .ref qd_kind])), rI cI qd_year 6 d_year, rI cI qd_kind 6 d_kind, (qf, .inr (0, [.int f_size, .ref qf_year, .ref qf_kind])), rI cI qf_year 6 f_year, rI cI qf_kind 6 f_kind] 0 rfl rfl inX0 tyX0_ok nmX0 0 (by decide) fl_RX0_9 rfl rfl rfl rfl (Nat.le_of_ble_eq_true rfl) rfl dX0_copyFrom_5 (fun H locs hP hD hS => ?_)
  refine lv_iconst (v := 0) hx hb dX0_copyFrom_8 (by decide) ?_
  refine lv_istore_n (lv' := [(2, .int 0), (0, .ref qd), (1, .ref qf)]) hx hb dX0_copyFrom_9 rfl hl (by decide) rfl (fun ls hl => ?_)
  obtain ⟨e1, he1, hf⟩ := bnd hf
  have hx1_0 : ∀ (y1_0 : (Nat → Int32) × (Nat → Int32)), y1_0 = e1 → ∀ (H : Heap) (locs : List Loc) (ls : Array Slot), va_P D vwCl [(qd, .inr (0, [.int f_size, .ref qd_year, .ref qd_kind])), rI cI qd_year 6 y1_0.1, rI cI qd_kind 6 y1_0.2, (qf, .inr (0, [.int f_size, .ref qf_year, .ref qf_kind])), rI cI qf_year 6 f_year, rI cI qf_kind 6 f_kind] H → va_D A [(qd, .inr (0, [.int f_size, .ref qd_year, .ref qd_kind])), rI cI qd_year 6 y1_0.1, rI cI qd_kind 6 y1_0.2, (qf, .inr (0, [.int f_size, .ref qf_year, .ref qf_kind])), rI cI qf_year 6 f_year, rI cI qf_kind 6 f_kind] → va_S A s.heap H locs → lv_has ls 3 [] → W p l e ({ frames := 0, cells := 0, slots := 0, locals := 0 } : Room) s m args below meth c H locs 0 0 Q (F0 m 48 ls []) := by
    intro y1_0 heq H locs ls hP hD hS hl
    subst heq
    replace hf := Option.some.inj hf
    subst hf
    exact hret H locs _ ls dX0_copyFrom_48 hP hD hS
  refine lpd_ind (P := fun s1 => ∀ (H : Heap) (locs : List Loc) (ls : Array Slot), va_P D vwCl [(qd, .inr (0, [.int f_size, .ref qd_year, .ref qd_kind])), rI cI qd_year 6 s1.2.1, rI cI qd_kind 6 s1.2.2, (qf, .inr (0, [.int f_size, .ref qf_year, .ref qf_kind])), rI cI qf_year 6 f_year, rI cI qf_kind 6 f_kind] H → va_D A [(qd, .inr (0, [.int f_size, .ref qd_year, .ref qd_kind])), rI cI qd_year 6 s1.2.1, rI cI qd_kind 6 s1.2.2, (qf, .inr (0, [.int f_size, .ref qf_year, .ref qf_kind])), rI cI qf_year 6 f_year, rI cI qf_kind 6 f_kind] → va_S A s.heap H locs → lv_has ls 3 [(0, .ref qd), (1, .ref qf), (2, .int s1.1)] → W p l e ({ frames := 0, cells := 0, slots := 0, locals := 0 } : Room) s m args below meth c H locs 0 0 Q (F0 m 10 ls [])) e1 ?_ _ _ he1 H locs ls hP hD hS (lv_sub hl [1, 2, 0] rfl)
  intro s1 r1 hf ih1 hq1 H locs ls hP hD hS hl
  unfold sX0_copyFrom_10 at hf
  refine lv_iload_n hx hb dX0_copyFrom_10 rfl (lv_at hl 2 rfl) ?_
  refine lv_aload_n hx hb dX0_copyFrom_11 rfl (lv_at hl 0 rfl) ?_
  refine k_get X hP 0 rfl rfl inX0 0 (by decide) fl_RX0_9 rfl rfl dX0_copyFrom_12 ?_
  refine lv_icmp_ge (tgt := 48) hx hb dX0_copyFrom_15 (by decide) (fun c2 => ?_) (fun c2 => ?_)
  · replace hf := ite_t c2 hf
    exact hx1_0 _ (hq1 _ (Option.some.inj hf).symm) H locs ls hP hD hS (lv_sub hl [] rfl)
  · replace hf := ite_f c2 hf
    refine lv_aload_n hx hb dX0_copyFrom_18 rfl (lv_at hl 0 rfl) ?_
    refine k_get X hP 0 rfl rfl inX0 1 (by decide) fl_RX0_15 rfl rfl dX0_copyFrom_19 ?_
    refine lv_iload_n hx hb dX0_copyFrom_22 rfl (lv_at hl 2 rfl) ?_
    refine lv_aload_n hx hb dX0_copyFrom_23 rfl (lv_at hl 1 rfl) ?_
    refine k_get X hP 3 rfl rfl inX0 1 (by decide) fl_RX0_15 rfl rfl dX0_copyFrom_24 ?_
    refine lv_iload_n hx hb dX0_copyFrom_27 rfl (lv_at hl 2 rfl) ?_
    obtain ⟨h3, hf⟩ := ck_t hf
    refine k_iald X hP 4 0 rfl rfl h3 dX0_copyFrom_28 ?_
    obtain ⟨h4, hf⟩ := ck_t hf
    refine k_iast X hP hD hS [(qd, .inr (0, [.int f_size, .ref qd_year, .ref qd_kind])), rI cI qd_year 6 (upd s1.2.1 s1.1.toNatClampNeg (f_year s1.1.toNatClampNeg)), rI cI qd_kind 6 s1.2.2, (qf, .inr (0, [.int f_size, .ref qf_year, .ref qf_kind])), rI cI qf_year 6 f_year, rI cI qf_kind 6 f_kind] 1 0 rfl rfl h4 rfl dX0_copyFrom_29 (fun H locs hP hD hS => ?_)
    refine lv_aload_n hx hb dX0_copyFrom_30 rfl (lv_at hl 0 rfl) ?_
    refine k_get X hP 0 rfl rfl inX0 2 (by decide) fl_RX0_19 rfl rfl dX0_copyFrom_31 ?_
    refine lv_iload_n hx hb dX0_copyFrom_34 rfl (lv_at hl 2 rfl) ?_
    refine lv_aload_n hx hb dX0_copyFrom_35 rfl (lv_at hl 1 rfl) ?_
    refine k_get X hP 3 rfl rfl inX0 2 (by decide) fl_RX0_19 rfl rfl dX0_copyFrom_36 ?_
    refine lv_iload_n hx hb dX0_copyFrom_39 rfl (lv_at hl 2 rfl) ?_
    obtain ⟨h5, hf⟩ := ck_t hf
    refine k_iald X hP 5 0 rfl rfl h5 dX0_copyFrom_40 ?_
    obtain ⟨h6, hf⟩ := ck_t hf
    refine k_iast X hP hD hS [(qd, .inr (0, [.int f_size, .ref qd_year, .ref qd_kind])), rI cI qd_year 6 (upd s1.2.1 s1.1.toNatClampNeg (f_year s1.1.toNatClampNeg)), rI cI qd_kind 6 (upd s1.2.2 s1.1.toNatClampNeg (f_kind s1.1.toNatClampNeg)), (qf, .inr (0, [.int f_size, .ref qf_year, .ref qf_kind])), rI cI qf_year 6 f_year, rI cI qf_kind 6 f_kind] 2 0 rfl rfl h6 rfl dX0_copyFrom_41 (fun H locs hP hD hS => ?_)
    refine lv_iinc (v := s1.1 + 1) (lv' := [(2, .int (s1.1 + 1)), (0, .ref qd), (1, .ref qf)]) hx hb dX0_copyFrom_42 hl (k := 2) rfl rfl (by decide) rfl (fun ls hl => ?_)
    refine lv_goto (tgt := 10) hx hb dX0_copyFrom_45 (by decide) ?_
    exact ih1 _ (Option.some.inj hf).symm H locs ls hP hD hS (lv_sub hl [1, 2, 0] rfl)

def fX5_reset : Option (Int32 × Int32 × Int32 × Int32 × Int32 × Int32) :=
  some (12, 0, 0, 0, 0, 1)
set_option maxHeartbeats 4000000 in
set_option maxRecDepth 100000 in
theorem ctX5_reset (l : Launch) (D : va_G) (cI cZ cD cH : ClassId) (qt : Nat) (qt_lean : Nat) (qt_dead : Nat) (qt_becomes : Nat) (qt_trialYear : Nat) (qt_juryFrom : Nat) (qt_juryTo : Nat) (qt_deedFrom : Nat) (qt_deedTo : Nat) (t_years : Int32) (t_states : Int32) (t_begin : Int32) (t_trials : Int32) (t_deeds : Int32) (t_quorum : Int32) (t_lean : Nat → Int32) (t_dead : Nat → Int32) (t_becomes : Nat → Int32) (t_trialYear : Nat → Int32) (t_juryFrom : Nat → Int32) (t_juryTo : Nat → Int32) (t_deedFrom : Nat → Int32) (t_deedTo : Nat → Int32) (o : Int32 × Int32 × Int32 × Int32 × Int32 × Int32) (hf : fX5_reset = some o) : Ct l yX5_reset cX5_reset 1 none { frames := 0, cells := 0, slots := 0, locals := 0 } D (Tys cI cZ cD cH) [.ref qt] [(qt, .inr (5, [.int t_years, .int t_states, .int t_begin, .int t_trials, .int t_deeds, .int t_quorum, .ref qt_lean, .ref qt_dead, .ref qt_becomes, .ref qt_trialYear, .ref qt_juryFrom, .ref qt_juryTo, .ref qt_deedFrom, .ref qt_deedTo])), rI cI qt_lean 6 t_lean, rI cI qt_dead 6 t_dead, rI cI qt_becomes 18 t_becomes, rI cI qt_trialYear 3 t_trialYear, rI cI qt_juryFrom 3 t_juryFrom, rI cI qt_juryTo 3 t_juryTo, rI cI qt_deedFrom 4 t_deedFrom, rI cI qt_deedTo 4 t_deedTo] [(qt, .inr (5, [.int o.1, .int o.2.1, .int o.2.2.1, .int o.2.2.2.1, .int o.2.2.2.2.1, .int o.2.2.2.2.2, .ref qt_lean, .ref qt_dead, .ref qt_becomes, .ref qt_trialYear, .ref qt_juryFrom, .ref qt_juryTo, .ref qt_deedFrom, .ref qt_deedTo])), rI cI qt_lean 6 t_lean, rI cI qt_dead 6 t_dead, rI cI qt_becomes 18 t_becomes, rI cI qt_trialYear 3 t_trialYear, rI cI qt_juryFrom 3 t_juryFrom, rI cI qt_juryTo 3 t_juryTo, rI cI qt_deedFrom 4 t_deedFrom, rI cI qt_deedTo 4 t_deedTo] none 0 0 := by
  refine mkV (by decide) (Nat.le_of_ble_eq_true rfl) ?_
  intro p e s m args below meth c A Q X hnm hret ls hl H locs hP hD hS
  replace X : Cx p s m args c D (Tys cI cZ cD cH) A cX5_reset RX5 1 := X
  obtain ⟨hx, hb, hml, hown, hts, hK, hZ, hA⟩ := id X
  have hl : lv_has ls 1 [(0, .ref qt)] := hl
  unfold fX5_reset at hf
  refine lv_aload_n hx hb dX5_reset_0 rfl (lv_at hl 0 rfl) ?_
  refine lv_bipush (v := 12) hx hb dX5_reset_1 (by decide) ?_
  refine k_put X hP hD hS [(qt, .inr (5, [.int 12, .int t_states, .int t_begin, .int t_trials, .int t_deeds, .int t_quorum, .ref qt_lean, .ref qt_dead, .ref qt_becomes, .ref qt_trialYear, .ref qt_juryFrom, .ref qt_juryTo, .ref qt_deedFrom, .ref qt_deedTo])), rI cI qt_lean 6 t_lean, rI cI qt_dead 6 t_dead, rI cI qt_becomes 18 t_becomes, rI cI qt_trialYear 3 t_trialYear, rI cI qt_juryFrom 3 t_juryFrom, rI cI qt_juryTo 3 t_juryTo, rI cI qt_deedFrom 4 t_deedFrom, rI cI qt_deedTo 4 t_deedTo] 0 rfl rfl inX5 tyX5_ok nmX5 0 (by decide) fl_RX5_9 rfl rfl rfl rfl (Nat.le_of_ble_eq_true rfl) rfl dX5_reset_3 (fun H locs hP hD hS => ?_)
  refine lv_aload_n hx hb dX5_reset_6 rfl (lv_at hl 0 rfl) ?_
  refine lv_iconst (v := 0) hx hb dX5_reset_7 (by decide) ?_
  refine k_put X hP hD hS [(qt, .inr (5, [.int 12, .int 0, .int t_begin, .int t_trials, .int t_deeds, .int t_quorum, .ref qt_lean, .ref qt_dead, .ref qt_becomes, .ref qt_trialYear, .ref qt_juryFrom, .ref qt_juryTo, .ref qt_deedFrom, .ref qt_deedTo])), rI cI qt_lean 6 t_lean, rI cI qt_dead 6 t_dead, rI cI qt_becomes 18 t_becomes, rI cI qt_trialYear 3 t_trialYear, rI cI qt_juryFrom 3 t_juryFrom, rI cI qt_juryTo 3 t_juryTo, rI cI qt_deedFrom 4 t_deedFrom, rI cI qt_deedTo 4 t_deedTo] 0 rfl rfl inX5 tyX5_ok nmX5 1 (by decide) fl_RX5_15 rfl rfl rfl rfl (Nat.le_of_ble_eq_true rfl) rfl dX5_reset_8 (fun H locs hP hD hS => ?_)
  refine lv_aload_n hx hb dX5_reset_11 rfl (lv_at hl 0 rfl) ?_
  refine lv_iconst (v := 0) hx hb dX5_reset_12 (by decide) ?_
  refine k_put X hP hD hS [(qt, .inr (5, [.int 12, .int 0, .int 0, .int t_trials, .int t_deeds, .int t_quorum, .ref qt_lean, .ref qt_dead, .ref qt_becomes, .ref qt_trialYear, .ref qt_juryFrom, .ref qt_juryTo, .ref qt_deedFrom, .ref qt_deedTo])), rI cI qt_lean 6 t_lean, rI cI qt_dead 6 t_dead, rI cI qt_becomes 18 t_becomes, rI cI qt_trialYear 3 t_trialYear, rI cI qt_juryFrom 3 t_juryFrom, rI cI qt_juryTo 3 t_juryTo, rI cI qt_deedFrom 4 t_deedFrom, rI cI qt_deedTo 4 t_deedTo] 0 rfl rfl inX5 tyX5_ok nmX5 2 (by decide) fl_RX5_18 rfl rfl rfl rfl (Nat.le_of_ble_eq_true rfl) rfl dX5_reset_13 (fun H locs hP hD hS => ?_)
  refine lv_aload_n hx hb dX5_reset_16 rfl (lv_at hl 0 rfl) ?_
  refine lv_iconst (v := 0) hx hb dX5_reset_17 (by decide) ?_
  refine k_put X hP hD hS [(qt, .inr (5, [.int 12, .int 0, .int 0, .int 0, .int t_deeds, .int t_quorum, .ref qt_lean, .ref qt_dead, .ref qt_becomes, .ref qt_trialYear, .ref qt_juryFrom, .ref qt_juryTo, .ref qt_deedFrom, .ref qt_deedTo])), rI cI qt_lean 6 t_lean, rI cI qt_dead 6 t_dead, rI cI qt_becomes 18 t_becomes, rI cI qt_trialYear 3 t_trialYear, rI cI qt_juryFrom 3 t_juryFrom, rI cI qt_juryTo 3 t_juryTo, rI cI qt_deedFrom 4 t_deedFrom, rI cI qt_deedTo 4 t_deedTo] 0 rfl rfl inX5 tyX5_ok nmX5 3 (by decide) fl_RX5_21 rfl rfl rfl rfl (Nat.le_of_ble_eq_true rfl) rfl dX5_reset_18 (fun H locs hP hD hS => ?_)
  refine lv_aload_n hx hb dX5_reset_21 rfl (lv_at hl 0 rfl) ?_
  refine lv_iconst (v := 0) hx hb dX5_reset_22 (by decide) ?_
  refine k_put X hP hD hS [(qt, .inr (5, [.int 12, .int 0, .int 0, .int 0, .int 0, .int t_quorum, .ref qt_lean, .ref qt_dead, .ref qt_becomes, .ref qt_trialYear, .ref qt_juryFrom, .ref qt_juryTo, .ref qt_deedFrom, .ref qt_deedTo])), rI cI qt_lean 6 t_lean, rI cI qt_dead 6 t_dead, rI cI qt_becomes 18 t_becomes, rI cI qt_trialYear 3 t_trialYear, rI cI qt_juryFrom 3 t_juryFrom, rI cI qt_juryTo 3 t_juryTo, rI cI qt_deedFrom 4 t_deedFrom, rI cI qt_deedTo 4 t_deedTo] 0 rfl rfl inX5 tyX5_ok nmX5 4 (by decide) fl_RX5_24 rfl rfl rfl rfl (Nat.le_of_ble_eq_true rfl) rfl dX5_reset_23 (fun H locs hP hD hS => ?_)
  refine lv_aload_n hx hb dX5_reset_26 rfl (lv_at hl 0 rfl) ?_
  refine lv_iconst (v := 1) hx hb dX5_reset_27 (by decide) ?_
  refine k_put X hP hD hS [(qt, .inr (5, [.int 12, .int 0, .int 0, .int 0, .int 0, .int 1, .ref qt_lean, .ref qt_dead, .ref qt_becomes, .ref qt_trialYear, .ref qt_juryFrom, .ref qt_juryTo, .ref qt_deedFrom, .ref qt_deedTo])), rI cI qt_lean 6 t_lean, rI cI qt_dead 6 t_dead, rI cI qt_becomes 18 t_becomes, rI cI qt_trialYear 3 t_trialYear, rI cI qt_juryFrom 3 t_juryFrom, rI cI qt_juryTo 3 t_juryTo, rI cI qt_deedFrom 4 t_deedFrom, rI cI qt_deedTo 4 t_deedTo] 0 rfl rfl inX5 tyX5_ok nmX5 5 (by decide) fl_RX5_27 rfl rfl rfl rfl (Nat.le_of_ble_eq_true rfl) rfl dX5_reset_28 (fun H locs hP hD hS => ?_)
  replace hf := Option.some.inj hf
  subst hf
  exact hret H locs _ ls dX5_reset_31 hP hD hS

def fX5_beginning (t_states : Int32) (t_begin : Int32) : Option (Int32) :=
  if t_states ≤ t_begin then some 0 else some t_begin
set_option maxHeartbeats 4000000 in
set_option maxRecDepth 100000 in
theorem ctX5_beginning (l : Launch) (D : va_G) (cI cZ cD cH : ClassId) (qt : Nat) (qt_lean : Nat) (qt_dead : Nat) (qt_becomes : Nat) (qt_trialYear : Nat) (qt_juryFrom : Nat) (qt_juryTo : Nat) (qt_deedFrom : Nat) (qt_deedTo : Nat) (t_years : Int32) (t_states : Int32) (t_begin : Int32) (t_trials : Int32) (t_deeds : Int32) (t_quorum : Int32) (t_lean : Nat → Int32) (t_dead : Nat → Int32) (t_becomes : Nat → Int32) (t_trialYear : Nat → Int32) (t_juryFrom : Nat → Int32) (t_juryTo : Nat → Int32) (t_deedFrom : Nat → Int32) (t_deedTo : Nat → Int32) (o : Int32) (hf : fX5_beginning t_states t_begin = some o) : Ct l yX5_beginning cX5_beginning 1 (some .int) { frames := 0, cells := 0, slots := 0, locals := 0 } D (Tys cI cZ cD cH) [.ref qt] [(qt, .inr (5, [.int t_years, .int t_states, .int t_begin, .int t_trials, .int t_deeds, .int t_quorum, .ref qt_lean, .ref qt_dead, .ref qt_becomes, .ref qt_trialYear, .ref qt_juryFrom, .ref qt_juryTo, .ref qt_deedFrom, .ref qt_deedTo])), rI cI qt_lean 6 t_lean, rI cI qt_dead 6 t_dead, rI cI qt_becomes 18 t_becomes, rI cI qt_trialYear 3 t_trialYear, rI cI qt_juryFrom 3 t_juryFrom, rI cI qt_juryTo 3 t_juryTo, rI cI qt_deedFrom 4 t_deedFrom, rI cI qt_deedTo 4 t_deedTo] [(qt, .inr (5, [.int t_years, .int t_states, .int t_begin, .int t_trials, .int t_deeds, .int t_quorum, .ref qt_lean, .ref qt_dead, .ref qt_becomes, .ref qt_trialYear, .ref qt_juryFrom, .ref qt_juryTo, .ref qt_deedFrom, .ref qt_deedTo])), rI cI qt_lean 6 t_lean, rI cI qt_dead 6 t_dead, rI cI qt_becomes 18 t_becomes, rI cI qt_trialYear 3 t_trialYear, rI cI qt_juryFrom 3 t_juryFrom, rI cI qt_juryTo 3 t_juryTo, rI cI qt_deedFrom 4 t_deedFrom, rI cI qt_deedTo 4 t_deedTo] (some (.int o)) 0 0 := by
  refine mkI (by decide) (Nat.le_of_ble_eq_true rfl) ?_
  intro p e s m args below meth c A Q X hret ls hl H locs hP hD hS
  replace X : Cx p s m args c D (Tys cI cZ cD cH) A cX5_beginning RX5 1 := X
  obtain ⟨hx, hb, hml, hown, hts, hK, hZ, hA⟩ := id X
  have hl : lv_has ls 1 [(0, .ref qt)] := hl
  unfold fX5_beginning at hf
  refine lv_aload_n hx hb dX5_beginning_0 rfl (lv_at hl 0 rfl) ?_
  refine k_get X hP 0 rfl rfl inX5 2 (by decide) fl_RX5_18 rfl rfl dX5_beginning_1 ?_
  refine lv_aload_n hx hb dX5_beginning_4 rfl (lv_at hl 0 rfl) ?_
  refine k_get X hP 0 rfl rfl inX5 1 (by decide) fl_RX5_15 rfl rfl dX5_beginning_5 ?_
  refine lv_icmp_ge (tgt := 18) hx hb dX5_beginning_8 (by decide) (fun c1 => ?_) (fun c1 => ?_)
  · replace hf := ite_t c1 hf
    refine lv_iconst (v := 0) hx hb dX5_beginning_18 (by decide) ?_
    replace hf := Option.some.inj hf
    subst hf
    exact hret H locs _ ls dX5_beginning_19 hP hD hS
  · replace hf := ite_f c1 hf
    refine lv_aload_n hx hb dX5_beginning_11 rfl (lv_at hl 0 rfl) ?_
    refine k_get X hP 0 rfl rfl inX5 2 (by decide) fl_RX5_18 rfl rfl dX5_beginning_12 ?_
    refine lv_goto (tgt := 19) hx hb dX5_beginning_15 (by decide) ?_
    replace hf := Option.some.inj hf
    subst hf
    exact hret H locs _ ls dX5_beginning_19 hP hD hS

def fJ6_bitCount_0f7a4 (a1 : Int32) : Option (Int32) :=
  some ((((((((a1 - (((a1.toUInt32 >>> ((1 : Int32).toUInt32 &&& Int32.toUInt32 31)).toInt32) &&& 1431655765)) &&& 858993459) + ((((a1 - (((a1.toUInt32 >>> ((1 : Int32).toUInt32 &&& Int32.toUInt32 31)).toInt32) &&& 1431655765)).toUInt32 >>> ((2 : Int32).toUInt32 &&& Int32.toUInt32 31)).toInt32) &&& 858993459)) + (((((a1 - (((a1.toUInt32 >>> ((1 : Int32).toUInt32 &&& Int32.toUInt32 31)).toInt32) &&& 1431655765)) &&& 858993459) + ((((a1 - (((a1.toUInt32 >>> ((1 : Int32).toUInt32 &&& Int32.toUInt32 31)).toInt32) &&& 1431655765)).toUInt32 >>> ((2 : Int32).toUInt32 &&& Int32.toUInt32 31)).toInt32) &&& 858993459)).toUInt32 >>> ((4 : Int32).toUInt32 &&& Int32.toUInt32 31)).toInt32)) &&& 252645135) + (((((((a1 - (((a1.toUInt32 >>> ((1 : Int32).toUInt32 &&& Int32.toUInt32 31)).toInt32) &&& 1431655765)) &&& 858993459) + ((((a1 - (((a1.toUInt32 >>> ((1 : Int32).toUInt32 &&& Int32.toUInt32 31)).toInt32) &&& 1431655765)).toUInt32 >>> ((2 : Int32).toUInt32 &&& Int32.toUInt32 31)).toInt32) &&& 858993459)) + (((((a1 - (((a1.toUInt32 >>> ((1 : Int32).toUInt32 &&& Int32.toUInt32 31)).toInt32) &&& 1431655765)) &&& 858993459) + ((((a1 - (((a1.toUInt32 >>> ((1 : Int32).toUInt32 &&& Int32.toUInt32 31)).toInt32) &&& 1431655765)).toUInt32 >>> ((2 : Int32).toUInt32 &&& Int32.toUInt32 31)).toInt32) &&& 858993459)).toUInt32 >>> ((4 : Int32).toUInt32 &&& Int32.toUInt32 31)).toInt32)) &&& 252645135).toUInt32 >>> ((8 : Int32).toUInt32 &&& Int32.toUInt32 31)).toInt32)) + ((((((((a1 - (((a1.toUInt32 >>> ((1 : Int32).toUInt32 &&& Int32.toUInt32 31)).toInt32) &&& 1431655765)) &&& 858993459) + ((((a1 - (((a1.toUInt32 >>> ((1 : Int32).toUInt32 &&& Int32.toUInt32 31)).toInt32) &&& 1431655765)).toUInt32 >>> ((2 : Int32).toUInt32 &&& Int32.toUInt32 31)).toInt32) &&& 858993459)) + (((((a1 - (((a1.toUInt32 >>> ((1 : Int32).toUInt32 &&& Int32.toUInt32 31)).toInt32) &&& 1431655765)) &&& 858993459) + ((((a1 - (((a1.toUInt32 >>> ((1 : Int32).toUInt32 &&& Int32.toUInt32 31)).toInt32) &&& 1431655765)).toUInt32 >>> ((2 : Int32).toUInt32 &&& Int32.toUInt32 31)).toInt32) &&& 858993459)).toUInt32 >>> ((4 : Int32).toUInt32 &&& Int32.toUInt32 31)).toInt32)) &&& 252645135) + (((((((a1 - (((a1.toUInt32 >>> ((1 : Int32).toUInt32 &&& Int32.toUInt32 31)).toInt32) &&& 1431655765)) &&& 858993459) + ((((a1 - (((a1.toUInt32 >>> ((1 : Int32).toUInt32 &&& Int32.toUInt32 31)).toInt32) &&& 1431655765)).toUInt32 >>> ((2 : Int32).toUInt32 &&& Int32.toUInt32 31)).toInt32) &&& 858993459)) + (((((a1 - (((a1.toUInt32 >>> ((1 : Int32).toUInt32 &&& Int32.toUInt32 31)).toInt32) &&& 1431655765)) &&& 858993459) + ((((a1 - (((a1.toUInt32 >>> ((1 : Int32).toUInt32 &&& Int32.toUInt32 31)).toInt32) &&& 1431655765)).toUInt32 >>> ((2 : Int32).toUInt32 &&& Int32.toUInt32 31)).toInt32) &&& 858993459)).toUInt32 >>> ((4 : Int32).toUInt32 &&& Int32.toUInt32 31)).toInt32)) &&& 252645135).toUInt32 >>> ((8 : Int32).toUInt32 &&& Int32.toUInt32 31)).toInt32)).toUInt32 >>> ((16 : Int32).toUInt32 &&& Int32.toUInt32 31)).toInt32)) &&& 63)
set_option maxHeartbeats 4000000 in
set_option maxRecDepth 100000 in
theorem ctJ6_bitCount_0f7a4 (l : Launch) (D : va_G) (cI cZ cD cH : ClassId) (a1 : Int32) (o : Int32) (hf : fJ6_bitCount_0f7a4 a1 = some o) : Ct l yJ6_bitCount_0f7a4 cJ6_bitCount_0f7a4 1 (some .int) { frames := 0, cells := 0, slots := 0, locals := 0 } D (Tys cI cZ cD cH) [.int a1] [] [] (some (.int o)) 0 0 := by
  refine mkI (by decide) (Nat.le_of_ble_eq_true rfl) ?_
  intro p e s m args below meth c A Q X hret ls hl H locs hP hD hS
  replace X : Cx p s m args c D (Tys cI cZ cD cH) A cJ6_bitCount_0f7a4 RJ6 1 := X
  obtain ⟨hx, hb, hml, hown, hts, hK, hZ, hA⟩ := id X
  have hl : lv_has ls 1 [(0, .int a1)] := hl
  unfold fJ6_bitCount_0f7a4 at hf
  refine lv_iload_n hx hb dJ6_bitCount_0f7a4_0 rfl (lv_at hl 0 rfl) ?_
  refine lv_iload_n hx hb dJ6_bitCount_0f7a4_1 rfl (lv_at hl 0 rfl) ?_
  refine lv_iconst (v := 1) hx hb dJ6_bitCount_0f7a4_2 (by decide) ?_
  refine lv_iushr (v := (a1.toUInt32 >>> ((1 : Int32).toUInt32 &&& Int32.toUInt32 31)).toInt32) hx hb dJ6_bitCount_0f7a4_3 rfl ?_
  refine lv_ldcw hx hb hown (hts _ ck_RJ6_265) dJ6_bitCount_0f7a4_4 ?_
  refine lv_iand hx hb dJ6_bitCount_0f7a4_7 ?_
  refine lv_isub hx hb dJ6_bitCount_0f7a4_8 ?_
  refine lv_istore_n (lv' := [(0, .int (a1 - (((a1.toUInt32 >>> ((1 : Int32).toUInt32 &&& Int32.toUInt32 31)).toInt32) &&& 1431655765)))]) hx hb dJ6_bitCount_0f7a4_9 rfl hl (by decide) rfl (fun ls hl => ?_)
  refine lv_iload_n hx hb dJ6_bitCount_0f7a4_10 rfl (lv_at hl 0 rfl) ?_
  refine lv_ldcw hx hb hown (hts _ ck_RJ6_266) dJ6_bitCount_0f7a4_11 ?_
  refine lv_iand hx hb dJ6_bitCount_0f7a4_14 ?_
  refine lv_iload_n hx hb dJ6_bitCount_0f7a4_15 rfl (lv_at hl 0 rfl) ?_
  refine lv_iconst (v := 2) hx hb dJ6_bitCount_0f7a4_16 (by decide) ?_
  refine lv_iushr (v := ((a1 - (((a1.toUInt32 >>> ((1 : Int32).toUInt32 &&& Int32.toUInt32 31)).toInt32) &&& 1431655765)).toUInt32 >>> ((2 : Int32).toUInt32 &&& Int32.toUInt32 31)).toInt32) hx hb dJ6_bitCount_0f7a4_17 rfl ?_
  refine lv_ldcw hx hb hown (hts _ ck_RJ6_266) dJ6_bitCount_0f7a4_18 ?_
  refine lv_iand hx hb dJ6_bitCount_0f7a4_21 ?_
  refine lv_iadd hx hb dJ6_bitCount_0f7a4_22 ?_
  refine lv_istore_n (lv' := [(0, .int (((a1 - (((a1.toUInt32 >>> ((1 : Int32).toUInt32 &&& Int32.toUInt32 31)).toInt32) &&& 1431655765)) &&& 858993459) + ((((a1 - (((a1.toUInt32 >>> ((1 : Int32).toUInt32 &&& Int32.toUInt32 31)).toInt32) &&& 1431655765)).toUInt32 >>> ((2 : Int32).toUInt32 &&& Int32.toUInt32 31)).toInt32) &&& 858993459)))]) hx hb dJ6_bitCount_0f7a4_23 rfl hl (by decide) rfl (fun ls hl => ?_)
  refine lv_iload_n hx hb dJ6_bitCount_0f7a4_24 rfl (lv_at hl 0 rfl) ?_
  refine lv_iload_n hx hb dJ6_bitCount_0f7a4_25 rfl (lv_at hl 0 rfl) ?_
  refine lv_iconst (v := 4) hx hb dJ6_bitCount_0f7a4_26 (by decide) ?_
  refine lv_iushr (v := ((((a1 - (((a1.toUInt32 >>> ((1 : Int32).toUInt32 &&& Int32.toUInt32 31)).toInt32) &&& 1431655765)) &&& 858993459) + ((((a1 - (((a1.toUInt32 >>> ((1 : Int32).toUInt32 &&& Int32.toUInt32 31)).toInt32) &&& 1431655765)).toUInt32 >>> ((2 : Int32).toUInt32 &&& Int32.toUInt32 31)).toInt32) &&& 858993459)).toUInt32 >>> ((4 : Int32).toUInt32 &&& Int32.toUInt32 31)).toInt32) hx hb dJ6_bitCount_0f7a4_27 rfl ?_
  refine lv_iadd hx hb dJ6_bitCount_0f7a4_28 ?_
  refine lv_ldcw hx hb hown (hts _ ck_RJ6_267) dJ6_bitCount_0f7a4_29 ?_
  refine lv_iand hx hb dJ6_bitCount_0f7a4_32 ?_
  refine lv_istore_n (lv' := [(0, .int (((((a1 - (((a1.toUInt32 >>> ((1 : Int32).toUInt32 &&& Int32.toUInt32 31)).toInt32) &&& 1431655765)) &&& 858993459) + ((((a1 - (((a1.toUInt32 >>> ((1 : Int32).toUInt32 &&& Int32.toUInt32 31)).toInt32) &&& 1431655765)).toUInt32 >>> ((2 : Int32).toUInt32 &&& Int32.toUInt32 31)).toInt32) &&& 858993459)) + (((((a1 - (((a1.toUInt32 >>> ((1 : Int32).toUInt32 &&& Int32.toUInt32 31)).toInt32) &&& 1431655765)) &&& 858993459) + ((((a1 - (((a1.toUInt32 >>> ((1 : Int32).toUInt32 &&& Int32.toUInt32 31)).toInt32) &&& 1431655765)).toUInt32 >>> ((2 : Int32).toUInt32 &&& Int32.toUInt32 31)).toInt32) &&& 858993459)).toUInt32 >>> ((4 : Int32).toUInt32 &&& Int32.toUInt32 31)).toInt32)) &&& 252645135))]) hx hb dJ6_bitCount_0f7a4_33 rfl hl (by decide) rfl (fun ls hl => ?_)
  refine lv_iload_n hx hb dJ6_bitCount_0f7a4_34 rfl (lv_at hl 0 rfl) ?_
  refine lv_iload_n hx hb dJ6_bitCount_0f7a4_35 rfl (lv_at hl 0 rfl) ?_
  refine lv_bipush (v := 8) hx hb dJ6_bitCount_0f7a4_36 (by decide) ?_
  refine lv_iushr (v := ((((((a1 - (((a1.toUInt32 >>> ((1 : Int32).toUInt32 &&& Int32.toUInt32 31)).toInt32) &&& 1431655765)) &&& 858993459) + ((((a1 - (((a1.toUInt32 >>> ((1 : Int32).toUInt32 &&& Int32.toUInt32 31)).toInt32) &&& 1431655765)).toUInt32 >>> ((2 : Int32).toUInt32 &&& Int32.toUInt32 31)).toInt32) &&& 858993459)) + (((((a1 - (((a1.toUInt32 >>> ((1 : Int32).toUInt32 &&& Int32.toUInt32 31)).toInt32) &&& 1431655765)) &&& 858993459) + ((((a1 - (((a1.toUInt32 >>> ((1 : Int32).toUInt32 &&& Int32.toUInt32 31)).toInt32) &&& 1431655765)).toUInt32 >>> ((2 : Int32).toUInt32 &&& Int32.toUInt32 31)).toInt32) &&& 858993459)).toUInt32 >>> ((4 : Int32).toUInt32 &&& Int32.toUInt32 31)).toInt32)) &&& 252645135).toUInt32 >>> ((8 : Int32).toUInt32 &&& Int32.toUInt32 31)).toInt32) hx hb dJ6_bitCount_0f7a4_38 rfl ?_
  refine lv_iadd hx hb dJ6_bitCount_0f7a4_39 ?_
  refine lv_istore_n (lv' := [(0, .int ((((((a1 - (((a1.toUInt32 >>> ((1 : Int32).toUInt32 &&& Int32.toUInt32 31)).toInt32) &&& 1431655765)) &&& 858993459) + ((((a1 - (((a1.toUInt32 >>> ((1 : Int32).toUInt32 &&& Int32.toUInt32 31)).toInt32) &&& 1431655765)).toUInt32 >>> ((2 : Int32).toUInt32 &&& Int32.toUInt32 31)).toInt32) &&& 858993459)) + (((((a1 - (((a1.toUInt32 >>> ((1 : Int32).toUInt32 &&& Int32.toUInt32 31)).toInt32) &&& 1431655765)) &&& 858993459) + ((((a1 - (((a1.toUInt32 >>> ((1 : Int32).toUInt32 &&& Int32.toUInt32 31)).toInt32) &&& 1431655765)).toUInt32 >>> ((2 : Int32).toUInt32 &&& Int32.toUInt32 31)).toInt32) &&& 858993459)).toUInt32 >>> ((4 : Int32).toUInt32 &&& Int32.toUInt32 31)).toInt32)) &&& 252645135) + (((((((a1 - (((a1.toUInt32 >>> ((1 : Int32).toUInt32 &&& Int32.toUInt32 31)).toInt32) &&& 1431655765)) &&& 858993459) + ((((a1 - (((a1.toUInt32 >>> ((1 : Int32).toUInt32 &&& Int32.toUInt32 31)).toInt32) &&& 1431655765)).toUInt32 >>> ((2 : Int32).toUInt32 &&& Int32.toUInt32 31)).toInt32) &&& 858993459)) + (((((a1 - (((a1.toUInt32 >>> ((1 : Int32).toUInt32 &&& Int32.toUInt32 31)).toInt32) &&& 1431655765)) &&& 858993459) + ((((a1 - (((a1.toUInt32 >>> ((1 : Int32).toUInt32 &&& Int32.toUInt32 31)).toInt32) &&& 1431655765)).toUInt32 >>> ((2 : Int32).toUInt32 &&& Int32.toUInt32 31)).toInt32) &&& 858993459)).toUInt32 >>> ((4 : Int32).toUInt32 &&& Int32.toUInt32 31)).toInt32)) &&& 252645135).toUInt32 >>> ((8 : Int32).toUInt32 &&& Int32.toUInt32 31)).toInt32)))]) hx hb dJ6_bitCount_0f7a4_40 rfl hl (by decide) rfl (fun ls hl => ?_)
  refine lv_iload_n hx hb dJ6_bitCount_0f7a4_41 rfl (lv_at hl 0 rfl) ?_
  refine lv_iload_n hx hb dJ6_bitCount_0f7a4_42 rfl (lv_at hl 0 rfl) ?_
  refine lv_bipush (v := 16) hx hb dJ6_bitCount_0f7a4_43 (by decide) ?_
  refine lv_iushr (v := (((((((a1 - (((a1.toUInt32 >>> ((1 : Int32).toUInt32 &&& Int32.toUInt32 31)).toInt32) &&& 1431655765)) &&& 858993459) + ((((a1 - (((a1.toUInt32 >>> ((1 : Int32).toUInt32 &&& Int32.toUInt32 31)).toInt32) &&& 1431655765)).toUInt32 >>> ((2 : Int32).toUInt32 &&& Int32.toUInt32 31)).toInt32) &&& 858993459)) + (((((a1 - (((a1.toUInt32 >>> ((1 : Int32).toUInt32 &&& Int32.toUInt32 31)).toInt32) &&& 1431655765)) &&& 858993459) + ((((a1 - (((a1.toUInt32 >>> ((1 : Int32).toUInt32 &&& Int32.toUInt32 31)).toInt32) &&& 1431655765)).toUInt32 >>> ((2 : Int32).toUInt32 &&& Int32.toUInt32 31)).toInt32) &&& 858993459)).toUInt32 >>> ((4 : Int32).toUInt32 &&& Int32.toUInt32 31)).toInt32)) &&& 252645135) + (((((((a1 - (((a1.toUInt32 >>> ((1 : Int32).toUInt32 &&& Int32.toUInt32 31)).toInt32) &&& 1431655765)) &&& 858993459) + ((((a1 - (((a1.toUInt32 >>> ((1 : Int32).toUInt32 &&& Int32.toUInt32 31)).toInt32) &&& 1431655765)).toUInt32 >>> ((2 : Int32).toUInt32 &&& Int32.toUInt32 31)).toInt32) &&& 858993459)) + (((((a1 - (((a1.toUInt32 >>> ((1 : Int32).toUInt32 &&& Int32.toUInt32 31)).toInt32) &&& 1431655765)) &&& 858993459) + ((((a1 - (((a1.toUInt32 >>> ((1 : Int32).toUInt32 &&& Int32.toUInt32 31)).toInt32) &&& 1431655765)).toUInt32 >>> ((2 : Int32).toUInt32 &&& Int32.toUInt32 31)).toInt32) &&& 858993459)).toUInt32 >>> ((4 : Int32).toUInt32 &&& Int32.toUInt32 31)).toInt32)) &&& 252645135).toUInt32 >>> ((8 : Int32).toUInt32 &&& Int32.toUInt32 31)).toInt32)).toUInt32 >>> ((16 : Int32).toUInt32 &&& Int32.toUInt32 31)).toInt32) hx hb dJ6_bitCount_0f7a4_45 rfl ?_
  refine lv_iadd hx hb dJ6_bitCount_0f7a4_46 ?_
  refine lv_istore_n (lv' := [(0, .int (((((((a1 - (((a1.toUInt32 >>> ((1 : Int32).toUInt32 &&& Int32.toUInt32 31)).toInt32) &&& 1431655765)) &&& 858993459) + ((((a1 - (((a1.toUInt32 >>> ((1 : Int32).toUInt32 &&& Int32.toUInt32 31)).toInt32) &&& 1431655765)).toUInt32 >>> ((2 : Int32).toUInt32 &&& Int32.toUInt32 31)).toInt32) &&& 858993459)) + (((((a1 - (((a1.toUInt32 >>> ((1 : Int32).toUInt32 &&& Int32.toUInt32 31)).toInt32) &&& 1431655765)) &&& 858993459) + ((((a1 - (((a1.toUInt32 >>> ((1 : Int32).toUInt32 &&& Int32.toUInt32 31)).toInt32) &&& 1431655765)).toUInt32 >>> ((2 : Int32).toUInt32 &&& Int32.toUInt32 31)).toInt32) &&& 858993459)).toUInt32 >>> ((4 : Int32).toUInt32 &&& Int32.toUInt32 31)).toInt32)) &&& 252645135) + (((((((a1 - (((a1.toUInt32 >>> ((1 : Int32).toUInt32 &&& Int32.toUInt32 31)).toInt32) &&& 1431655765)) &&& 858993459) + ((((a1 - (((a1.toUInt32 >>> ((1 : Int32).toUInt32 &&& Int32.toUInt32 31)).toInt32) &&& 1431655765)).toUInt32 >>> ((2 : Int32).toUInt32 &&& Int32.toUInt32 31)).toInt32) &&& 858993459)) + (((((a1 - (((a1.toUInt32 >>> ((1 : Int32).toUInt32 &&& Int32.toUInt32 31)).toInt32) &&& 1431655765)) &&& 858993459) + ((((a1 - (((a1.toUInt32 >>> ((1 : Int32).toUInt32 &&& Int32.toUInt32 31)).toInt32) &&& 1431655765)).toUInt32 >>> ((2 : Int32).toUInt32 &&& Int32.toUInt32 31)).toInt32) &&& 858993459)).toUInt32 >>> ((4 : Int32).toUInt32 &&& Int32.toUInt32 31)).toInt32)) &&& 252645135).toUInt32 >>> ((8 : Int32).toUInt32 &&& Int32.toUInt32 31)).toInt32)) + ((((((((a1 - (((a1.toUInt32 >>> ((1 : Int32).toUInt32 &&& Int32.toUInt32 31)).toInt32) &&& 1431655765)) &&& 858993459) + ((((a1 - (((a1.toUInt32 >>> ((1 : Int32).toUInt32 &&& Int32.toUInt32 31)).toInt32) &&& 1431655765)).toUInt32 >>> ((2 : Int32).toUInt32 &&& Int32.toUInt32 31)).toInt32) &&& 858993459)) + (((((a1 - (((a1.toUInt32 >>> ((1 : Int32).toUInt32 &&& Int32.toUInt32 31)).toInt32) &&& 1431655765)) &&& 858993459) + ((((a1 - (((a1.toUInt32 >>> ((1 : Int32).toUInt32 &&& Int32.toUInt32 31)).toInt32) &&& 1431655765)).toUInt32 >>> ((2 : Int32).toUInt32 &&& Int32.toUInt32 31)).toInt32) &&& 858993459)).toUInt32 >>> ((4 : Int32).toUInt32 &&& Int32.toUInt32 31)).toInt32)) &&& 252645135) + (((((((a1 - (((a1.toUInt32 >>> ((1 : Int32).toUInt32 &&& Int32.toUInt32 31)).toInt32) &&& 1431655765)) &&& 858993459) + ((((a1 - (((a1.toUInt32 >>> ((1 : Int32).toUInt32 &&& Int32.toUInt32 31)).toInt32) &&& 1431655765)).toUInt32 >>> ((2 : Int32).toUInt32 &&& Int32.toUInt32 31)).toInt32) &&& 858993459)) + (((((a1 - (((a1.toUInt32 >>> ((1 : Int32).toUInt32 &&& Int32.toUInt32 31)).toInt32) &&& 1431655765)) &&& 858993459) + ((((a1 - (((a1.toUInt32 >>> ((1 : Int32).toUInt32 &&& Int32.toUInt32 31)).toInt32) &&& 1431655765)).toUInt32 >>> ((2 : Int32).toUInt32 &&& Int32.toUInt32 31)).toInt32) &&& 858993459)).toUInt32 >>> ((4 : Int32).toUInt32 &&& Int32.toUInt32 31)).toInt32)) &&& 252645135).toUInt32 >>> ((8 : Int32).toUInt32 &&& Int32.toUInt32 31)).toInt32)).toUInt32 >>> ((16 : Int32).toUInt32 &&& Int32.toUInt32 31)).toInt32)))]) hx hb dJ6_bitCount_0f7a4_47 rfl hl (by decide) rfl (fun ls hl => ?_)
  refine lv_iload_n hx hb dJ6_bitCount_0f7a4_48 rfl (lv_at hl 0 rfl) ?_
  refine lv_bipush (v := 63) hx hb dJ6_bitCount_0f7a4_49 (by decide) ?_
  refine lv_iand hx hb dJ6_bitCount_0f7a4_51 ?_
  replace hf := Option.some.inj hf
  subst hf
  exact hret H locs _ ls dJ6_bitCount_0f7a4_52 hP hD hS
