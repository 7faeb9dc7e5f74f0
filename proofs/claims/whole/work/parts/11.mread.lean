def fX7_number (a1 : Int32) (a2 : Int32) (g_size : Int32) (g_at : Int32) (g_told : Int32) (g_text : Nat → Int32) : Option (Bool × Int32 × Int32 × Int32 × Int32) :=
  (fX7_reads g_size g_at g_told g_text).bind (fun r1 => if r1.2.2.1 = 2 then (fX7_in r1.2.2.2.toInt64 a1.toInt64 a2.toInt64).bind (fun r3 => if (bI r3) = 0 then some (false, r1.1, r1.2.1, r1.2.2.1, r1.2.2.2) else some (true, r1.1, r1.2.1, r1.2.2.1, r1.2.2.2)) else some (false, r1.1, r1.2.1, r1.2.2.1, r1.2.2.2))
set_option maxHeartbeats 4000000 in
set_option maxRecDepth 100000 in
theorem ctX7_number (l : Launch) (D : va_G) (cI cZ cD cH : ClassId) (qg : Nat) (qg_text : Nat) (qg_read : Nat) (qg_life : Nat) (qg_done : Nat) (qg_undone : Nat) (qg_selves : Nat) (qg_when : Nat) (qg_jury : Nat) (qg_years : Nat) (qg_states : Nat) (qg_kept : Nat) (a1 : Int32) (a2 : Int32) (g_size : Int32) (g_at : Int32) (g_begin : Int32) (g_token : Int32) (g_told : Int32) (g_dones : Int32) (g_undos : Int32) (g_seens : Int32) (g_trace : Int64) (g_text : Nat → Int32) (g_read : Nat → Int32) (g_life : Nat → Int32) (g_done : Nat → Int32) (g_undone : Nat → Int32) (g_selves : Nat → Int32) (g_when : Nat → Int32) (g_jury : Nat → Int32) (g_years : Nat → Int32) (g_states : Nat → Int32) (g_kept : Nat → Int32) (o : Bool × Int32 × Int32 × Int32 × Int32) (hf : fX7_number a1 a2 g_size g_at g_told g_text = some o) : Ct l yX7_number cX7_number 3 (some .boolean) { frames := 4, cells := 0, slots := 0, locals := 86 } D (Tys cI cZ cD cH) [.ref qg, .int a1, .int a2] [(qg, .inr (7, [.ref qg_text, .int g_size, .int g_at, .int g_begin, .int g_token, .int g_told, .ref qg_read, .ref qg_life, .int g_dones, .ref qg_done, .int g_undos, .ref qg_undone, .ref qg_selves, .ref qg_when, .ref qg_jury, .int g_seens, .ref qg_years, .ref qg_states, .long g_trace, .ref qg_kept])), rI cI qg_text 200 g_text, rI cI qg_read 55 g_read, rI cI qg_life 55 g_life, rI cI qg_done 16 g_done, rI cI qg_undone 130 g_undone, rI cI qg_selves 16 g_selves, rI cI qg_when 27 g_when, rI cI qg_jury 16 g_jury, rI cI qg_years 6 g_years, rI cI qg_states 6 g_states, rI cI qg_kept 290 g_kept] [(qg, .inr (7, [.ref qg_text, .int g_size, .int o.2.1, .int o.2.2.1, .int o.2.2.2.1, .int o.2.2.2.2, .ref qg_read, .ref qg_life, .int g_dones, .ref qg_done, .int g_undos, .ref qg_undone, .ref qg_selves, .ref qg_when, .ref qg_jury, .int g_seens, .ref qg_years, .ref qg_states, .long g_trace, .ref qg_kept])), rI cI qg_text 200 g_text, rI cI qg_read 55 g_read, rI cI qg_life 55 g_life, rI cI qg_done 16 g_done, rI cI qg_undone 130 g_undone, rI cI qg_selves 16 g_selves, rI cI qg_when 27 g_when, rI cI qg_jury 16 g_jury, rI cI qg_years 6 g_years, rI cI qg_states 6 g_states, rI cI qg_kept 290 g_kept] (some (.int (bI o.1))) 0 0 := by
  refine mkZ (by decide) (Nat.le_of_ble_eq_true rfl) ?_
  intro p e s m args below meth c A Q X hret ls hl H locs hP hD hS
  replace X : Cx p s m args c D (Tys cI cZ cD cH) A cX7_number RX7 3 := X
  obtain ⟨hx, hb, hml, hown, hts, hK, hZ, hA⟩ := id X
  have hl : lv_has ls 3 [(0, .ref qg), (1, .int a1), (2, .int a2)] := hl
  unfold fX7_number at hf
  refine lv_aload_n hx hb dX7_number_0 rfl (lv_at hl 0 rfl) ?_
  obtain ⟨r1, hr1, hf⟩ := bnd hf
  refine k_callV X hP hD hS [(qg, .inr (7, [.ref qg_text, .int g_size, .int r1.1, .int r1.2.1, .int r1.2.2.1, .int r1.2.2.2, .ref qg_read, .ref qg_life, .int g_dones, .ref qg_done, .int g_undos, .ref qg_undone, .ref qg_selves, .ref qg_when, .ref qg_jury, .int g_seens, .ref qg_years, .ref qg_states, .long g_trace, .ref qg_kept])), rI cI qg_text 200 g_text, rI cI qg_read 55 g_read, rI cI qg_life 55 g_life, rI cI qg_done 16 g_done, rI cI qg_undone 130 g_undone, rI cI qg_selves 16 g_selves, rI cI qg_when 27 g_when, rI cI qg_jury 16 g_jury, rI cI qg_years 6 g_years, rI cI qg_states 6 g_states, rI cI qg_kept 290 g_kept] (ctX7_reads l D cI cZ cD cH qg qg_text qg_read qg_life qg_done qg_undone qg_selves qg_when qg_jury qg_years qg_states qg_kept g_size g_at g_begin g_token g_told g_dones g_undos g_seens g_trace g_text g_read g_life g_done g_undone g_selves g_when g_jury g_years g_states g_kept r1 hr1) ml_RX7_92 im_yX7_reads se_yX7_reads in_RX7 cd_yX7_reads rfl rfl hd_yX7_reads ⟨by decide, by decide⟩ ⟨Nat.zero_le _, Nat.zero_le _⟩ [0, 1, 2, 3, 4, 5, 6, 7, 8, 9, 10, 11] [some 0, some 1, some 2, some 3, some 4, some 5, some 6, some 7, some 8, some 9, some 10, some 11] rfl (by decide +kernel) rfl (by decide +kernel) rfl rfl (q0 := 0) rfl rfl rfl hl.1 rfl rfl (Nat.le_of_ble_eq_true rfl) rfl dX7_number_1 (fun H locs hP hD hS => ?_)
  refine lv_aload_n hx hb dX7_number_4 rfl (lv_at hl 0 rfl) ?_
  refine k_get X hP 0 rfl rfl inX7 4 (by decide) fl_RX7_80 rfl rfl dX7_number_5 ?_
  refine lv_iconst (v := 2) hx hb dX7_number_8 (by decide) ?_
  refine lv_icmp_ne (tgt := 31) hx hb dX7_number_9 (by decide) (fun c2 => ?_) (fun c2 => ?_)
  · replace hf := ite_f c2 hf
    refine lv_iconst (v := 0) hx hb dX7_number_31 (by decide) ?_
    replace hf := Option.some.inj hf
    subst hf
    exact hret H locs _ ls dX7_number_32 hP hD hS
  · replace hf := ite_t c2 hf
    refine lv_aload_n hx hb dX7_number_12 rfl (lv_at hl 0 rfl) ?_
    refine k_get X hP 0 rfl rfl inX7 5 (by decide) fl_RX7_70 rfl rfl dX7_number_13 ?_
    refine lv_i2l (v := r1.2.2.2.toInt64) hx hb dX7_number_16 rfl ?_
    refine lv_iload_n hx hb dX7_number_17 rfl (lv_at hl 1 rfl) ?_
    refine lv_i2l (v := a1.toInt64) hx hb dX7_number_18 rfl ?_
    refine lv_iload_n hx hb dX7_number_19 rfl (lv_at hl 2 rfl) ?_
    refine lv_i2l (v := a2.toInt64) hx hb dX7_number_20 rfl ?_
    obtain ⟨r3, hr3, hf⟩ := bnd hf
    refine k_callS X hP hD hS [(qg, .inr (7, [.ref qg_text, .int g_size, .int r1.1, .int r1.2.1, .int r1.2.2.1, .int r1.2.2.2, .ref qg_read, .ref qg_life, .int g_dones, .ref qg_done, .int g_undos, .ref qg_undone, .ref qg_selves, .ref qg_when, .ref qg_jury, .int g_seens, .ref qg_years, .ref qg_states, .long g_trace, .ref qg_kept])), rI cI qg_text 200 g_text, rI cI qg_read 55 g_read, rI cI qg_life 55 g_life, rI cI qg_done 16 g_done, rI cI qg_undone 130 g_undone, rI cI qg_selves 16 g_selves, rI cI qg_when 27 g_when, rI cI qg_jury 16 g_jury, rI cI qg_years 6 g_years, rI cI qg_states 6 g_states, rI cI qg_kept 290 g_kept] (ctX7_in l D cI cZ cD cH r1.2.2.2.toInt64 a1.toInt64 a2.toInt64 r3 hr3) ml_RX7_51 sm_yX7_in in_RX7 cd_yX7_in rfl rfl hd_yX7_in ⟨by decide, by decide⟩ ⟨Nat.zero_le _, Nat.zero_le _⟩ [] [none, none, none, none, none, none, none, none, none, none, none, none] rfl (by decide +kernel) rfl (by decide +kernel) rfl rfl hl.1 rfl rfl (Nat.le_of_ble_eq_true rfl) rfl dX7_number_21 (fun H locs hP hD hS => ?_)
    refine lv_if_eq (tgt := 31) hx hb dX7_number_24 (by decide) (fun c4 => ?_) (fun c4 => ?_)
    · replace hf := ite_t c4 hf
      refine lv_iconst (v := 0) hx hb dX7_number_31 (by decide) ?_
      replace hf := Option.some.inj hf
      subst hf
      exact hret H locs _ ls dX7_number_32 hP hD hS
    · replace hf := ite_f c4 hf
      refine lv_iconst (v := 1) hx hb dX7_number_27 (by decide) ?_
      refine lv_goto (tgt := 32) hx hb dX7_number_28 (by decide) ?_
      replace hf := Option.some.inj hf
      subst hf
      exact hret H locs _ ls dX7_number_32 hP hD hS

def fX7_ends (g_size : Int32) (g_at : Int32) (g_told : Int32) (g_text : Nat → Int32) : Option (Bool × Int32 × Int32 × Int32 × Int32) :=
  (fX7_reads g_size g_at g_told g_text).bind (fun r1 => if r1.2.2.1 = 3 then some (true, r1.1, r1.2.1, r1.2.2.1, r1.2.2.2) else some (false, r1.1, r1.2.1, r1.2.2.1, r1.2.2.2))
set_option maxHeartbeats 4000000 in
set_option maxRecDepth 100000 in
theorem ctX7_ends (l : Launch) (D : va_G) (cI cZ cD cH : ClassId) (qg : Nat) (qg_text : Nat) (qg_read : Nat) (qg_life : Nat) (qg_done : Nat) (qg_undone : Nat) (qg_selves : Nat) (qg_when : Nat) (qg_jury : Nat) (qg_years : Nat) (qg_states : Nat) (qg_kept : Nat) (g_size : Int32) (g_at : Int32) (g_begin : Int32) (g_token : Int32) (g_told : Int32) (g_dones : Int32) (g_undos : Int32) (g_seens : Int32) (g_trace : Int64) (g_text : Nat → Int32) (g_read : Nat → Int32) (g_life : Nat → Int32) (g_done : Nat → Int32) (g_undone : Nat → Int32) (g_selves : Nat → Int32) (g_when : Nat → Int32) (g_jury : Nat → Int32) (g_years : Nat → Int32) (g_states : Nat → Int32) (g_kept : Nat → Int32) (o : Bool × Int32 × Int32 × Int32 × Int32) (hf : fX7_ends g_size g_at g_told g_text = some o) : Ct l yX7_ends cX7_ends 1 (some .boolean) { frames := 4, cells := 0, slots := 0, locals := 86 } D (Tys cI cZ cD cH) [.ref qg] [(qg, .inr (7, [.ref qg_text, .int g_size, .int g_at, .int g_begin, .int g_token, .int g_told, .ref qg_read, .ref qg_life, .int g_dones, .ref qg_done, .int g_undos, .ref qg_undone, .ref qg_selves, .ref qg_when, .ref qg_jury, .int g_seens, .ref qg_years, .ref qg_states, .long g_trace, .ref qg_kept])), rI cI qg_text 200 g_text, rI cI qg_read 55 g_read, rI cI qg_life 55 g_life, rI cI qg_done 16 g_done, rI cI qg_undone 130 g_undone, rI cI qg_selves 16 g_selves, rI cI qg_when 27 g_when, rI cI qg_jury 16 g_jury, rI cI qg_years 6 g_years, rI cI qg_states 6 g_states, rI cI qg_kept 290 g_kept] [(qg, .inr (7, [.ref qg_text, .int g_size, .int o.2.1, .int o.2.2.1, .int o.2.2.2.1, .int o.2.2.2.2, .ref qg_read, .ref qg_life, .int g_dones, .ref qg_done, .int g_undos, .ref qg_undone, .ref qg_selves, .ref qg_when, .ref qg_jury, .int g_seens, .ref qg_years, .ref qg_states, .long g_trace, .ref qg_kept])), rI cI qg_text 200 g_text, rI cI qg_read 55 g_read, rI cI qg_life 55 g_life, rI cI qg_done 16 g_done, rI cI qg_undone 130 g_undone, rI cI qg_selves 16 g_selves, rI cI qg_when 27 g_when, rI cI qg_jury 16 g_jury, rI cI qg_years 6 g_years, rI cI qg_states 6 g_states, rI cI qg_kept 290 g_kept] (some (.int (bI o.1))) 0 0 := by
  refine mkZ (by decide) (Nat.le_of_ble_eq_true rfl) ?_
  intro p e s m args below meth c A Q X hret ls hl H locs hP hD hS
  replace X : Cx p s m args c D (Tys cI cZ cD cH) A cX7_ends RX7 1 := X
  obtain ⟨hx, hb, hml, hown, hts, hK, hZ, hA⟩ := id X
  have hl : lv_has ls 1 [(0, .ref qg)] := hl
  unfold fX7_ends at hf
  refine lv_aload_n hx hb dX7_ends_0 rfl (lv_at hl 0 rfl) ?_
  obtain ⟨r1, hr1, hf⟩ := bnd hf
  refine k_callV X hP hD hS [(qg, .inr (7, [.ref qg_text, .int g_size, .int r1.1, .int r1.2.1, .int r1.2.2.1, .int r1.2.2.2, .ref qg_read, .ref qg_life, .int g_dones, .ref qg_done, .int g_undos, .ref qg_undone, .ref qg_selves, .ref qg_when, .ref qg_jury, .int g_seens, .ref qg_years, .ref qg_states, .long g_trace, .ref qg_kept])), rI cI qg_text 200 g_text, rI cI qg_read 55 g_read, rI cI qg_life 55 g_life, rI cI qg_done 16 g_done, rI cI qg_undone 130 g_undone, rI cI qg_selves 16 g_selves, rI cI qg_when 27 g_when, rI cI qg_jury 16 g_jury, rI cI qg_years 6 g_years, rI cI qg_states 6 g_states, rI cI qg_kept 290 g_kept] (ctX7_reads l D cI cZ cD cH qg qg_text qg_read qg_life qg_done qg_undone qg_selves qg_when qg_jury qg_years qg_states qg_kept g_size g_at g_begin g_token g_told g_dones g_undos g_seens g_trace g_text g_read g_life g_done g_undone g_selves g_when g_jury g_years g_states g_kept r1 hr1) ml_RX7_92 im_yX7_reads se_yX7_reads in_RX7 cd_yX7_reads rfl rfl hd_yX7_reads ⟨by decide, by decide⟩ ⟨Nat.zero_le _, Nat.zero_le _⟩ [0, 1, 2, 3, 4, 5, 6, 7, 8, 9, 10, 11] [some 0, some 1, some 2, some 3, some 4, some 5, some 6, some 7, some 8, some 9, some 10, some 11] rfl (by decide +kernel) rfl (by decide +kernel) rfl rfl (q0 := 0) rfl rfl rfl hl.1 rfl rfl (Nat.le_of_ble_eq_true rfl) rfl dX7_ends_1 (fun H locs hP hD hS => ?_)
  refine lv_aload_n hx hb dX7_ends_4 rfl (lv_at hl 0 rfl) ?_
  refine k_get X hP 0 rfl rfl inX7 4 (by decide) fl_RX7_80 rfl rfl dX7_ends_5 ?_
  refine lv_iconst (v := 3) hx hb dX7_ends_8 (by decide) ?_
  refine lv_icmp_ne (tgt := 16) hx hb dX7_ends_9 (by decide) (fun c2 => ?_) (fun c2 => ?_)
  · replace hf := ite_f c2 hf
    refine lv_iconst (v := 0) hx hb dX7_ends_16 (by decide) ?_
    replace hf := Option.some.inj hf
    subst hf
    exact hret H locs _ ls dX7_ends_17 hP hD hS
  · replace hf := ite_t c2 hf
    refine lv_iconst (v := 1) hx hb dX7_ends_12 (by decide) ?_
    refine lv_goto (tgt := 17) hx hb dX7_ends_13 (by decide) ?_
    replace hf := Option.some.inj hf
    subst hf
    exact hret H locs _ ls dX7_ends_17 hP hD hS

def sX7_plain_2 (v1 : Int32) (g_read : Nat → Int32) : Option ((Int32 × (Nat → Int32)) ⊕ (((Nat → Int32)))) :=
  if 55 ≤ v1 then some (.inr g_read) else if inb v1 55 = true then some (.inl (v1 + 1, upd g_read v1.toNatClampNeg 0)) else none
def fX7_plain (g_read : Nat → Int32) : Option ((Nat → Int32)) :=
  (lpd (fun s1 => sX7_plain_2 s1.1 s1.2) FU (0, g_read)).bind (fun (y1_0 : (Nat → Int32)) => if inb 0 55 = true then if inb 4 55 = true then some (upd (upd y1_0 (0 : Int32).toNatClampNeg 12) (4 : Int32).toNatClampNeg 1) else none else none)
set_option maxHeartbeats 4000000 in
set_option maxRecDepth 100000 in
theorem ctX7_plain (l : Launch) (D : va_G) (cI cZ cD cH : ClassId) (qg : Nat) (qg_text : Nat) (qg_read : Nat) (qg_life : Nat) (qg_done : Nat) (qg_undone : Nat) (qg_selves : Nat) (qg_when : Nat) (qg_jury : Nat) (qg_years : Nat) (qg_states : Nat) (qg_kept : Nat) (g_size : Int32) (g_at : Int32) (g_begin : Int32) (g_token : Int32) (g_told : Int32) (g_dones : Int32) (g_undos : Int32) (g_seens : Int32) (g_trace : Int64) (g_text : Nat → Int32) (g_read : Nat → Int32) (g_life : Nat → Int32) (g_done : Nat → Int32) (g_undone : Nat → Int32) (g_selves : Nat → Int32) (g_when : Nat → Int32) (g_jury : Nat → Int32) (g_years : Nat → Int32) (g_states : Nat → Int32) (g_kept : Nat → Int32) (o : (Nat → Int32)) (hf : fX7_plain g_read = some o) : Ct l yX7_plain cX7_plain 2 none { frames := 0, cells := 0, slots := 0, locals := 0 } D (Tys cI cZ cD cH) [.ref qg] [(qg, .inr (7, [.ref qg_text, .int g_size, .int g_at, .int g_begin, .int g_token, .int g_told, .ref qg_read, .ref qg_life, .int g_dones, .ref qg_done, .int g_undos, .ref qg_undone, .ref qg_selves, .ref qg_when, .ref qg_jury, .int g_seens, .ref qg_years, .ref qg_states, .long g_trace, .ref qg_kept])), rI cI qg_text 200 g_text, rI cI qg_read 55 g_read, rI cI qg_life 55 g_life, rI cI qg_done 16 g_done, rI cI qg_undone 130 g_undone, rI cI qg_selves 16 g_selves, rI cI qg_when 27 g_when, rI cI qg_jury 16 g_jury, rI cI qg_years 6 g_years, rI cI qg_states 6 g_states, rI cI qg_kept 290 g_kept] [(qg, .inr (7, [.ref qg_text, .int g_size, .int g_at, .int g_begin, .int g_token, .int g_told, .ref qg_read, .ref qg_life, .int g_dones, .ref qg_done, .int g_undos, .ref qg_undone, .ref qg_selves, .ref qg_when, .ref qg_jury, .int g_seens, .ref qg_years, .ref qg_states, .long g_trace, .ref qg_kept])), rI cI qg_text 200 g_text, rI cI qg_read 55 o, rI cI qg_life 55 g_life, rI cI qg_done 16 g_done, rI cI qg_undone 130 g_undone, rI cI qg_selves 16 g_selves, rI cI qg_when 27 g_when, rI cI qg_jury 16 g_jury, rI cI qg_years 6 g_years, rI cI qg_states 6 g_states, rI cI qg_kept 290 g_kept] none 0 0 := by
  refine mkV (by decide) (Nat.le_of_ble_eq_true rfl) ?_
  intro p e s m args below meth c A Q X hnm hret ls hl H locs hP hD hS
  replace X : Cx p s m args c D (Tys cI cZ cD cH) A cX7_plain RX7 2 := X
  obtain ⟨hx, hb, hml, hown, hts, hK, hZ, hA⟩ := id X
  have hl : lv_has ls 2 [(0, .ref qg)] := hl
  unfold fX7_plain at hf
  refine lv_iconst (v := 0) hx hb dX7_plain_0 (by decide) ?_
  refine lv_istore_n (lv' := [(1, .int 0), (0, .ref qg)]) hx hb dX7_plain_1 rfl hl (by decide) rfl (fun ls hl => ?_)
  obtain ⟨e1, he1, hf⟩ := bnd hf
  have hx1_0 : ∀ (y1_0 : (Nat → Int32)), y1_0 = e1 → ∀ (H : Heap) (locs : List Loc) (ls : Array Slot), va_P D vwCl [(qg, .inr (7, [.ref qg_text, .int g_size, .int g_at, .int g_begin, .int g_token, .int g_told, .ref qg_read, .ref qg_life, .int g_dones, .ref qg_done, .int g_undos, .ref qg_undone, .ref qg_selves, .ref qg_when, .ref qg_jury, .int g_seens, .ref qg_years, .ref qg_states, .long g_trace, .ref qg_kept])), rI cI qg_text 200 g_text, rI cI qg_read 55 y1_0, rI cI qg_life 55 g_life, rI cI qg_done 16 g_done, rI cI qg_undone 130 g_undone, rI cI qg_selves 16 g_selves, rI cI qg_when 27 g_when, rI cI qg_jury 16 g_jury, rI cI qg_years 6 g_years, rI cI qg_states 6 g_states, rI cI qg_kept 290 g_kept] H → va_D A [(qg, .inr (7, [.ref qg_text, .int g_size, .int g_at, .int g_begin, .int g_token, .int g_told, .ref qg_read, .ref qg_life, .int g_dones, .ref qg_done, .int g_undos, .ref qg_undone, .ref qg_selves, .ref qg_when, .ref qg_jury, .int g_seens, .ref qg_years, .ref qg_states, .long g_trace, .ref qg_kept])), rI cI qg_text 200 g_text, rI cI qg_read 55 y1_0, rI cI qg_life 55 g_life, rI cI qg_done 16 g_done, rI cI qg_undone 130 g_undone, rI cI qg_selves 16 g_selves, rI cI qg_when 27 g_when, rI cI qg_jury 16 g_jury, rI cI qg_years 6 g_years, rI cI qg_states 6 g_states, rI cI qg_kept 290 g_kept] → va_S A s.heap H locs → lv_has ls 2 [(0, .ref qg)] → W p l e ({ frames := 0, cells := 0, slots := 0, locals := 0 } : Room) s m args below meth c H locs 0 0 Q (F0 m 21 ls []) := by
    intro y1_0 heq H locs ls hP hD hS hl
    subst heq
    refine lv_aload_n hx hb dX7_plain_21 rfl (lv_at hl 0 rfl) ?_
    refine k_get X hP 0 rfl rfl inX7 6 (by decide) fl_RX7_13 rfl rfl dX7_plain_22 ?_
    refine lv_iconst (v := 0) hx hb dX7_plain_25 (by decide) ?_
    refine lv_bipush (v := 12) hx hb dX7_plain_26 (by decide) ?_
    obtain ⟨h2, hf⟩ := ck_t hf
    refine k_iast X hP hD hS [(qg, .inr (7, [.ref qg_text, .int g_size, .int g_at, .int g_begin, .int g_token, .int g_told, .ref qg_read, .ref qg_life, .int g_dones, .ref qg_done, .int g_undos, .ref qg_undone, .ref qg_selves, .ref qg_when, .ref qg_jury, .int g_seens, .ref qg_years, .ref qg_states, .long g_trace, .ref qg_kept])), rI cI qg_text 200 g_text, rI cI qg_read 55 (upd y1_0 (0 : Int32).toNatClampNeg 12), rI cI qg_life 55 g_life, rI cI qg_done 16 g_done, rI cI qg_undone 130 g_undone, rI cI qg_selves 16 g_selves, rI cI qg_when 27 g_when, rI cI qg_jury 16 g_jury, rI cI qg_years 6 g_years, rI cI qg_states 6 g_states, rI cI qg_kept 290 g_kept] 2 0 rfl rfl h2 rfl dX7_plain_28 (fun H locs hP hD hS => ?_)
    refine lv_aload_n hx hb dX7_plain_29 rfl (lv_at hl 0 rfl) ?_
    refine k_get X hP 0 rfl rfl inX7 6 (by decide) fl_RX7_13 rfl rfl dX7_plain_30 ?_
    refine lv_iconst (v := 4) hx hb dX7_plain_33 (by decide) ?_
    refine lv_iconst (v := 1) hx hb dX7_plain_34 (by decide) ?_
    obtain ⟨h3, hf⟩ := ck_t hf
    refine k_iast X hP hD hS [(qg, .inr (7, [.ref qg_text, .int g_size, .int g_at, .int g_begin, .int g_token, .int g_told, .ref qg_read, .ref qg_life, .int g_dones, .ref qg_done, .int g_undos, .ref qg_undone, .ref qg_selves, .ref qg_when, .ref qg_jury, .int g_seens, .ref qg_years, .ref qg_states, .long g_trace, .ref qg_kept])), rI cI qg_text 200 g_text, rI cI qg_read 55 (upd (upd y1_0 (0 : Int32).toNatClampNeg 12) (4 : Int32).toNatClampNeg 1), rI cI qg_life 55 g_life, rI cI qg_done 16 g_done, rI cI qg_undone 130 g_undone, rI cI qg_selves 16 g_selves, rI cI qg_when 27 g_when, rI cI qg_jury 16 g_jury, rI cI qg_years 6 g_years, rI cI qg_states 6 g_states, rI cI qg_kept 290 g_kept] 2 0 rfl rfl h3 rfl dX7_plain_35 (fun H locs hP hD hS => ?_)
    replace hf := Option.some.inj hf
    subst hf
    exact hret H locs _ ls dX7_plain_36 hP hD hS
  refine lpd_ind (P := fun s1 => ∀ (H : Heap) (locs : List Loc) (ls : Array Slot), va_P D vwCl [(qg, .inr (7, [.ref qg_text, .int g_size, .int g_at, .int g_begin, .int g_token, .int g_told, .ref qg_read, .ref qg_life, .int g_dones, .ref qg_done, .int g_undos, .ref qg_undone, .ref qg_selves, .ref qg_when, .ref qg_jury, .int g_seens, .ref qg_years, .ref qg_states, .long g_trace, .ref qg_kept])), rI cI qg_text 200 g_text, rI cI qg_read 55 s1.2, rI cI qg_life 55 g_life, rI cI qg_done 16 g_done, rI cI qg_undone 130 g_undone, rI cI qg_selves 16 g_selves, rI cI qg_when 27 g_when, rI cI qg_jury 16 g_jury, rI cI qg_years 6 g_years, rI cI qg_states 6 g_states, rI cI qg_kept 290 g_kept] H → va_D A [(qg, .inr (7, [.ref qg_text, .int g_size, .int g_at, .int g_begin, .int g_token, .int g_told, .ref qg_read, .ref qg_life, .int g_dones, .ref qg_done, .int g_undos, .ref qg_undone, .ref qg_selves, .ref qg_when, .ref qg_jury, .int g_seens, .ref qg_years, .ref qg_states, .long g_trace, .ref qg_kept])), rI cI qg_text 200 g_text, rI cI qg_read 55 s1.2, rI cI qg_life 55 g_life, rI cI qg_done 16 g_done, rI cI qg_undone 130 g_undone, rI cI qg_selves 16 g_selves, rI cI qg_when 27 g_when, rI cI qg_jury 16 g_jury, rI cI qg_years 6 g_years, rI cI qg_states 6 g_states, rI cI qg_kept 290 g_kept] → va_S A s.heap H locs → lv_has ls 2 [(0, .ref qg), (1, .int s1.1)] → W p l e ({ frames := 0, cells := 0, slots := 0, locals := 0 } : Room) s m args below meth c H locs 0 0 Q (F0 m 2 ls [])) e1 ?_ _ _ he1 H locs ls hP hD hS (lv_sub hl [1, 0] rfl)
  intro s1 r1 hf ih1 hq1 H locs ls hP hD hS hl
  unfold sX7_plain_2 at hf
  refine lv_iload_n hx hb dX7_plain_2 rfl (lv_at hl 1 rfl) ?_
  refine lv_bipush (v := 55) hx hb dX7_plain_3 (by decide) ?_
  refine lv_icmp_ge (tgt := 21) hx hb dX7_plain_5 (by decide) (fun c4 => ?_) (fun c4 => ?_)
  · replace hf := ite_t c4 hf
    exact hx1_0 _ (hq1 _ (Option.some.inj hf).symm) H locs ls hP hD hS (lv_sub hl [0] rfl)
  · replace hf := ite_f c4 hf
    refine lv_aload_n hx hb dX7_plain_8 rfl (lv_at hl 0 rfl) ?_
    refine k_get X hP 0 rfl rfl inX7 6 (by decide) fl_RX7_13 rfl rfl dX7_plain_9 ?_
    refine lv_iload_n hx hb dX7_plain_12 rfl (lv_at hl 1 rfl) ?_
    refine lv_iconst (v := 0) hx hb dX7_plain_13 (by decide) ?_
    obtain ⟨h5, hf⟩ := ck_t hf
    refine k_iast X hP hD hS [(qg, .inr (7, [.ref qg_text, .int g_size, .int g_at, .int g_begin, .int g_token, .int g_told, .ref qg_read, .ref qg_life, .int g_dones, .ref qg_done, .int g_undos, .ref qg_undone, .ref qg_selves, .ref qg_when, .ref qg_jury, .int g_seens, .ref qg_years, .ref qg_states, .long g_trace, .ref qg_kept])), rI cI qg_text 200 g_text, rI cI qg_read 55 (upd s1.2 s1.1.toNatClampNeg 0), rI cI qg_life 55 g_life, rI cI qg_done 16 g_done, rI cI qg_undone 130 g_undone, rI cI qg_selves 16 g_selves, rI cI qg_when 27 g_when, rI cI qg_jury 16 g_jury, rI cI qg_years 6 g_years, rI cI qg_states 6 g_states, rI cI qg_kept 290 g_kept] 2 0 rfl rfl h5 rfl dX7_plain_14 (fun H locs hP hD hS => ?_)
    refine lv_iinc (v := s1.1 + 1) (lv' := [(1, .int (s1.1 + 1)), (0, .ref qg)]) hx hb dX7_plain_15 hl (k := 1) rfl rfl (by decide) rfl (fun ls hl => ?_)
    refine lv_goto (tgt := 2) hx hb dX7_plain_18 (by decide) ?_
    exact ih1 _ (Option.some.inj hf).symm H locs ls hP hD hS (lv_sub hl [1, 0] rfl)

def fX7_once (a1 : Int32) (a2 : Int32) (a3 : Int32) (a4 : Int32) (g_size : Int32) (g_at : Int32) (g_begin : Int32) (g_token : Int32) (g_told : Int32) (g_text : Nat → Int32) (g_read : Nat → Int32) : Option (Bool × Int32 × Int32 × Int32 × Int32 × (Nat → Int32)) :=
  if inb 6 55 = true then if ((g_read (6 : Int32).toNatClampNeg) &&& a1) = 0 then (fX7_number a3 a4 g_size g_at g_told g_text).bind (fun r3 => if (bI r3.1) = 0 then some (false, r3.2.1, r3.2.2.1, r3.2.2.2.1, r3.2.2.2.2, g_read) else if inb 6 55 = true then if inb 6 55 = true then if inb a2 55 = true then (fX7_ends g_size r3.2.1 r3.2.2.2.2 g_text).bind (fun r8 => some (r8.1, r8.2.1, r8.2.2.1, r8.2.2.2.1, r8.2.2.2.2, upd (upd g_read (6 : Int32).toNatClampNeg ((g_read (6 : Int32).toNatClampNeg) ||| a1)) a2.toNatClampNeg r3.2.2.2.2)) else none else none else none) else some (false, g_at, g_begin, g_token, g_told, g_read) else none
set_option maxHeartbeats 4000000 in
set_option maxRecDepth 100000 in
theorem ctX7_once (l : Launch) (D : va_G) (cI cZ cD cH : ClassId) (qg : Nat) (qg_text : Nat) (qg_read : Nat) (qg_life : Nat) (qg_done : Nat) (qg_undone : Nat) (qg_selves : Nat) (qg_when : Nat) (qg_jury : Nat) (qg_years : Nat) (qg_states : Nat) (qg_kept : Nat) (a1 : Int32) (a2 : Int32) (a3 : Int32) (a4 : Int32) (g_size : Int32) (g_at : Int32) (g_begin : Int32) (g_token : Int32) (g_told : Int32) (g_dones : Int32) (g_undos : Int32) (g_seens : Int32) (g_trace : Int64) (g_text : Nat → Int32) (g_read : Nat → Int32) (g_life : Nat → Int32) (g_done : Nat → Int32) (g_undone : Nat → Int32) (g_selves : Nat → Int32) (g_when : Nat → Int32) (g_jury : Nat → Int32) (g_years : Nat → Int32) (g_states : Nat → Int32) (g_kept : Nat → Int32) (o : Bool × Int32 × Int32 × Int32 × Int32 × (Nat → Int32)) (hf : fX7_once a1 a2 a3 a4 g_size g_at g_begin g_token g_told g_text g_read = some o) : Ct l yX7_once cX7_once 5 (some .boolean) { frames := 5, cells := 0, slots := 0, locals := 108 } D (Tys cI cZ cD cH) [.ref qg, .int a1, .int a2, .int a3, .int a4] [(qg, .inr (7, [.ref qg_text, .int g_size, .int g_at, .int g_begin, .int g_token, .int g_told, .ref qg_read, .ref qg_life, .int g_dones, .ref qg_done, .int g_undos, .ref qg_undone, .ref qg_selves, .ref qg_when, .ref qg_jury, .int g_seens, .ref qg_years, .ref qg_states, .long g_trace, .ref qg_kept])), rI cI qg_text 200 g_text, rI cI qg_read 55 g_read, rI cI qg_life 55 g_life, rI cI qg_done 16 g_done, rI cI qg_undone 130 g_undone, rI cI qg_selves 16 g_selves, rI cI qg_when 27 g_when, rI cI qg_jury 16 g_jury, rI cI qg_years 6 g_years, rI cI qg_states 6 g_states, rI cI qg_kept 290 g_kept] [(qg, .inr (7, [.ref qg_text, .int g_size, .int o.2.1, .int o.2.2.1, .int o.2.2.2.1, .int o.2.2.2.2.1, .ref qg_read, .ref qg_life, .int g_dones, .ref qg_done, .int g_undos, .ref qg_undone, .ref qg_selves, .ref qg_when, .ref qg_jury, .int g_seens, .ref qg_years, .ref qg_states, .long g_trace, .ref qg_kept])), rI cI qg_text 200 g_text, rI cI qg_read 55 o.2.2.2.2.2, rI cI qg_life 55 g_life, rI cI qg_done 16 g_done, rI cI qg_undone 130 g_undone, rI cI qg_selves 16 g_selves, rI cI qg_when 27 g_when, rI cI qg_jury 16 g_jury, rI cI qg_years 6 g_years, rI cI qg_states 6 g_states, rI cI qg_kept 290 g_kept] (some (.int (bI o.1))) 0 0 := by
  refine mkZ (by decide) (Nat.le_of_ble_eq_true rfl) ?_
  intro p e s m args below meth c A Q X hret ls hl H locs hP hD hS
  replace X : Cx p s m args c D (Tys cI cZ cD cH) A cX7_once RX7 5 := X
  obtain ⟨hx, hb, hml, hown, hts, hK, hZ, hA⟩ := id X
  have hl : lv_has ls 5 [(0, .ref qg), (1, .int a1), (2, .int a2), (3, .int a3), (4, .int a4)] := hl
  unfold fX7_once at hf
  refine lv_aload_n hx hb dX7_once_0 rfl (lv_at hl 0 rfl) ?_
  refine k_get X hP 0 rfl rfl inX7 6 (by decide) fl_RX7_13 rfl rfl dX7_once_1 ?_
  refine lv_bipush (v := 6) hx hb dX7_once_4 (by decide) ?_
  obtain ⟨h1, hf⟩ := ck_t hf
  refine k_iald X hP 2 0 rfl rfl h1 dX7_once_6 ?_
  refine lv_iload_n hx hb dX7_once_7 rfl (lv_at hl 1 rfl) ?_
  refine lv_iand hx hb dX7_once_8 ?_
  refine lv_if_ne (tgt := 22) hx hb dX7_once_9 (by decide) (fun c2 => ?_) (fun c2 => ?_)
  · replace hf := ite_f c2 hf
    refine lv_iconst (v := 0) hx hb dX7_once_22 (by decide) ?_
    replace hf := Option.some.inj hf
    subst hf
    exact hret H locs _ ls dX7_once_23 hP hD hS
  · replace hf := ite_t c2 hf
    refine lv_aload_n hx hb dX7_once_12 rfl (lv_at hl 0 rfl) ?_
    refine lv_iload_n hx hb dX7_once_13 rfl (lv_at hl 3 rfl) ?_
    refine lv_iload hx hb dX7_once_14 (lv_at hl 4 rfl) ?_
    obtain ⟨r3, hr3, hf⟩ := bnd hf
    refine k_callV X hP hD hS [(qg, .inr (7, [.ref qg_text, .int g_size, .int r3.2.1, .int r3.2.2.1, .int r3.2.2.2.1, .int r3.2.2.2.2, .ref qg_read, .ref qg_life, .int g_dones, .ref qg_done, .int g_undos, .ref qg_undone, .ref qg_selves, .ref qg_when, .ref qg_jury, .int g_seens, .ref qg_years, .ref qg_states, .long g_trace, .ref qg_kept])), rI cI qg_text 200 g_text, rI cI qg_read 55 g_read, rI cI qg_life 55 g_life, rI cI qg_done 16 g_done, rI cI qg_undone 130 g_undone, rI cI qg_selves 16 g_selves, rI cI qg_when 27 g_when, rI cI qg_jury 16 g_jury, rI cI qg_years 6 g_years, rI cI qg_states 6 g_states, rI cI qg_kept 290 g_kept] (ctX7_number l D cI cZ cD cH qg qg_text qg_read qg_life qg_done qg_undone qg_selves qg_when qg_jury qg_years qg_states qg_kept a3 a4 g_size g_at g_begin g_token g_told g_dones g_undos g_seens g_trace g_text g_read g_life g_done g_undone g_selves g_when g_jury g_years g_states g_kept r3 hr3) ml_RX7_95 im_yX7_number se_yX7_number in_RX7 cd_yX7_number rfl rfl hd_yX7_number ⟨by decide, by decide⟩ ⟨Nat.zero_le _, Nat.zero_le _⟩ [0, 1, 2, 3, 4, 5, 6, 7, 8, 9, 10, 11] [some 0, some 1, some 2, some 3, some 4, some 5, some 6, some 7, some 8, some 9, some 10, some 11] rfl (by decide +kernel) rfl (by decide +kernel) rfl rfl (q0 := 0) rfl rfl rfl hl.1 rfl rfl (Nat.le_of_ble_eq_true rfl) rfl dX7_once_16 (fun H locs hP hD hS => ?_)
    refine lv_if_ne (tgt := 24) hx hb dX7_once_19 (by decide) (fun c4 => ?_) (fun c4 => ?_)
    · replace hf := ite_f c4 hf
      refine lv_aload_n hx hb dX7_once_24 rfl (lv_at hl 0 rfl) ?_
      refine k_get X hP 0 rfl rfl inX7 6 (by decide) fl_RX7_13 rfl rfl dX7_once_25 ?_
      refine lv_bipush (v := 6) hx hb dX7_once_28 (by decide) ?_
      refine lv_dup2_11 hx hb dX7_once_30 rfl rfl ?_
      obtain ⟨h5, hf⟩ := ck_t hf
      refine k_iald X hP 2 0 rfl rfl h5 dX7_once_31 ?_
      refine lv_iload_n hx hb dX7_once_32 rfl (lv_at hl 1 rfl) ?_
      refine lv_ior hx hb dX7_once_33 ?_
      obtain ⟨h6, hf⟩ := ck_t hf
      refine k_iast X hP hD hS [(qg, .inr (7, [.ref qg_text, .int g_size, .int r3.2.1, .int r3.2.2.1, .int r3.2.2.2.1, .int r3.2.2.2.2, .ref qg_read, .ref qg_life, .int g_dones, .ref qg_done, .int g_undos, .ref qg_undone, .ref qg_selves, .ref qg_when, .ref qg_jury, .int g_seens, .ref qg_years, .ref qg_states, .long g_trace, .ref qg_kept])), rI cI qg_text 200 g_text, rI cI qg_read 55 (upd g_read (6 : Int32).toNatClampNeg ((g_read (6 : Int32).toNatClampNeg) ||| a1)), rI cI qg_life 55 g_life, rI cI qg_done 16 g_done, rI cI qg_undone 130 g_undone, rI cI qg_selves 16 g_selves, rI cI qg_when 27 g_when, rI cI qg_jury 16 g_jury, rI cI qg_years 6 g_years, rI cI qg_states 6 g_states, rI cI qg_kept 290 g_kept] 2 0 rfl rfl h6 rfl dX7_once_34 (fun H locs hP hD hS => ?_)
      refine lv_aload_n hx hb dX7_once_35 rfl (lv_at hl 0 rfl) ?_
      refine k_get X hP 0 rfl rfl inX7 6 (by decide) fl_RX7_13 rfl rfl dX7_once_36 ?_
      refine lv_iload_n hx hb dX7_once_39 rfl (lv_at hl 2 rfl) ?_
      refine lv_aload_n hx hb dX7_once_40 rfl (lv_at hl 0 rfl) ?_
      refine k_get X hP 0 rfl rfl inX7 5 (by decide) fl_RX7_70 rfl rfl dX7_once_41 ?_
      obtain ⟨h7, hf⟩ := ck_t hf
      refine k_iast X hP hD hS [(qg, .inr (7, [.ref qg_text, .int g_size, .int r3.2.1, .int r3.2.2.1, .int r3.2.2.2.1, .int r3.2.2.2.2, .ref qg_read, .ref qg_life, .int g_dones, .ref qg_done, .int g_undos, .ref qg_undone, .ref qg_selves, .ref qg_when, .ref qg_jury, .int g_seens, .ref qg_years, .ref qg_states, .long g_trace, .ref qg_kept])), rI cI qg_text 200 g_text, rI cI qg_read 55 (upd (upd g_read (6 : Int32).toNatClampNeg ((g_read (6 : Int32).toNatClampNeg) ||| a1)) a2.toNatClampNeg r3.2.2.2.2), rI cI qg_life 55 g_life, rI cI qg_done 16 g_done, rI cI qg_undone 130 g_undone, rI cI qg_selves 16 g_selves, rI cI qg_when 27 g_when, rI cI qg_jury 16 g_jury, rI cI qg_years 6 g_years, rI cI qg_states 6 g_states, rI cI qg_kept 290 g_kept] 2 0 rfl rfl h7 rfl dX7_once_44 (fun H locs hP hD hS => ?_)
      refine lv_aload_n hx hb dX7_once_45 rfl (lv_at hl 0 rfl) ?_
      obtain ⟨r8, hr8, hf⟩ := bnd hf
      refine k_callV X hP hD hS [(qg, .inr (7, [.ref qg_text, .int g_size, .int r8.2.1, .int r8.2.2.1, .int r8.2.2.2.1, .int r8.2.2.2.2, .ref qg_read, .ref qg_life, .int g_dones, .ref qg_done, .int g_undos, .ref qg_undone, .ref qg_selves, .ref qg_when, .ref qg_jury, .int g_seens, .ref qg_years, .ref qg_states, .long g_trace, .ref qg_kept])), rI cI qg_text 200 g_text, rI cI qg_read 55 (upd (upd g_read (6 : Int32).toNatClampNeg ((g_read (6 : Int32).toNatClampNeg) ||| a1)) a2.toNatClampNeg r3.2.2.2.2), rI cI qg_life 55 g_life, rI cI qg_done 16 g_done, rI cI qg_undone 130 g_undone, rI cI qg_selves 16 g_selves, rI cI qg_when 27 g_when, rI cI qg_jury 16 g_jury, rI cI qg_years 6 g_years, rI cI qg_states 6 g_states, rI cI qg_kept 290 g_kept] (ctX7_ends l D cI cZ cD cH qg qg_text qg_read qg_life qg_done qg_undone qg_selves qg_when qg_jury qg_years qg_states qg_kept g_size r3.2.1 r3.2.2.1 r3.2.2.2.1 r3.2.2.2.2 g_dones g_undos g_seens g_trace g_text (upd (upd g_read (6 : Int32).toNatClampNeg ((g_read (6 : Int32).toNatClampNeg) ||| a1)) a2.toNatClampNeg r3.2.2.2.2) g_life g_done g_undone g_selves g_when g_jury g_years g_states g_kept r8 hr8) ml_RX7_99 im_yX7_ends se_yX7_ends in_RX7 cd_yX7_ends rfl rfl hd_yX7_ends ⟨by decide, by decide⟩ ⟨Nat.zero_le _, Nat.zero_le _⟩ [0, 1, 2, 3, 4, 5, 6, 7, 8, 9, 10, 11] [some 0, some 1, some 2, some 3, some 4, some 5, some 6, some 7, some 8, some 9, some 10, some 11] rfl (by decide +kernel) rfl (by decide +kernel) rfl rfl (q0 := 0) rfl rfl rfl hl.1 rfl rfl (Nat.le_of_ble_eq_true rfl) rfl dX7_once_46 (fun H locs hP hD hS => ?_)
      replace hf := Option.some.inj hf
      subst hf
      exact hret H locs _ ls dX7_once_49 hP hD hS
    · replace hf := ite_t c4 hf
      refine lv_iconst (v := 0) hx hb dX7_once_22 (by decide) ?_
      replace hf := Option.some.inj hf
      subst hf
      exact hret H locs _ ls dX7_once_23 hP hD hS

def sX7_readState_27 (v1 : Int32) (g_size : Int32) (g_text : Nat → Int32) (v2 : Int32) (g_at : Int32) (g_begin : Int32) (g_token : Int32) (g_told : Int32) (g_read : Nat → Int32) : Option ((Int32 × Int32 × Int32 × Int32 × Int32 × (Nat → Int32)) ⊕ ((Int32 × Int32 × Int32 × Int32 × (Nat → Int32)) ⊕ (Int32 × Int32 × Int32 × Int32 × (Nat → Int32)))) :=
  if 5 ≤ v2 then some (.inr (Sum.inr (g_at, g_begin, g_token, g_told, g_read))) else jn (fun (x6 : Int32) => (fX7_number 0 x6 g_size g_at g_told g_text).bind (fun r7 => if (bI r7.1) = 0 then some (.inr (Sum.inl (r7.2.1, r7.2.2.1, r7.2.2.2.1, r7.2.2.2.2, g_read))) else if inb (v1 + v2) 55 = true then some (.inl (v2 + 1, r7.2.1, r7.2.2.1, r7.2.2.2.1, r7.2.2.2.2, upd g_read (v1 + v2).toNatClampNeg r7.2.2.2.2)) else none)) (fun K6 => if v2 = 0 then K6 18 else if v2 = 1 then K6 1 else K6 5)
def fX7_readState (g_size : Int32) (g_at : Int32) (g_begin : Int32) (g_token : Int32) (g_told : Int32) (g_text : Nat → Int32) (g_read : Nat → Int32) : Option (Bool × Int32 × Int32 × Int32 × Int32 × (Nat → Int32)) :=
  if inb 1 55 = true then if (g_read (1 : Int32).toNatClampNeg) = 6 then some (false, g_at, g_begin, g_token, g_told, g_read) else if inb 1 55 = true then (lpd (fun s4 => sX7_readState_27 (8 + (5 * (g_read (1 : Int32).toNatClampNeg))) g_size g_text s4.1 s4.2.1 s4.2.2.1 s4.2.2.2.1 s4.2.2.2.2.1 s4.2.2.2.2.2) FU (0, g_at, g_begin, g_token, g_told, g_read)).bind (Sum.elim (fun (y4_0 : Int32 × Int32 × Int32 × Int32 × (Nat → Int32)) => some (false, y4_0.1, y4_0.2.1, y4_0.2.2.1, y4_0.2.2.2.1, y4_0.2.2.2.2)) (fun (y4_1 : Int32 × Int32 × Int32 × Int32 × (Nat → Int32)) => if inb 1 55 = true then if inb 1 55 = true then (fX7_ends g_size y4_1.1 y4_1.2.2.2.1 g_text).bind (fun r7 => some (r7.1, r7.2.1, r7.2.2.1, r7.2.2.2.1, r7.2.2.2.2, upd y4_1.2.2.2.2 (1 : Int32).toNatClampNeg ((y4_1.2.2.2.2 (1 : Int32).toNatClampNeg) + 1))) else none else none)) else none else none
set_option maxHeartbeats 4000000 in
set_option maxRecDepth 100000 in
theorem ctX7_readState (l : Launch) (D : va_G) (cI cZ cD cH : ClassId) (qg : Nat) (qg_text : Nat) (qg_read : Nat) (qg_life : Nat) (qg_done : Nat) (qg_undone : Nat) (qg_selves : Nat) (qg_when : Nat) (qg_jury : Nat) (qg_years : Nat) (qg_states : Nat) (qg_kept : Nat) (g_size : Int32) (g_at : Int32) (g_begin : Int32) (g_token : Int32) (g_told : Int32) (g_dones : Int32) (g_undos : Int32) (g_seens : Int32) (g_trace : Int64) (g_text : Nat → Int32) (g_read : Nat → Int32) (g_life : Nat → Int32) (g_done : Nat → Int32) (g_undone : Nat → Int32) (g_selves : Nat → Int32) (g_when : Nat → Int32) (g_jury : Nat → Int32) (g_years : Nat → Int32) (g_states : Nat → Int32) (g_kept : Nat → Int32) (o : Bool × Int32 × Int32 × Int32 × Int32 × (Nat → Int32)) (hf : fX7_readState g_size g_at g_begin g_token g_told g_text g_read = some o) : Ct l yX7_readState cX7_readState 3 (some .boolean) { frames := 5, cells := 0, slots := 0, locals := 108 } D (Tys cI cZ cD cH) [.ref qg] [(qg, .inr (7, [.ref qg_text, .int g_size, .int g_at, .int g_begin, .int g_token, .int g_told, .ref qg_read, .ref qg_life, .int g_dones, .ref qg_done, .int g_undos, .ref qg_undone, .ref qg_selves, .ref qg_when, .ref qg_jury, .int g_seens, .ref qg_years, .ref qg_states, .long g_trace, .ref qg_kept])), rI cI qg_text 200 g_text, rI cI qg_read 55 g_read, rI cI qg_life 55 g_life, rI cI qg_done 16 g_done, rI cI qg_undone 130 g_undone, rI cI qg_selves 16 g_selves, rI cI qg_when 27 g_when, rI cI qg_jury 16 g_jury, rI cI qg_years 6 g_years, rI cI qg_states 6 g_states, rI cI qg_kept 290 g_kept] [(qg, .inr (7, [.ref qg_text, .int g_size, .int o.2.1, .int o.2.2.1, .int o.2.2.2.1, .int o.2.2.2.2.1, .ref qg_read, .ref qg_life, .int g_dones, .ref qg_done, .int g_undos, .ref qg_undone, .ref qg_selves, .ref qg_when, .ref qg_jury, .int g_seens, .ref qg_years, .ref qg_states, .long g_trace, .ref qg_kept])), rI cI qg_text 200 g_text, rI cI qg_read 55 o.2.2.2.2.2, rI cI qg_life 55 g_life, rI cI qg_done 16 g_done, rI cI qg_undone 130 g_undone, rI cI qg_selves 16 g_selves, rI cI qg_when 27 g_when, rI cI qg_jury 16 g_jury, rI cI qg_years 6 g_years, rI cI qg_states 6 g_states, rI cI qg_kept 290 g_kept] (some (.int (bI o.1))) 0 0 := by
  refine mkZ (by decide) (Nat.le_of_ble_eq_true rfl) ?_
  intro p e s m args below meth c A Q X hret ls hl H locs hP hD hS
  replace X : Cx p s m args c D (Tys cI cZ cD cH) A cX7_readState RX7 3 := X
  obtain ⟨hx, hb, hml, hown, hts, hK, hZ, hA⟩ := id X
  have hl : lv_has ls 3 [(0, .ref qg)] := hl
  unfold fX7_readState at hf
  refine lv_aload_n hx hb dX7_readState_0 rfl (lv_at hl 0 rfl) ?_
  refine k_get X hP 0 rfl rfl inX7 6 (by decide) fl_RX7_13 rfl rfl dX7_readState_1 ?_
  refine lv_iconst (v := 1) hx hb dX7_readState_4 (by decide) ?_
  obtain ⟨h1, hf⟩ := ck_t hf
  refine k_iald X hP 2 0 rfl rfl h1 dX7_readState_5 ?_
  refine lv_bipush (v := 6) hx hb dX7_readState_6 (by decide) ?_
  refine lv_icmp_ne (tgt := 13) hx hb dX7_readState_8 (by decide) (fun c2 => ?_) (fun c2 => ?_)
  · replace hf := ite_f c2 hf
    refine lv_bipush (v := 8) hx hb dX7_readState_13 (by decide) ?_
    refine lv_iconst (v := 5) hx hb dX7_readState_15 (by decide) ?_
    refine lv_aload_n hx hb dX7_readState_16 rfl (lv_at hl 0 rfl) ?_
    refine k_get X hP 0 rfl rfl inX7 6 (by decide) fl_RX7_13 rfl rfl dX7_readState_17 ?_
    refine lv_iconst (v := 1) hx hb dX7_readState_20 (by decide) ?_
    obtain ⟨h3, hf⟩ := ck_t hf
    refine k_iald X hP 2 0 rfl rfl h3 dX7_readState_21 ?_
    refine lv_imul hx hb dX7_readState_22 ?_
    refine lv_iadd hx hb dX7_readState_23 ?_
    refine lv_istore_n (lv' := [(1, .int (8 + (5 * (g_read (1 : Int32).toNatClampNeg)))), (0, .ref qg)]) hx hb dX7_readState_24 rfl hl (by decide) rfl (fun ls hl => ?_)
    refine lv_iconst (v := 0) hx hb dX7_readState_25 (by decide) ?_
    refine lv_istore_n (lv' := [(2, .int 0), (1, .int (8 + (5 * (g_read (1 : Int32).toNatClampNeg)))), (0, .ref qg)]) hx hb dX7_readState_26 rfl hl (by decide) rfl (fun ls hl => ?_)
    obtain ⟨e4, he4, hf⟩ := bnd hf
    have hx4_0 : ∀ (y4_0 : Int32 × Int32 × Int32 × Int32 × (Nat → Int32)), (Sum.inl y4_0) = e4 → ∀ (H : Heap) (locs : List Loc) (ls : Array Slot), va_P D vwCl [(qg, .inr (7, [.ref qg_text, .int g_size, .int y4_0.1, .int y4_0.2.1, .int y4_0.2.2.1, .int y4_0.2.2.2.1, .ref qg_read, .ref qg_life, .int g_dones, .ref qg_done, .int g_undos, .ref qg_undone, .ref qg_selves, .ref qg_when, .ref qg_jury, .int g_seens, .ref qg_years, .ref qg_states, .long g_trace, .ref qg_kept])), rI cI qg_text 200 g_text, rI cI qg_read 55 y4_0.2.2.2.2, rI cI qg_life 55 g_life, rI cI qg_done 16 g_done, rI cI qg_undone 130 g_undone, rI cI qg_selves 16 g_selves, rI cI qg_when 27 g_when, rI cI qg_jury 16 g_jury, rI cI qg_years 6 g_years, rI cI qg_states 6 g_states, rI cI qg_kept 290 g_kept] H → va_D A [(qg, .inr (7, [.ref qg_text, .int g_size, .int y4_0.1, .int y4_0.2.1, .int y4_0.2.2.1, .int y4_0.2.2.2.1, .ref qg_read, .ref qg_life, .int g_dones, .ref qg_done, .int g_undos, .ref qg_undone, .ref qg_selves, .ref qg_when, .ref qg_jury, .int g_seens, .ref qg_years, .ref qg_states, .long g_trace, .ref qg_kept])), rI cI qg_text 200 g_text, rI cI qg_read 55 y4_0.2.2.2.2, rI cI qg_life 55 g_life, rI cI qg_done 16 g_done, rI cI qg_undone 130 g_undone, rI cI qg_selves 16 g_selves, rI cI qg_when 27 g_when, rI cI qg_jury 16 g_jury, rI cI qg_years 6 g_years, rI cI qg_states 6 g_states, rI cI qg_kept 290 g_kept] → va_S A s.heap H locs → lv_has ls 3 [] → W p l e ({ frames := 5, cells := 0, slots := 0, locals := 108 } : Room) s m args below meth c H locs 0 0 Q (F0 m 59 ls []) := by
      intro y4_0 heq H locs ls hP hD hS hl
      subst heq
      replace hf := se_l hf
      refine lv_iconst (v := 0) hx hb dX7_readState_59 (by decide) ?_
      replace hf := Option.some.inj hf
      subst hf
      exact hret H locs _ ls dX7_readState_60 hP hD hS
    have hx4_1 : ∀ (y4_1 : Int32 × Int32 × Int32 × Int32 × (Nat → Int32)), (Sum.inr y4_1) = e4 → ∀ (H : Heap) (locs : List Loc) (ls : Array Slot), va_P D vwCl [(qg, .inr (7, [.ref qg_text, .int g_size, .int y4_1.1, .int y4_1.2.1, .int y4_1.2.2.1, .int y4_1.2.2.2.1, .ref qg_read, .ref qg_life, .int g_dones, .ref qg_done, .int g_undos, .ref qg_undone, .ref qg_selves, .ref qg_when, .ref qg_jury, .int g_seens, .ref qg_years, .ref qg_states, .long g_trace, .ref qg_kept])), rI cI qg_text 200 g_text, rI cI qg_read 55 y4_1.2.2.2.2, rI cI qg_life 55 g_life, rI cI qg_done 16 g_done, rI cI qg_undone 130 g_undone, rI cI qg_selves 16 g_selves, rI cI qg_when 27 g_when, rI cI qg_jury 16 g_jury, rI cI qg_years 6 g_years, rI cI qg_states 6 g_states, rI cI qg_kept 290 g_kept] H → va_D A [(qg, .inr (7, [.ref qg_text, .int g_size, .int y4_1.1, .int y4_1.2.1, .int y4_1.2.2.1, .int y4_1.2.2.2.1, .ref qg_read, .ref qg_life, .int g_dones, .ref qg_done, .int g_undos, .ref qg_undone, .ref qg_selves, .ref qg_when, .ref qg_jury, .int g_seens, .ref qg_years, .ref qg_states, .long g_trace, .ref qg_kept])), rI cI qg_text 200 g_text, rI cI qg_read 55 y4_1.2.2.2.2, rI cI qg_life 55 g_life, rI cI qg_done 16 g_done, rI cI qg_undone 130 g_undone, rI cI qg_selves 16 g_selves, rI cI qg_when 27 g_when, rI cI qg_jury 16 g_jury, rI cI qg_years 6 g_years, rI cI qg_states 6 g_states, rI cI qg_kept 290 g_kept] → va_S A s.heap H locs → lv_has ls 3 [(0, .ref qg)] → W p l e ({ frames := 5, cells := 0, slots := 0, locals := 108 } : Room) s m args below meth c H locs 0 0 Q (F0 m 79 ls []) := by
      intro y4_1 heq H locs ls hP hD hS hl
      subst heq
      replace hf := se_r hf
      refine lv_aload_n hx hb dX7_readState_79 rfl (lv_at hl 0 rfl) ?_
      refine k_get X hP 0 rfl rfl inX7 6 (by decide) fl_RX7_13 rfl rfl dX7_readState_80 ?_
      refine lv_iconst (v := 1) hx hb dX7_readState_83 (by decide) ?_
      refine lv_dup2_11 hx hb dX7_readState_84 rfl rfl ?_
      obtain ⟨h5, hf⟩ := ck_t hf
      refine k_iald X hP 2 0 rfl rfl h5 dX7_readState_85 ?_
      refine lv_iconst (v := 1) hx hb dX7_readState_86 (by decide) ?_
      refine lv_iadd hx hb dX7_readState_87 ?_
      obtain ⟨h6, hf⟩ := ck_t hf
      refine k_iast X hP hD hS [(qg, .inr (7, [.ref qg_text, .int g_size, .int y4_1.1, .int y4_1.2.1, .int y4_1.2.2.1, .int y4_1.2.2.2.1, .ref qg_read, .ref qg_life, .int g_dones, .ref qg_done, .int g_undos, .ref qg_undone, .ref qg_selves, .ref qg_when, .ref qg_jury, .int g_seens, .ref qg_years, .ref qg_states, .long g_trace, .ref qg_kept])), rI cI qg_text 200 g_text, rI cI qg_read 55 (upd y4_1.2.2.2.2 (1 : Int32).toNatClampNeg ((y4_1.2.2.2.2 (1 : Int32).toNatClampNeg) + 1)), rI cI qg_life 55 g_life, rI cI qg_done 16 g_done, rI cI qg_undone 130 g_undone, rI cI qg_selves 16 g_selves, rI cI qg_when 27 g_when, rI cI qg_jury 16 g_jury, rI cI qg_years 6 g_years, rI cI qg_states 6 g_states, rI cI qg_kept 290 g_kept] 2 0 rfl rfl h6 rfl dX7_readState_88 (fun H locs hP hD hS => ?_)
      refine lv_aload_n hx hb dX7_readState_89 rfl (lv_at hl 0 rfl) ?_
      obtain ⟨r7, hr7, hf⟩ := bnd hf
      refine k_callV X hP hD hS [(qg, .inr (7, [.ref qg_text, .int g_size, .int r7.2.1, .int r7.2.2.1, .int r7.2.2.2.1, .int r7.2.2.2.2, .ref qg_read, .ref qg_life, .int g_dones, .ref qg_done, .int g_undos, .ref qg_undone, .ref qg_selves, .ref qg_when, .ref qg_jury, .int g_seens, .ref qg_years, .ref qg_states, .long g_trace, .ref qg_kept])), rI cI qg_text 200 g_text, rI cI qg_read 55 (upd y4_1.2.2.2.2 (1 : Int32).toNatClampNeg ((y4_1.2.2.2.2 (1 : Int32).toNatClampNeg) + 1)), rI cI qg_life 55 g_life, rI cI qg_done 16 g_done, rI cI qg_undone 130 g_undone, rI cI qg_selves 16 g_selves, rI cI qg_when 27 g_when, rI cI qg_jury 16 g_jury, rI cI qg_years 6 g_years, rI cI qg_states 6 g_states, rI cI qg_kept 290 g_kept] (ctX7_ends l D cI cZ cD cH qg qg_text qg_read qg_life qg_done qg_undone qg_selves qg_when qg_jury qg_years qg_states qg_kept g_size y4_1.1 y4_1.2.1 y4_1.2.2.1 y4_1.2.2.2.1 g_dones g_undos g_seens g_trace g_text (upd y4_1.2.2.2.2 (1 : Int32).toNatClampNeg ((y4_1.2.2.2.2 (1 : Int32).toNatClampNeg) + 1)) g_life g_done g_undone g_selves g_when g_jury g_years g_states g_kept r7 hr7) ml_RX7_99 im_yX7_ends se_yX7_ends in_RX7 cd_yX7_ends rfl rfl hd_yX7_ends ⟨by decide, by decide⟩ ⟨Nat.zero_le _, Nat.zero_le _⟩ [0, 1, 2, 3, 4, 5, 6, 7, 8, 9, 10, 11] [some 0, some 1, some 2, some 3, some 4, some 5, some 6, some 7, some 8, some 9, some 10, some 11] rfl (by decide +kernel) rfl (by decide +kernel) rfl rfl (q0 := 0) rfl rfl rfl hl.1 rfl rfl (Nat.le_of_ble_eq_true rfl) rfl dX7_readState_90 (fun H locs hP hD hS => ?_)
      replace hf := Option.some.inj hf
      subst hf
      exact hret H locs _ ls dX7_readState_93 hP hD hS
    refine lpd_ind (P := fun s4 => ∀ (H : Heap) (locs : List Loc) (ls : Array Slot), va_P D vwCl [(qg, .inr (7, [.ref qg_text, .int g_size, .int s4.2.1, .int s4.2.2.1, .int s4.2.2.2.1, .int s4.2.2.2.2.1, .ref qg_read, .ref qg_life, .int g_dones, .ref qg_done, .int g_undos, .ref qg_undone, .ref qg_selves, .ref qg_when, .ref qg_jury, .int g_seens, .ref qg_years, .ref qg_states, .long g_trace, .ref qg_kept])), rI cI qg_text 200 g_text, rI cI qg_read 55 s4.2.2.2.2.2, rI cI qg_life 55 g_life, rI cI qg_done 16 g_done, rI cI qg_undone 130 g_undone, rI cI qg_selves 16 g_selves, rI cI qg_when 27 g_when, rI cI qg_jury 16 g_jury, rI cI qg_years 6 g_years, rI cI qg_states 6 g_states, rI cI qg_kept 290 g_kept] H → va_D A [(qg, .inr (7, [.ref qg_text, .int g_size, .int s4.2.1, .int s4.2.2.1, .int s4.2.2.2.1, .int s4.2.2.2.2.1, .ref qg_read, .ref qg_life, .int g_dones, .ref qg_done, .int g_undos, .ref qg_undone, .ref qg_selves, .ref qg_when, .ref qg_jury, .int g_seens, .ref qg_years, .ref qg_states, .long g_trace, .ref qg_kept])), rI cI qg_text 200 g_text, rI cI qg_read 55 s4.2.2.2.2.2, rI cI qg_life 55 g_life, rI cI qg_done 16 g_done, rI cI qg_undone 130 g_undone, rI cI qg_selves 16 g_selves, rI cI qg_when 27 g_when, rI cI qg_jury 16 g_jury, rI cI qg_years 6 g_years, rI cI qg_states 6 g_states, rI cI qg_kept 290 g_kept] → va_S A s.heap H locs → lv_has ls 3 [(0, .ref qg), (1, .int (8 + (5 * (g_read (1 : Int32).toNatClampNeg)))), (2, .int s4.1)] → W p l e ({ frames := 5, cells := 0, slots := 0, locals := 108 } : Room) s m args below meth c H locs 0 0 Q (F0 m 27 ls [])) e4 ?_ _ _ he4 H locs ls hP hD hS (lv_sub hl [2, 1, 0] rfl)
    intro s4 r4 hf ih4 hq4 H locs ls hP hD hS hl
    unfold sX7_readState_27 at hf
    refine lv_iload_n hx hb dX7_readState_27 rfl (lv_at hl 2 rfl) ?_
    refine lv_iconst (v := 5) hx hb dX7_readState_28 (by decide) ?_
    refine lv_icmp_ge (tgt := 79) hx hb dX7_readState_29 (by decide) (fun c8 => ?_) (fun c8 => ?_)
    · replace hf := ite_t c8 hf
      exact hx4_1 _ (hq4 _ (Option.some.inj hf).symm) H locs ls hP hD hS (lv_sub hl [0] rfl)
    · replace hf := ite_f c8 hf
      refine lv_aload_n hx hb dX7_readState_32 rfl (lv_at hl 0 rfl) ?_
      refine lv_iconst (v := 0) hx hb dX7_readState_33 (by decide) ?_
      refine lv_iload_n hx hb dX7_readState_34 rfl (lv_at hl 2 rfl) ?_
      refine jn_e hf (fun K9 hf hk9 => ?_)
      have hj9 : ∀ (x9 : Int32) (H : Heap) (locs : List Loc) (ls : Array Slot), K9 x9 = some r4 → va_P D vwCl [(qg, .inr (7, [.ref qg_text, .int g_size, .int s4.2.1, .int s4.2.2.1, .int s4.2.2.2.1, .int s4.2.2.2.2.1, .ref qg_read, .ref qg_life, .int g_dones, .ref qg_done, .int g_undos, .ref qg_undone, .ref qg_selves, .ref qg_when, .ref qg_jury, .int g_seens, .ref qg_years, .ref qg_states, .long g_trace, .ref qg_kept])), rI cI qg_text 200 g_text, rI cI qg_read 55 s4.2.2.2.2.2, rI cI qg_life 55 g_life, rI cI qg_done 16 g_done, rI cI qg_undone 130 g_undone, rI cI qg_selves 16 g_selves, rI cI qg_when 27 g_when, rI cI qg_jury 16 g_jury, rI cI qg_years 6 g_years, rI cI qg_states 6 g_states, rI cI qg_kept 290 g_kept] H → va_D A [(qg, .inr (7, [.ref qg_text, .int g_size, .int s4.2.1, .int s4.2.2.1, .int s4.2.2.2.1, .int s4.2.2.2.2.1, .ref qg_read, .ref qg_life, .int g_dones, .ref qg_done, .int g_undos, .ref qg_undone, .ref qg_selves, .ref qg_when, .ref qg_jury, .int g_seens, .ref qg_years, .ref qg_states, .long g_trace, .ref qg_kept])), rI cI qg_text 200 g_text, rI cI qg_read 55 s4.2.2.2.2.2, rI cI qg_life 55 g_life, rI cI qg_done 16 g_done, rI cI qg_undone 130 g_undone, rI cI qg_selves 16 g_selves, rI cI qg_when 27 g_when, rI cI qg_jury 16 g_jury, rI cI qg_years 6 g_years, rI cI qg_states 6 g_states, rI cI qg_kept 290 g_kept] → va_S A s.heap H locs → lv_has ls 3 [(0, .ref qg), (1, .int (8 + (5 * (g_read (1 : Int32).toNatClampNeg)))), (2, .int s4.1)] → W p l e ({ frames := 5, cells := 0, slots := 0, locals := 108 } : Room) s m args below meth c H locs 0 0 Q (F0 m 53 ls [.int x9, .int 0, .ref qg]) := by
        intro x9 H locs ls hf hP hD hS hl
        replace hf := hk9 x9 hf
        obtain ⟨r10, hr10, hf⟩ := bnd hf
        refine k_callV X hP hD hS [(qg, .inr (7, [.ref qg_text, .int g_size, .int r10.2.1, .int r10.2.2.1, .int r10.2.2.2.1, .int r10.2.2.2.2, .ref qg_read, .ref qg_life, .int g_dones, .ref qg_done, .int g_undos, .ref qg_undone, .ref qg_selves, .ref qg_when, .ref qg_jury, .int g_seens, .ref qg_years, .ref qg_states, .long g_trace, .ref qg_kept])), rI cI qg_text 200 g_text, rI cI qg_read 55 s4.2.2.2.2.2, rI cI qg_life 55 g_life, rI cI qg_done 16 g_done, rI cI qg_undone 130 g_undone, rI cI qg_selves 16 g_selves, rI cI qg_when 27 g_when, rI cI qg_jury 16 g_jury, rI cI qg_years 6 g_years, rI cI qg_states 6 g_states, rI cI qg_kept 290 g_kept] (ctX7_number l D cI cZ cD cH qg qg_text qg_read qg_life qg_done qg_undone qg_selves qg_when qg_jury qg_years qg_states qg_kept 0 x9 g_size s4.2.1 s4.2.2.1 s4.2.2.2.1 s4.2.2.2.2.1 g_dones g_undos g_seens g_trace g_text s4.2.2.2.2.2 g_life g_done g_undone g_selves g_when g_jury g_years g_states g_kept r10 hr10) ml_RX7_95 im_yX7_number se_yX7_number in_RX7 cd_yX7_number rfl rfl hd_yX7_number ⟨by decide, by decide⟩ ⟨Nat.zero_le _, Nat.zero_le _⟩ [0, 1, 2, 3, 4, 5, 6, 7, 8, 9, 10, 11] [some 0, some 1, some 2, some 3, some 4, some 5, some 6, some 7, some 8, some 9, some 10, some 11] rfl (by decide +kernel) rfl (by decide +kernel) rfl rfl (q0 := 0) rfl rfl rfl hl.1 rfl rfl (Nat.le_of_ble_eq_true rfl) rfl dX7_readState_53 (fun H locs hP hD hS => ?_)
        refine lv_if_ne (tgt := 61) hx hb dX7_readState_56 (by decide) (fun c11 => ?_) (fun c11 => ?_)
        · replace hf := ite_f c11 hf
          refine lv_aload_n hx hb dX7_readState_61 rfl (lv_at hl 0 rfl) ?_
          refine k_get X hP 0 rfl rfl inX7 6 (by decide) fl_RX7_13 rfl rfl dX7_readState_62 ?_
          refine lv_iload_n hx hb dX7_readState_65 rfl (lv_at hl 1 rfl) ?_
          refine lv_iload_n hx hb dX7_readState_66 rfl (lv_at hl 2 rfl) ?_
          refine lv_iadd hx hb dX7_readState_67 ?_
          refine lv_aload_n hx hb dX7_readState_68 rfl (lv_at hl 0 rfl) ?_
          refine k_get X hP 0 rfl rfl inX7 5 (by decide) fl_RX7_70 rfl rfl dX7_readState_69 ?_
          obtain ⟨h12, hf⟩ := ck_t hf
          refine k_iast X hP hD hS [(qg, .inr (7, [.ref qg_text, .int g_size, .int r10.2.1, .int r10.2.2.1, .int r10.2.2.2.1, .int r10.2.2.2.2, .ref qg_read, .ref qg_life, .int g_dones, .ref qg_done, .int g_undos, .ref qg_undone, .ref qg_selves, .ref qg_when, .ref qg_jury, .int g_seens, .ref qg_years, .ref qg_states, .long g_trace, .ref qg_kept])), rI cI qg_text 200 g_text, rI cI qg_read 55 (upd s4.2.2.2.2.2 ((8 + (5 * (g_read (1 : Int32).toNatClampNeg))) + s4.1).toNatClampNeg r10.2.2.2.2), rI cI qg_life 55 g_life, rI cI qg_done 16 g_done, rI cI qg_undone 130 g_undone, rI cI qg_selves 16 g_selves, rI cI qg_when 27 g_when, rI cI qg_jury 16 g_jury, rI cI qg_years 6 g_years, rI cI qg_states 6 g_states, rI cI qg_kept 290 g_kept] 2 0 rfl rfl h12 rfl dX7_readState_72 (fun H locs hP hD hS => ?_)
          refine lv_iinc (v := s4.1 + 1) (lv' := [(2, .int (s4.1 + 1)), (0, .ref qg), (1, .int (8 + (5 * (g_read (1 : Int32).toNatClampNeg))))]) hx hb dX7_readState_73 hl (k := 2) rfl rfl (by decide) rfl (fun ls hl => ?_)
          refine lv_goto (tgt := 27) hx hb dX7_readState_76 (by decide) ?_
          exact ih4 _ (Option.some.inj hf).symm H locs ls hP hD hS (lv_sub hl [1, 2, 0] rfl)
        · replace hf := ite_t c11 hf
          exact hx4_0 _ (hq4 _ (Option.some.inj hf).symm) H locs ls hP hD hS (lv_sub hl [] rfl)
      refine lv_if_ne (tgt := 43) hx hb dX7_readState_35 (by decide) (fun c13 => ?_) (fun c13 => ?_)
      · replace hf := ite_f c13 hf
        refine lv_iload_n hx hb dX7_readState_43 rfl (lv_at hl 2 rfl) ?_
        refine lv_iconst (v := 1) hx hb dX7_readState_44 (by decide) ?_
        refine lv_icmp_ne (tgt := 52) hx hb dX7_readState_45 (by decide) (fun c14 => ?_) (fun c14 => ?_)
        · replace hf := ite_f c14 hf
          refine lv_iconst (v := 5) hx hb dX7_readState_52 (by decide) ?_
          exact hj9 _ H locs ls hf hP hD hS hl
        · replace hf := ite_t c14 hf
          refine lv_iconst (v := 1) hx hb dX7_readState_48 (by decide) ?_
          refine lv_goto (tgt := 53) hx hb dX7_readState_49 (by decide) ?_
          exact hj9 _ H locs ls hf hP hD hS hl
      · replace hf := ite_t c13 hf
        refine lv_bipush (v := 18) hx hb dX7_readState_38 (by decide) ?_
        refine lv_goto (tgt := 53) hx hb dX7_readState_40 (by decide) ?_
        exact hj9 _ H locs ls hf hP hD hS hl
  · replace hf := ite_t c2 hf
    refine lv_iconst (v := 0) hx hb dX7_readState_11 (by decide) ?_
    replace hf := Option.some.inj hf
    subst hf
    exact hret H locs _ ls dX7_readState_12 hP hD hS

def fX7_readTrial (g_size : Int32) (g_at : Int32) (g_begin : Int32) (g_token : Int32) (g_told : Int32) (g_text : Nat → Int32) (g_read : Nat → Int32) : Option (Bool × Int32 × Int32 × Int32 × Int32 × (Nat → Int32)) :=
  if inb 3 55 = true then if (g_read (3 : Int32).toNatClampNeg) = 3 then some (false, g_at, g_begin, g_token, g_told, g_read) else if inb 3 55 = true then if inb 3 55 = true then jn (fun (x5 : Int32) => if inb 0 55 = true then (fX7_number x5 ((g_read (0 : Int32).toNatClampNeg) - 2) g_size g_at g_told g_text).bind (fun r7 => if (bI r7.1) = 0 then some (false, r7.2.1, r7.2.2.1, r7.2.2.2.1, r7.2.2.2.2, g_read) else if inb (38 + (3 * (g_read (3 : Int32).toNatClampNeg))) 55 = true then if inb (38 + (3 * (g_read (3 : Int32).toNatClampNeg))) 55 = true then if inb 0 55 = true then (fX7_number (((upd g_read (38 + (3 * (g_read (3 : Int32).toNatClampNeg))).toNatClampNeg r7.2.2.2.2) (38 + (3 * (g_read (3 : Int32).toNatClampNeg))).toNatClampNeg) + 1) (((upd g_read (38 + (3 * (g_read (3 : Int32).toNatClampNeg))).toNatClampNeg r7.2.2.2.2) (0 : Int32).toNatClampNeg) - 1) g_size r7.2.1 r7.2.2.2.2 g_text).bind (fun r12 => if (bI r12.1) = 0 then some (false, r12.2.1, r12.2.2.1, r12.2.2.2.1, r12.2.2.2.2, upd g_read (38 + (3 * (g_read (3 : Int32).toNatClampNeg))).toNatClampNeg r7.2.2.2.2) else if inb ((38 + (3 * (g_read (3 : Int32).toNatClampNeg))) + 1) 55 = true then if inb ((38 + (3 * (g_read (3 : Int32).toNatClampNeg))) + 1) 55 = true then if inb 0 55 = true then (fX7_number ((upd (upd g_read (38 + (3 * (g_read (3 : Int32).toNatClampNeg))).toNatClampNeg r7.2.2.2.2) ((38 + (3 * (g_read (3 : Int32).toNatClampNeg))) + 1).toNatClampNeg r12.2.2.2.2) ((38 + (3 * (g_read (3 : Int32).toNatClampNeg))) + 1).toNatClampNeg) (((upd (upd g_read (38 + (3 * (g_read (3 : Int32).toNatClampNeg))).toNatClampNeg r7.2.2.2.2) ((38 + (3 * (g_read (3 : Int32).toNatClampNeg))) + 1).toNatClampNeg r12.2.2.2.2) (0 : Int32).toNatClampNeg) - 1) g_size r12.2.1 r12.2.2.2.2 g_text).bind (fun r17 => if (bI r17.1) = 0 then some (false, r17.2.1, r17.2.2.1, r17.2.2.2.1, r17.2.2.2.2, upd (upd g_read (38 + (3 * (g_read (3 : Int32).toNatClampNeg))).toNatClampNeg r7.2.2.2.2) ((38 + (3 * (g_read (3 : Int32).toNatClampNeg))) + 1).toNatClampNeg r12.2.2.2.2) else if inb ((38 + (3 * (g_read (3 : Int32).toNatClampNeg))) + 2) 55 = true then if inb 3 55 = true then if inb 3 55 = true then (fX7_ends g_size r17.2.1 r17.2.2.2.2 g_text).bind (fun r22 => some (r22.1, r22.2.1, r22.2.2.1, r22.2.2.2.1, r22.2.2.2.2, upd (upd (upd (upd g_read (38 + (3 * (g_read (3 : Int32).toNatClampNeg))).toNatClampNeg r7.2.2.2.2) ((38 + (3 * (g_read (3 : Int32).toNatClampNeg))) + 1).toNatClampNeg r12.2.2.2.2) ((38 + (3 * (g_read (3 : Int32).toNatClampNeg))) + 2).toNatClampNeg r17.2.2.2.2) (3 : Int32).toNatClampNeg (((upd (upd (upd g_read (38 + (3 * (g_read (3 : Int32).toNatClampNeg))).toNatClampNeg r7.2.2.2.2) ((38 + (3 * (g_read (3 : Int32).toNatClampNeg))) + 1).toNatClampNeg r12.2.2.2.2) ((38 + (3 * (g_read (3 : Int32).toNatClampNeg))) + 2).toNatClampNeg r17.2.2.2.2) (3 : Int32).toNatClampNeg) + 1))) else none else none else none) else none else none else none) else none else none else none) else none) (fun K5 => if (g_read (3 : Int32).toNatClampNeg) = 0 then K5 0 else if inb ((38 + (3 * (g_read (3 : Int32).toNatClampNeg))) - 3) 55 = true then K5 ((g_read ((38 + (3 * (g_read (3 : Int32).toNatClampNeg))) - 3).toNatClampNeg) + 1) else none) else none else none else none
set_option maxHeartbeats 4000000 in
set_option maxRecDepth 100000 in
theorem ctX7_readTrial (l : Launch) (D : va_G) (cI cZ cD cH : ClassId) (qg : Nat) (qg_text : Nat) (qg_read : Nat) (qg_life : Nat) (qg_done : Nat) (qg_undone : Nat) (qg_selves : Nat) (qg_when : Nat) (qg_jury : Nat) (qg_years : Nat) (qg_states : Nat) (qg_kept : Nat) (g_size : Int32) (g_at : Int32) (g_begin : Int32) (g_token : Int32) (g_told : Int32) (g_dones : Int32) (g_undos : Int32) (g_seens : Int32) (g_trace : Int64) (g_text : Nat → Int32) (g_read : Nat → Int32) (g_life : Nat → Int32) (g_done : Nat → Int32) (g_undone : Nat → Int32) (g_selves : Nat → Int32) (g_when : Nat → Int32) (g_jury : Nat → Int32) (g_years : Nat → Int32) (g_states : Nat → Int32) (g_kept : Nat → Int32) (o : Bool × Int32 × Int32 × Int32 × Int32 × (Nat → Int32)) (hf : fX7_readTrial g_size g_at g_begin g_token g_told g_text g_read = some o) : Ct l yX7_readTrial cX7_readTrial 2 (some .boolean) { frames := 5, cells := 0, slots := 0, locals := 108 } D (Tys cI cZ cD cH) [.ref qg] [(qg, .inr (7, [.ref qg_text, .int g_size, .int g_at, .int g_begin, .int g_token, .int g_told, .ref qg_read, .ref qg_life, .int g_dones, .ref qg_done, .int g_undos, .ref qg_undone, .ref qg_selves, .ref qg_when, .ref qg_jury, .int g_seens, .ref qg_years, .ref qg_states, .long g_trace, .ref qg_kept])), rI cI qg_text 200 g_text, rI cI qg_read 55 g_read, rI cI qg_life 55 g_life, rI cI qg_done 16 g_done, rI cI qg_undone 130 g_undone, rI cI qg_selves 16 g_selves, rI cI qg_when 27 g_when, rI cI qg_jury 16 g_jury, rI cI qg_years 6 g_years, rI cI qg_states 6 g_states, rI cI qg_kept 290 g_kept] [(qg, .inr (7, [.ref qg_text, .int g_size, .int o.2.1, .int o.2.2.1, .int o.2.2.2.1, .int o.2.2.2.2.1, .ref qg_read, .ref qg_life, .int g_dones, .ref qg_done, .int g_undos, .ref qg_undone, .ref qg_selves, .ref qg_when, .ref qg_jury, .int g_seens, .ref qg_years, .ref qg_states, .long g_trace, .ref qg_kept])), rI cI qg_text 200 g_text, rI cI qg_read 55 o.2.2.2.2.2, rI cI qg_life 55 g_life, rI cI qg_done 16 g_done, rI cI qg_undone 130 g_undone, rI cI qg_selves 16 g_selves, rI cI qg_when 27 g_when, rI cI qg_jury 16 g_jury, rI cI qg_years 6 g_years, rI cI qg_states 6 g_states, rI cI qg_kept 290 g_kept] (some (.int (bI o.1))) 0 0 := by
  refine mkZ (by decide) (Nat.le_of_ble_eq_true rfl) ?_
  intro p e s m args below meth c A Q X hret ls hl H locs hP hD hS
  replace X : Cx p s m args c D (Tys cI cZ cD cH) A cX7_readTrial RX7 2 := X
  obtain ⟨hx, hb, hml, hown, hts, hK, hZ, hA⟩ := id X
  have hl : lv_has ls 2 [(0, .ref qg)] := hl
  unfold fX7_readTrial at hf
  refine lv_aload_n hx hb dX7_readTrial_0 rfl (lv_at hl 0 rfl) ?_
  refine k_get X hP 0 rfl rfl inX7 6 (by decide) fl_RX7_13 rfl rfl dX7_readTrial_1 ?_
  refine lv_iconst (v := 3) hx hb dX7_readTrial_4 (by decide) ?_
  obtain ⟨h1, hf⟩ := ck_t hf
  refine k_iald X hP 2 0 rfl rfl h1 dX7_readTrial_5 ?_
  refine lv_iconst (v := 3) hx hb dX7_readTrial_6 (by decide) ?_
  refine lv_icmp_ne (tgt := 12) hx hb dX7_readTrial_7 (by decide) (fun c2 => ?_) (fun c2 => ?_)
  · replace hf := ite_f c2 hf
    refine lv_bipush (v := 38) hx hb dX7_readTrial_12 (by decide) ?_
    refine lv_iconst (v := 3) hx hb dX7_readTrial_14 (by decide) ?_
    refine lv_aload_n hx hb dX7_readTrial_15 rfl (lv_at hl 0 rfl) ?_
    refine k_get X hP 0 rfl rfl inX7 6 (by decide) fl_RX7_13 rfl rfl dX7_readTrial_16 ?_
    refine lv_iconst (v := 3) hx hb dX7_readTrial_19 (by decide) ?_
    obtain ⟨h3, hf⟩ := ck_t hf
    refine k_iald X hP 2 0 rfl rfl h3 dX7_readTrial_20 ?_
    refine lv_imul hx hb dX7_readTrial_21 ?_
    refine lv_iadd hx hb dX7_readTrial_22 ?_
    refine lv_istore_n (lv' := [(1, .int (38 + (3 * (g_read (3 : Int32).toNatClampNeg)))), (0, .ref qg)]) hx hb dX7_readTrial_23 rfl hl (by decide) rfl (fun ls hl => ?_)
    refine lv_aload_n hx hb dX7_readTrial_24 rfl (lv_at hl 1 rfl) ?_
    refine lv_aload_n hx hb dX7_readTrial_25 rfl (lv_at hl 1 rfl) ?_
    refine k_get X hP 0 rfl rfl inX7 6 (by decide) fl_RX7_13 rfl rfl dX7_readTrial_26 ?_
    refine lv_iconst (v := 3) hx hb dX7_readTrial_29 (by decide) ?_
    obtain ⟨h4, hf⟩ := ck_t hf
    refine k_iald X hP 2 0 rfl rfl h4 dX7_readTrial_30 ?_
    refine jn_e hf (fun K5 hf hk5 => ?_)
    have hj5 : ∀ (x5 : Int32) (H : Heap) (locs : List Loc) (ls : Array Slot), K5 x5 = some o → va_P D vwCl [(qg, .inr (7, [.ref qg_text, .int g_size, .int g_at, .int g_begin, .int g_token, .int g_told, .ref qg_read, .ref qg_life, .int g_dones, .ref qg_done, .int g_undos, .ref qg_undone, .ref qg_selves, .ref qg_when, .ref qg_jury, .int g_seens, .ref qg_years, .ref qg_states, .long g_trace, .ref qg_kept])), rI cI qg_text 200 g_text, rI cI qg_read 55 g_read, rI cI qg_life 55 g_life, rI cI qg_done 16 g_done, rI cI qg_undone 130 g_undone, rI cI qg_selves 16 g_selves, rI cI qg_when 27 g_when, rI cI qg_jury 16 g_jury, rI cI qg_years 6 g_years, rI cI qg_states 6 g_states, rI cI qg_kept 290 g_kept] H → va_D A [(qg, .inr (7, [.ref qg_text, .int g_size, .int g_at, .int g_begin, .int g_token, .int g_told, .ref qg_read, .ref qg_life, .int g_dones, .ref qg_done, .int g_undos, .ref qg_undone, .ref qg_selves, .ref qg_when, .ref qg_jury, .int g_seens, .ref qg_years, .ref qg_states, .long g_trace, .ref qg_kept])), rI cI qg_text 200 g_text, rI cI qg_read 55 g_read, rI cI qg_life 55 g_life, rI cI qg_done 16 g_done, rI cI qg_undone 130 g_undone, rI cI qg_selves 16 g_selves, rI cI qg_when 27 g_when, rI cI qg_jury 16 g_jury, rI cI qg_years 6 g_years, rI cI qg_states 6 g_states, rI cI qg_kept 290 g_kept] → va_S A s.heap H locs → lv_has ls 2 [(0, .ref qg), (1, .int (38 + (3 * (g_read (3 : Int32).toNatClampNeg))))] → W p l e ({ frames := 5, cells := 0, slots := 0, locals := 108 } : Room) s m args below meth c H locs 0 0 Q (F0 m 48 ls [.int x5, .ref qg]) := by
      intro x5 H locs ls hf hP hD hS hl
      replace hf := hk5 x5 hf
      refine lv_aload_n hx hb dX7_readTrial_48 rfl (lv_at hl 0 rfl) ?_
      refine k_get X hP 0 rfl rfl inX7 6 (by decide) fl_RX7_13 rfl rfl dX7_readTrial_49 ?_
      refine lv_iconst (v := 0) hx hb dX7_readTrial_52 (by decide) ?_
      obtain ⟨h6, hf⟩ := ck_t hf
      refine k_iald X hP 2 0 rfl rfl h6 dX7_readTrial_53 ?_
      refine lv_iconst (v := 2) hx hb dX7_readTrial_54 (by decide) ?_
      refine lv_isub hx hb dX7_readTrial_55 ?_
      obtain ⟨r7, hr7, hf⟩ := bnd hf
      refine k_callV X hP hD hS [(qg, .inr (7, [.ref qg_text, .int g_size, .int r7.2.1, .int r7.2.2.1, .int r7.2.2.2.1, .int r7.2.2.2.2, .ref qg_read, .ref qg_life, .int g_dones, .ref qg_done, .int g_undos, .ref qg_undone, .ref qg_selves, .ref qg_when, .ref qg_jury, .int g_seens, .ref qg_years, .ref qg_states, .long g_trace, .ref qg_kept])), rI cI qg_text 200 g_text, rI cI qg_read 55 g_read, rI cI qg_life 55 g_life, rI cI qg_done 16 g_done, rI cI qg_undone 130 g_undone, rI cI qg_selves 16 g_selves, rI cI qg_when 27 g_when, rI cI qg_jury 16 g_jury, rI cI qg_years 6 g_years, rI cI qg_states 6 g_states, rI cI qg_kept 290 g_kept] (ctX7_number l D cI cZ cD cH qg qg_text qg_read qg_life qg_done qg_undone qg_selves qg_when qg_jury qg_years qg_states qg_kept x5 ((g_read (0 : Int32).toNatClampNeg) - 2) g_size g_at g_begin g_token g_told g_dones g_undos g_seens g_trace g_text g_read g_life g_done g_undone g_selves g_when g_jury g_years g_states g_kept r7 hr7) ml_RX7_95 im_yX7_number se_yX7_number in_RX7 cd_yX7_number rfl rfl hd_yX7_number ⟨by decide, by decide⟩ ⟨Nat.zero_le _, Nat.zero_le _⟩ [0, 1, 2, 3, 4, 5, 6, 7, 8, 9, 10, 11] [some 0, some 1, some 2, some 3, some 4, some 5, some 6, some 7, some 8, some 9, some 10, some 11] rfl (by decide +kernel) rfl (by decide +kernel) rfl rfl (q0 := 0) rfl rfl rfl hl.1 rfl rfl (Nat.le_of_ble_eq_true rfl) rfl dX7_readTrial_56 (fun H locs hP hD hS => ?_)
      refine lv_if_ne (tgt := 64) hx hb dX7_readTrial_59 (by decide) (fun c8 => ?_) (fun c8 => ?_)
      · replace hf := ite_f c8 hf
        refine lv_aload_n hx hb dX7_readTrial_64 rfl (lv_at hl 0 rfl) ?_
        refine k_get X hP 0 rfl rfl inX7 6 (by decide) fl_RX7_13 rfl rfl dX7_readTrial_65 ?_
        refine lv_iload_n hx hb dX7_readTrial_68 rfl (lv_at hl 1 rfl) ?_
        refine lv_aload_n hx hb dX7_readTrial_69 rfl (lv_at hl 0 rfl) ?_
        refine k_get X hP 0 rfl rfl inX7 5 (by decide) fl_RX7_70 rfl rfl dX7_readTrial_70 ?_
        obtain ⟨h9, hf⟩ := ck_t hf
        refine k_iast X hP hD hS [(qg, .inr (7, [.ref qg_text, .int g_size, .int r7.2.1, .int r7.2.2.1, .int r7.2.2.2.1, .int r7.2.2.2.2, .ref qg_read, .ref qg_life, .int g_dones, .ref qg_done, .int g_undos, .ref qg_undone, .ref qg_selves, .ref qg_when, .ref qg_jury, .int g_seens, .ref qg_years, .ref qg_states, .long g_trace, .ref qg_kept])), rI cI qg_text 200 g_text, rI cI qg_read 55 (upd g_read (38 + (3 * (g_read (3 : Int32).toNatClampNeg))).toNatClampNeg r7.2.2.2.2), rI cI qg_life 55 g_life, rI cI qg_done 16 g_done, rI cI qg_undone 130 g_undone, rI cI qg_selves 16 g_selves, rI cI qg_when 27 g_when, rI cI qg_jury 16 g_jury, rI cI qg_years 6 g_years, rI cI qg_states 6 g_states, rI cI qg_kept 290 g_kept] 2 0 rfl rfl h9 rfl dX7_readTrial_73 (fun H locs hP hD hS => ?_)
        refine lv_aload_n hx hb dX7_readTrial_74 rfl (lv_at hl 0 rfl) ?_
        refine lv_aload_n hx hb dX7_readTrial_75 rfl (lv_at hl 0 rfl) ?_
        refine k_get X hP 0 rfl rfl inX7 6 (by decide) fl_RX7_13 rfl rfl dX7_readTrial_76 ?_
        refine lv_iload_n hx hb dX7_readTrial_79 rfl (lv_at hl 1 rfl) ?_
        obtain ⟨h10, hf⟩ := ck_t hf
        refine k_iald X hP 2 0 rfl rfl h10 dX7_readTrial_80 ?_
        refine lv_iconst (v := 1) hx hb dX7_readTrial_81 (by decide) ?_
        refine lv_iadd hx hb dX7_readTrial_82 ?_
        refine lv_aload_n hx hb dX7_readTrial_83 rfl (lv_at hl 0 rfl) ?_
        refine k_get X hP 0 rfl rfl inX7 6 (by decide) fl_RX7_13 rfl rfl dX7_readTrial_84 ?_
        refine lv_iconst (v := 0) hx hb dX7_readTrial_87 (by decide) ?_
        obtain ⟨h11, hf⟩ := ck_t hf
        refine k_iald X hP 2 0 rfl rfl h11 dX7_readTrial_88 ?_
        refine lv_iconst (v := 1) hx hb dX7_readTrial_89 (by decide) ?_
        refine lv_isub hx hb dX7_readTrial_90 ?_
        obtain ⟨r12, hr12, hf⟩ := bnd hf
        refine k_callV X hP hD hS [(qg, .inr (7, [.ref qg_text, .int g_size, .int r12.2.1, .int r12.2.2.1, .int r12.2.2.2.1, .int r12.2.2.2.2, .ref qg_read, .ref qg_life, .int g_dones, .ref qg_done, .int g_undos, .ref qg_undone, .ref qg_selves, .ref qg_when, .ref qg_jury, .int g_seens, .ref qg_years, .ref qg_states, .long g_trace, .ref qg_kept])), rI cI qg_text 200 g_text, rI cI qg_read 55 (upd g_read (38 + (3 * (g_read (3 : Int32).toNatClampNeg))).toNatClampNeg r7.2.2.2.2), rI cI qg_life 55 g_life, rI cI qg_done 16 g_done, rI cI qg_undone 130 g_undone, rI cI qg_selves 16 g_selves, rI cI qg_when 27 g_when, rI cI qg_jury 16 g_jury, rI cI qg_years 6 g_years, rI cI qg_states 6 g_states, rI cI qg_kept 290 g_kept] (ctX7_number l D cI cZ cD cH qg qg_text qg_read qg_life qg_done qg_undone qg_selves qg_when qg_jury qg_years qg_states qg_kept (((upd g_read (38 + (3 * (g_read (3 : Int32).toNatClampNeg))).toNatClampNeg r7.2.2.2.2) (38 + (3 * (g_read (3 : Int32).toNatClampNeg))).toNatClampNeg) + 1) (((upd g_read (38 + (3 * (g_read (3 : Int32).toNatClampNeg))).toNatClampNeg r7.2.2.2.2) (0 : Int32).toNatClampNeg) - 1) g_size r7.2.1 r7.2.2.1 r7.2.2.2.1 r7.2.2.2.2 g_dones g_undos g_seens g_trace g_text (upd g_read (38 + (3 * (g_read (3 : Int32).toNatClampNeg))).toNatClampNeg r7.2.2.2.2) g_life g_done g_undone g_selves g_when g_jury g_years g_states g_kept r12 hr12) ml_RX7_95 im_yX7_number se_yX7_number in_RX7 cd_yX7_number rfl rfl hd_yX7_number ⟨by decide, by decide⟩ ⟨Nat.zero_le _, Nat.zero_le _⟩ [0, 1, 2, 3, 4, 5, 6, 7, 8, 9, 10, 11] [some 0, some 1, some 2, some 3, some 4, some 5, some 6, some 7, some 8, some 9, some 10, some 11] rfl (by decide +kernel) rfl (by decide +kernel) rfl rfl (q0 := 0) rfl rfl rfl hl.1 rfl rfl (Nat.le_of_ble_eq_true rfl) rfl dX7_readTrial_91 (fun H locs hP hD hS => ?_)
        refine lv_if_ne (tgt := 99) hx hb dX7_readTrial_94 (by decide) (fun c13 => ?_) (fun c13 => ?_)
        · replace hf := ite_f c13 hf
          refine lv_aload_n hx hb dX7_readTrial_99 rfl (lv_at hl 0 rfl) ?_
          refine k_get X hP 0 rfl rfl inX7 6 (by decide) fl_RX7_13 rfl rfl dX7_readTrial_100 ?_
          refine lv_iload_n hx hb dX7_readTrial_103 rfl (lv_at hl 1 rfl) ?_
          refine lv_iconst (v := 1) hx hb dX7_readTrial_104 (by decide) ?_
          refine lv_iadd hx hb dX7_readTrial_105 ?_
          refine lv_aload_n hx hb dX7_readTrial_106 rfl (lv_at hl 0 rfl) ?_
          refine k_get X hP 0 rfl rfl inX7 5 (by decide) fl_RX7_70 rfl rfl dX7_readTrial_107 ?_
          obtain ⟨h14, hf⟩ := ck_t hf
          refine k_iast X hP hD hS [(qg, .inr (7, [.ref qg_text, .int g_size, .int r12.2.1, .int r12.2.2.1, .int r12.2.2.2.1, .int r12.2.2.2.2, .ref qg_read, .ref qg_life, .int g_dones, .ref qg_done, .int g_undos, .ref qg_undone, .ref qg_selves, .ref qg_when, .ref qg_jury, .int g_seens, .ref qg_years, .ref qg_states, .long g_trace, .ref qg_kept])), rI cI qg_text 200 g_text, rI cI qg_read 55 (upd (upd g_read (38 + (3 * (g_read (3 : Int32).toNatClampNeg))).toNatClampNeg r7.2.2.2.2) ((38 + (3 * (g_read (3 : Int32).toNatClampNeg))) + 1).toNatClampNeg r12.2.2.2.2), rI cI qg_life 55 g_life, rI cI qg_done 16 g_done, rI cI qg_undone 130 g_undone, rI cI qg_selves 16 g_selves, rI cI qg_when 27 g_when, rI cI qg_jury 16 g_jury, rI cI qg_years 6 g_years, rI cI qg_states 6 g_states, rI cI qg_kept 290 g_kept] 2 0 rfl rfl h14 rfl dX7_readTrial_110 (fun H locs hP hD hS => ?_)
          refine lv_aload_n hx hb dX7_readTrial_111 rfl (lv_at hl 0 rfl) ?_
          refine lv_aload_n hx hb dX7_readTrial_112 rfl (lv_at hl 0 rfl) ?_
          refine k_get X hP 0 rfl rfl inX7 6 (by decide) fl_RX7_13 rfl rfl dX7_readTrial_113 ?_
          refine lv_iload_n hx hb dX7_readTrial_116 rfl (lv_at hl 1 rfl) ?_
          refine lv_iconst (v := 1) hx hb dX7_readTrial_117 (by decide) ?_
          refine lv_iadd hx hb dX7_readTrial_118 ?_
          obtain ⟨h15, hf⟩ := ck_t hf
          refine k_iald X hP 2 0 rfl rfl h15 dX7_readTrial_119 ?_
          refine lv_aload_n hx hb dX7_readTrial_120 rfl (lv_at hl 0 rfl) ?_
          refine k_get X hP 0 rfl rfl inX7 6 (by decide) fl_RX7_13 rfl rfl dX7_readTrial_121 ?_
          refine lv_iconst (v := 0) hx hb dX7_readTrial_124 (by decide) ?_
          obtain ⟨h16, hf⟩ := ck_t hf
          refine k_iald X hP 2 0 rfl rfl h16 dX7_readTrial_125 ?_
          refine lv_iconst (v := 1) hx hb dX7_readTrial_126 (by decide) ?_
          refine lv_isub hx hb dX7_readTrial_127 ?_
          obtain ⟨r17, hr17, hf⟩ := bnd hf
          refine k_callV X hP hD hS [(qg, .inr (7, [.ref qg_text, .int g_size, .int r17.2.1, .int r17.2.2.1, .int r17.2.2.2.1, .int r17.2.2.2.2, .ref qg_read, .ref qg_life, .int g_dones, .ref qg_done, .int g_undos, .ref qg_undone, .ref qg_selves, .ref qg_when, .ref qg_jury, .int g_seens, .ref qg_years, .ref qg_states, .long g_trace, .ref qg_kept])), rI cI qg_text 200 g_text, rI cI qg_read 55 (upd (upd g_read (38 + (3 * (g_read (3 : Int32).toNatClampNeg))).toNatClampNeg r7.2.2.2.2) ((38 + (3 * (g_read (3 : Int32).toNatClampNeg))) + 1).toNatClampNeg r12.2.2.2.2), rI cI qg_life 55 g_life, rI cI qg_done 16 g_done, rI cI qg_undone 130 g_undone, rI cI qg_selves 16 g_selves, rI cI qg_when 27 g_when, rI cI qg_jury 16 g_jury, rI cI qg_years 6 g_years, rI cI qg_states 6 g_states, rI cI qg_kept 290 g_kept] (ctX7_number l D cI cZ cD cH qg qg_text qg_read qg_life qg_done qg_undone qg_selves qg_when qg_jury qg_years qg_states qg_kept ((upd (upd g_read (38 + (3 * (g_read (3 : Int32).toNatClampNeg))).toNatClampNeg r7.2.2.2.2) ((38 + (3 * (g_read (3 : Int32).toNatClampNeg))) + 1).toNatClampNeg r12.2.2.2.2) ((38 + (3 * (g_read (3 : Int32).toNatClampNeg))) + 1).toNatClampNeg) (((upd (upd g_read (38 + (3 * (g_read (3 : Int32).toNatClampNeg))).toNatClampNeg r7.2.2.2.2) ((38 + (3 * (g_read (3 : Int32).toNatClampNeg))) + 1).toNatClampNeg r12.2.2.2.2) (0 : Int32).toNatClampNeg) - 1) g_size r12.2.1 r12.2.2.1 r12.2.2.2.1 r12.2.2.2.2 g_dones g_undos g_seens g_trace g_text (upd (upd g_read (38 + (3 * (g_read (3 : Int32).toNatClampNeg))).toNatClampNeg r7.2.2.2.2) ((38 + (3 * (g_read (3 : Int32).toNatClampNeg))) + 1).toNatClampNeg r12.2.2.2.2) g_life g_done g_undone g_selves g_when g_jury g_years g_states g_kept r17 hr17) ml_RX7_95 im_yX7_number se_yX7_number in_RX7 cd_yX7_number rfl rfl hd_yX7_number ⟨by decide, by decide⟩ ⟨Nat.zero_le _, Nat.zero_le _⟩ [0, 1, 2, 3, 4, 5, 6, 7, 8, 9, 10, 11] [some 0, some 1, some 2, some 3, some 4, some 5, some 6, some 7, some 8, some 9, some 10, some 11] rfl (by decide +kernel) rfl (by decide +kernel) rfl rfl (q0 := 0) rfl rfl rfl hl.1 rfl rfl (Nat.le_of_ble_eq_true rfl) rfl dX7_readTrial_128 (fun H locs hP hD hS => ?_)
          refine lv_if_ne (tgt := 136) hx hb dX7_readTrial_131 (by decide) (fun c18 => ?_) (fun c18 => ?_)
          · replace hf := ite_f c18 hf
            refine lv_aload_n hx hb dX7_readTrial_136 rfl (lv_at hl 0 rfl) ?_
            refine k_get X hP 0 rfl rfl inX7 6 (by decide) fl_RX7_13 rfl rfl dX7_readTrial_137 ?_
            refine lv_iload_n hx hb dX7_readTrial_140 rfl (lv_at hl 1 rfl) ?_
            refine lv_iconst (v := 2) hx hb dX7_readTrial_141 (by decide) ?_
            refine lv_iadd hx hb dX7_readTrial_142 ?_
            refine lv_aload_n hx hb dX7_readTrial_143 rfl (lv_at hl 0 rfl) ?_
            refine k_get X hP 0 rfl rfl inX7 5 (by decide) fl_RX7_70 rfl rfl dX7_readTrial_144 ?_
            obtain ⟨h19, hf⟩ := ck_t hf
            refine k_iast X hP hD hS [(qg, .inr (7, [.ref qg_text, .int g_size, .int r17.2.1, .int r17.2.2.1, .int r17.2.2.2.1, .int r17.2.2.2.2, .ref qg_read, .ref qg_life, .int g_dones, .ref qg_done, .int g_undos, .ref qg_undone, .ref qg_selves, .ref qg_when, .ref qg_jury, .int g_seens, .ref qg_years, .ref qg_states, .long g_trace, .ref qg_kept])), rI cI qg_text 200 g_text, rI cI qg_read 55 (upd (upd (upd g_read (38 + (3 * (g_read (3 : Int32).toNatClampNeg))).toNatClampNeg r7.2.2.2.2) ((38 + (3 * (g_read (3 : Int32).toNatClampNeg))) + 1).toNatClampNeg r12.2.2.2.2) ((38 + (3 * (g_read (3 : Int32).toNatClampNeg))) + 2).toNatClampNeg r17.2.2.2.2), rI cI qg_life 55 g_life, rI cI qg_done 16 g_done, rI cI qg_undone 130 g_undone, rI cI qg_selves 16 g_selves, rI cI qg_when 27 g_when, rI cI qg_jury 16 g_jury, rI cI qg_years 6 g_years, rI cI qg_states 6 g_states, rI cI qg_kept 290 g_kept] 2 0 rfl rfl h19 rfl dX7_readTrial_147 (fun H locs hP hD hS => ?_)
            refine lv_aload_n hx hb dX7_readTrial_148 rfl (lv_at hl 0 rfl) ?_
            refine k_get X hP 0 rfl rfl inX7 6 (by decide) fl_RX7_13 rfl rfl dX7_readTrial_149 ?_
            refine lv_iconst (v := 3) hx hb dX7_readTrial_152 (by decide) ?_
            refine lv_dup2_11 hx hb dX7_readTrial_153 rfl rfl ?_
            obtain ⟨h20, hf⟩ := ck_t hf
            refine k_iald X hP 2 0 rfl rfl h20 dX7_readTrial_154 ?_
            refine lv_iconst (v := 1) hx hb dX7_readTrial_155 (by decide) ?_
            refine lv_iadd hx hb dX7_readTrial_156 ?_
            obtain ⟨h21, hf⟩ := ck_t hf
            refine k_iast X hP hD hS [(qg, .inr (7, [.ref qg_text, .int g_size, .int r17.2.1, .int r17.2.2.1, .int r17.2.2.2.1, .int r17.2.2.2.2, .ref qg_read, .ref qg_life, .int g_dones, .ref qg_done, .int g_undos, .ref qg_undone, .ref qg_selves, .ref qg_when, .ref qg_jury, .int g_seens, .ref qg_years, .ref qg_states, .long g_trace, .ref qg_kept])), rI cI qg_text 200 g_text, rI cI qg_read 55 (upd (upd (upd (upd g_read (38 + (3 * (g_read (3 : Int32).toNatClampNeg))).toNatClampNeg r7.2.2.2.2) ((38 + (3 * (g_read (3 : Int32).toNatClampNeg))) + 1).toNatClampNeg r12.2.2.2.2) ((38 + (3 * (g_read (3 : Int32).toNatClampNeg))) + 2).toNatClampNeg r17.2.2.2.2) (3 : Int32).toNatClampNeg (((upd (upd (upd g_read (38 + (3 * (g_read (3 : Int32).toNatClampNeg))).toNatClampNeg r7.2.2.2.2) ((38 + (3 * (g_read (3 : Int32).toNatClampNeg))) + 1).toNatClampNeg r12.2.2.2.2) ((38 + (3 * (g_read (3 : Int32).toNatClampNeg))) + 2).toNatClampNeg r17.2.2.2.2) (3 : Int32).toNatClampNeg) + 1)), rI cI qg_life 55 g_life, rI cI qg_done 16 g_done, rI cI qg_undone 130 g_undone, rI cI qg_selves 16 g_selves, rI cI qg_when 27 g_when, rI cI qg_jury 16 g_jury, rI cI qg_years 6 g_years, rI cI qg_states 6 g_states, rI cI qg_kept 290 g_kept] 2 0 rfl rfl h21 rfl dX7_readTrial_157 (fun H locs hP hD hS => ?_)
            refine lv_aload_n hx hb dX7_readTrial_158 rfl (lv_at hl 0 rfl) ?_
            obtain ⟨r22, hr22, hf⟩ := bnd hf
            refine k_callV X hP hD hS [(qg, .inr (7, [.ref qg_text, .int g_size, .int r22.2.1, .int r22.2.2.1, .int r22.2.2.2.1, .int r22.2.2.2.2, .ref qg_read, .ref qg_life, .int g_dones, .ref qg_done, .int g_undos, .ref qg_undone, .ref qg_selves, .ref qg_when, .ref qg_jury, .int g_seens, .ref qg_years, .ref qg_states, .long g_trace, .ref qg_kept])), rI cI qg_text 200 g_text, rI cI qg_read 55 (upd (upd (upd (upd g_read (38 + (3 * (g_read (3 : Int32).toNatClampNeg))).toNatClampNeg r7.2.2.2.2) ((38 + (3 * (g_read (3 : Int32).toNatClampNeg))) + 1).toNatClampNeg r12.2.2.2.2) ((38 + (3 * (g_read (3 : Int32).toNatClampNeg))) + 2).toNatClampNeg r17.2.2.2.2) (3 : Int32).toNatClampNeg (((upd (upd (upd g_read (38 + (3 * (g_read (3 : Int32).toNatClampNeg))).toNatClampNeg r7.2.2.2.2) ((38 + (3 * (g_read (3 : Int32).toNatClampNeg))) + 1).toNatClampNeg r12.2.2.2.2) ((38 + (3 * (g_read (3 : Int32).toNatClampNeg))) + 2).toNatClampNeg r17.2.2.2.2) (3 : Int32).toNatClampNeg) + 1)), rI cI qg_life 55 g_life, rI cI qg_done 16 g_done, rI cI qg_undone 130 g_undone, rI cI qg_selves 16 g_selves, rI cI qg_when 27 g_when, rI cI qg_jury 16 g_jury, rI cI qg_years 6 g_years, rI cI qg_states 6 g_states, rI cI qg_kept 290 g_kept] (ctX7_ends l D cI cZ cD cH qg qg_text qg_read qg_life qg_done qg_undone qg_selves qg_when qg_jury qg_years qg_states qg_kept g_size r17.2.1 r17.2.2.1 r17.2.2.2.1 r17.2.2.2.2 g_dones g_undos g_seens g_trace g_text (upd (upd (upd (upd g_read (38 + (3 * (g_read (3 : Int32).toNatClampNeg))).toNatClampNeg r7.2.2.2.2) ((38 + (3 * (g_read (3 : Int32).toNatClampNeg))) + 1).toNatClampNeg r12.2.2.2.2) ((38 + (3 * (g_read (3 : Int32).toNatClampNeg))) + 2).toNatClampNeg r17.2.2.2.2) (3 : Int32).toNatClampNeg (((upd (upd (upd g_read (38 + (3 * (g_read (3 : Int32).toNatClampNeg))).toNatClampNeg r7.2.2.2.2) ((38 + (3 * (g_read (3 : Int32).toNatClampNeg))) + 1).toNatClampNeg r12.2.2.2.2) ((38 + (3 * (g_read (3 : Int32).toNatClampNeg))) + 2).toNatClampNeg r17.2.2.2.2) (3 : Int32).toNatClampNeg) + 1)) g_life g_done g_undone g_selves g_when g_jury g_years g_states g_kept r22 hr22) ml_RX7_99 im_yX7_ends se_yX7_ends in_RX7 cd_yX7_ends rfl rfl hd_yX7_ends ⟨by decide, by decide⟩ ⟨Nat.zero_le _, Nat.zero_le _⟩ [0, 1, 2, 3, 4, 5, 6, 7, 8, 9, 10, 11] [some 0, some 1, some 2, some 3, some 4, some 5, some 6, some 7, some 8, some 9, some 10, some 11] rfl (by decide +kernel) rfl (by decide +kernel) rfl rfl (q0 := 0) rfl rfl rfl hl.1 rfl rfl (Nat.le_of_ble_eq_true rfl) rfl dX7_readTrial_159 (fun H locs hP hD hS => ?_)
            replace hf := Option.some.inj hf
            subst hf
            exact hret H locs _ ls dX7_readTrial_162 hP hD hS
          · replace hf := ite_t c18 hf
            refine lv_iconst (v := 0) hx hb dX7_readTrial_134 (by decide) ?_
            replace hf := Option.some.inj hf
            subst hf
            exact hret H locs _ ls dX7_readTrial_135 hP hD hS
        · replace hf := ite_t c13 hf
          refine lv_iconst (v := 0) hx hb dX7_readTrial_97 (by decide) ?_
          replace hf := Option.some.inj hf
          subst hf
          exact hret H locs _ ls dX7_readTrial_98 hP hD hS
      · replace hf := ite_t c8 hf
        refine lv_iconst (v := 0) hx hb dX7_readTrial_62 (by decide) ?_
        replace hf := Option.some.inj hf
        subst hf
        exact hret H locs _ ls dX7_readTrial_63 hP hD hS
    refine lv_if_ne (tgt := 38) hx hb dX7_readTrial_31 (by decide) (fun c23 => ?_) (fun c23 => ?_)
    · replace hf := ite_f c23 hf
      refine lv_aload_n hx hb dX7_readTrial_38 rfl (lv_at hl 1 rfl) ?_
      refine k_get X hP 0 rfl rfl inX7 6 (by decide) fl_RX7_13 rfl rfl dX7_readTrial_39 ?_
      refine lv_iload_n hx hb dX7_readTrial_42 rfl (lv_at hl 0 rfl) ?_
      refine lv_iconst (v := 3) hx hb dX7_readTrial_43 (by decide) ?_
      refine lv_isub hx hb dX7_readTrial_44 ?_
      obtain ⟨h24, hf⟩ := ck_t hf
      refine k_iald X hP 2 0 rfl rfl h24 dX7_readTrial_45 ?_
      refine lv_iconst (v := 1) hx hb dX7_readTrial_46 (by decide) ?_
      refine lv_iadd hx hb dX7_readTrial_47 ?_
      exact hj5 _ H locs ls hf hP hD hS (lv_sub hl [1, 0] rfl)
    · replace hf := ite_t c23 hf
      refine lv_iconst (v := 0) hx hb dX7_readTrial_34 (by decide) ?_
      refine lv_goto (tgt := 48) hx hb dX7_readTrial_35 (by decide) ?_
      exact hj5 _ H locs ls hf hP hD hS (lv_sub hl [1, 0] rfl)
  · replace hf := ite_t c2 hf
    refine lv_iconst (v := 0) hx hb dX7_readTrial_10 (by decide) ?_
    replace hf := Option.some.inj hf
    subst hf
    exact hret H locs _ ls dX7_readTrial_11 hP hD hS

def fX7_readDeed (g_size : Int32) (g_at : Int32) (g_begin : Int32) (g_token : Int32) (g_told : Int32) (g_text : Nat → Int32) (g_read : Nat → Int32) : Option (Bool × Int32 × Int32 × Int32 × Int32 × (Nat → Int32)) :=
  if inb 5 55 = true then if (g_read (5 : Int32).toNatClampNeg) = 4 then some (false, g_at, g_begin, g_token, g_told, g_read) else (fX7_number 0 5 g_size g_at g_told g_text).bind (fun r3 => if (bI r3.1) = 0 then some (false, r3.2.1, r3.2.2.1, r3.2.2.2.1, r3.2.2.2.2, g_read) else if inb 5 55 = true then if inb (47 + (2 * (g_read (5 : Int32).toNatClampNeg))) 55 = true then (fX7_number 0 5 g_size r3.2.1 r3.2.2.2.2 g_text).bind (fun r7 => if (bI r7.1) = 0 then some (false, r7.2.1, r7.2.2.1, r7.2.2.2.1, r7.2.2.2.2, upd g_read (47 + (2 * (g_read (5 : Int32).toNatClampNeg))).toNatClampNeg r3.2.2.2.2) else if inb 5 55 = true then if inb ((47 + (2 * ((upd g_read (47 + (2 * (g_read (5 : Int32).toNatClampNeg))).toNatClampNeg r3.2.2.2.2) (5 : Int32).toNatClampNeg))) + 1) 55 = true then if inb 5 55 = true then if inb 5 55 = true then (fX7_ends g_size r7.2.1 r7.2.2.2.2 g_text).bind (fun r13 => some (r13.1, r13.2.1, r13.2.2.1, r13.2.2.2.1, r13.2.2.2.2, upd (upd (upd g_read (47 + (2 * (g_read (5 : Int32).toNatClampNeg))).toNatClampNeg r3.2.2.2.2) ((47 + (2 * ((upd g_read (47 + (2 * (g_read (5 : Int32).toNatClampNeg))).toNatClampNeg r3.2.2.2.2) (5 : Int32).toNatClampNeg))) + 1).toNatClampNeg r7.2.2.2.2) (5 : Int32).toNatClampNeg (((upd (upd g_read (47 + (2 * (g_read (5 : Int32).toNatClampNeg))).toNatClampNeg r3.2.2.2.2) ((47 + (2 * ((upd g_read (47 + (2 * (g_read (5 : Int32).toNatClampNeg))).toNatClampNeg r3.2.2.2.2) (5 : Int32).toNatClampNeg))) + 1).toNatClampNeg r7.2.2.2.2) (5 : Int32).toNatClampNeg) + 1))) else none else none else none else none) else none else none) else none
set_option maxHeartbeats 4000000 in
set_option maxRecDepth 100000 in
theorem ctX7_readDeed (l : Launch) (D : va_G) (cI cZ cD cH : ClassId) (qg : Nat) (qg_text : Nat) (qg_read : Nat) (qg_life : Nat) (qg_done : Nat) (qg_undone : Nat) (qg_selves : Nat) (qg_when : Nat) (qg_jury : Nat) (qg_years : Nat) (qg_states : Nat) (qg_kept : Nat) (g_size : Int32) (g_at : Int32) (g_begin : Int32) (g_token : Int32) (g_told : Int32) (g_dones : Int32) (g_undos : Int32) (g_seens : Int32) (g_trace : Int64) (g_text : Nat → Int32) (g_read : Nat → Int32) (g_life : Nat → Int32) (g_done : Nat → Int32) (g_undone : Nat → Int32) (g_selves : Nat → Int32) (g_when : Nat → Int32) (g_jury : Nat → Int32) (g_years : Nat → Int32) (g_states : Nat → Int32) (g_kept : Nat → Int32) (o : Bool × Int32 × Int32 × Int32 × Int32 × (Nat → Int32)) (hf : fX7_readDeed g_size g_at g_begin g_token g_told g_text g_read = some o) : Ct l yX7_readDeed cX7_readDeed 1 (some .boolean) { frames := 5, cells := 0, slots := 0, locals := 108 } D (Tys cI cZ cD cH) [.ref qg] [(qg, .inr (7, [.ref qg_text, .int g_size, .int g_at, .int g_begin, .int g_token, .int g_told, .ref qg_read, .ref qg_life, .int g_dones, .ref qg_done, .int g_undos, .ref qg_undone, .ref qg_selves, .ref qg_when, .ref qg_jury, .int g_seens, .ref qg_years, .ref qg_states, .long g_trace, .ref qg_kept])), rI cI qg_text 200 g_text, rI cI qg_read 55 g_read, rI cI qg_life 55 g_life, rI cI qg_done 16 g_done, rI cI qg_undone 130 g_undone, rI cI qg_selves 16 g_selves, rI cI qg_when 27 g_when, rI cI qg_jury 16 g_jury, rI cI qg_years 6 g_years, rI cI qg_states 6 g_states, rI cI qg_kept 290 g_kept] [(qg, .inr (7, [.ref qg_text, .int g_size, .int o.2.1, .int o.2.2.1, .int o.2.2.2.1, .int o.2.2.2.2.1, .ref qg_read, .ref qg_life, .int g_dones, .ref qg_done, .int g_undos, .ref qg_undone, .ref qg_selves, .ref qg_when, .ref qg_jury, .int g_seens, .ref qg_years, .ref qg_states, .long g_trace, .ref qg_kept])), rI cI qg_text 200 g_text, rI cI qg_read 55 o.2.2.2.2.2, rI cI qg_life 55 g_life, rI cI qg_done 16 g_done, rI cI qg_undone 130 g_undone, rI cI qg_selves 16 g_selves, rI cI qg_when 27 g_when, rI cI qg_jury 16 g_jury, rI cI qg_years 6 g_years, rI cI qg_states 6 g_states, rI cI qg_kept 290 g_kept] (some (.int (bI o.1))) 0 0 := by
  refine mkZ (by decide) (Nat.le_of_ble_eq_true rfl) ?_
  intro p e s m args below meth c A Q X hret ls hl H locs hP hD hS
  replace X : Cx p s m args c D (Tys cI cZ cD cH) A cX7_readDeed RX7 1 := X
  obtain ⟨hx, hb, hml, hown, hts, hK, hZ, hA⟩ := id X
  have hl : lv_has ls 1 [(0, .ref qg)] := hl
  unfold fX7_readDeed at hf
  refine lv_aload_n hx hb dX7_readDeed_0 rfl (lv_at hl 0 rfl) ?_
  refine k_get X hP 0 rfl rfl inX7 6 (by decide) fl_RX7_13 rfl rfl dX7_readDeed_1 ?_
  refine lv_iconst (v := 5) hx hb dX7_readDeed_4 (by decide) ?_
  obtain ⟨h1, hf⟩ := ck_t hf
  refine k_iald X hP 2 0 rfl rfl h1 dX7_readDeed_5 ?_
  refine lv_iconst (v := 4) hx hb dX7_readDeed_6 (by decide) ?_
  refine lv_icmp_eq (tgt := 19) hx hb dX7_readDeed_7 (by decide) (fun c2 => ?_) (fun c2 => ?_)
  · replace hf := ite_t c2 hf
    refine lv_iconst (v := 0) hx hb dX7_readDeed_19 (by decide) ?_
    replace hf := Option.some.inj hf
    subst hf
    exact hret H locs _ ls dX7_readDeed_20 hP hD hS
  · replace hf := ite_f c2 hf
    refine lv_aload_n hx hb dX7_readDeed_10 rfl (lv_at hl 0 rfl) ?_
    refine lv_iconst (v := 0) hx hb dX7_readDeed_11 (by decide) ?_
    refine lv_iconst (v := 5) hx hb dX7_readDeed_12 (by decide) ?_
    obtain ⟨r3, hr3, hf⟩ := bnd hf
    refine k_callV X hP hD hS [(qg, .inr (7, [.ref qg_text, .int g_size, .int r3.2.1, .int r3.2.2.1, .int r3.2.2.2.1, .int r3.2.2.2.2, .ref qg_read, .ref qg_life, .int g_dones, .ref qg_done, .int g_undos, .ref qg_undone, .ref qg_selves, .ref qg_when, .ref qg_jury, .int g_seens, .ref qg_years, .ref qg_states, .long g_trace, .ref qg_kept])), rI cI qg_text 200 g_text, rI cI qg_read 55 g_read, rI cI qg_life 55 g_life, rI cI qg_done 16 g_done, rI cI qg_undone 130 g_undone, rI cI qg_selves 16 g_selves, rI cI qg_when 27 g_when, rI cI qg_jury 16 g_jury, rI cI qg_years 6 g_years, rI cI qg_states 6 g_states, rI cI qg_kept 290 g_kept] (ctX7_number l D cI cZ cD cH qg qg_text qg_read qg_life qg_done qg_undone qg_selves qg_when qg_jury qg_years qg_states qg_kept 0 5 g_size g_at g_begin g_token g_told g_dones g_undos g_seens g_trace g_text g_read g_life g_done g_undone g_selves g_when g_jury g_years g_states g_kept r3 hr3) ml_RX7_95 im_yX7_number se_yX7_number in_RX7 cd_yX7_number rfl rfl hd_yX7_number ⟨by decide, by decide⟩ ⟨Nat.zero_le _, Nat.zero_le _⟩ [0, 1, 2, 3, 4, 5, 6, 7, 8, 9, 10, 11] [some 0, some 1, some 2, some 3, some 4, some 5, some 6, some 7, some 8, some 9, some 10, some 11] rfl (by decide +kernel) rfl (by decide +kernel) rfl rfl (q0 := 0) rfl rfl rfl hl.1 rfl rfl (Nat.le_of_ble_eq_true rfl) rfl dX7_readDeed_13 (fun H locs hP hD hS => ?_)
    refine lv_if_ne (tgt := 21) hx hb dX7_readDeed_16 (by decide) (fun c4 => ?_) (fun c4 => ?_)
    · replace hf := ite_f c4 hf
      refine lv_aload_n hx hb dX7_readDeed_21 rfl (lv_at hl 0 rfl) ?_
      refine k_get X hP 0 rfl rfl inX7 6 (by decide) fl_RX7_13 rfl rfl dX7_readDeed_22 ?_
      refine lv_bipush (v := 47) hx hb dX7_readDeed_25 (by decide) ?_
      refine lv_iconst (v := 2) hx hb dX7_readDeed_27 (by decide) ?_
      refine lv_aload_n hx hb dX7_readDeed_28 rfl (lv_at hl 0 rfl) ?_
      refine k_get X hP 0 rfl rfl inX7 6 (by decide) fl_RX7_13 rfl rfl dX7_readDeed_29 ?_
      refine lv_iconst (v := 5) hx hb dX7_readDeed_32 (by decide) ?_
      obtain ⟨h5, hf⟩ := ck_t hf
      refine k_iald X hP 2 0 rfl rfl h5 dX7_readDeed_33 ?_
      refine lv_imul hx hb dX7_readDeed_34 ?_
      refine lv_iadd hx hb dX7_readDeed_35 ?_
      refine lv_aload_n hx hb dX7_readDeed_36 rfl (lv_at hl 0 rfl) ?_
      refine k_get X hP 0 rfl rfl inX7 5 (by decide) fl_RX7_70 rfl rfl dX7_readDeed_37 ?_
      obtain ⟨h6, hf⟩ := ck_t hf
      refine k_iast X hP hD hS [(qg, .inr (7, [.ref qg_text, .int g_size, .int r3.2.1, .int r3.2.2.1, .int r3.2.2.2.1, .int r3.2.2.2.2, .ref qg_read, .ref qg_life, .int g_dones, .ref qg_done, .int g_undos, .ref qg_undone, .ref qg_selves, .ref qg_when, .ref qg_jury, .int g_seens, .ref qg_years, .ref qg_states, .long g_trace, .ref qg_kept])), rI cI qg_text 200 g_text, rI cI qg_read 55 (upd g_read (47 + (2 * (g_read (5 : Int32).toNatClampNeg))).toNatClampNeg r3.2.2.2.2), rI cI qg_life 55 g_life, rI cI qg_done 16 g_done, rI cI qg_undone 130 g_undone, rI cI qg_selves 16 g_selves, rI cI qg_when 27 g_when, rI cI qg_jury 16 g_jury, rI cI qg_years 6 g_years, rI cI qg_states 6 g_states, rI cI qg_kept 290 g_kept] 2 0 rfl rfl h6 rfl dX7_readDeed_40 (fun H locs hP hD hS => ?_)
      refine lv_aload_n hx hb dX7_readDeed_41 rfl (lv_at hl 0 rfl) ?_
      refine lv_iconst (v := 0) hx hb dX7_readDeed_42 (by decide) ?_
      refine lv_iconst (v := 5) hx hb dX7_readDeed_43 (by decide) ?_
      obtain ⟨r7, hr7, hf⟩ := bnd hf
      refine k_callV X hP hD hS [(qg, .inr (7, [.ref qg_text, .int g_size, .int r7.2.1, .int r7.2.2.1, .int r7.2.2.2.1, .int r7.2.2.2.2, .ref qg_read, .ref qg_life, .int g_dones, .ref qg_done, .int g_undos, .ref qg_undone, .ref qg_selves, .ref qg_when, .ref qg_jury, .int g_seens, .ref qg_years, .ref qg_states, .long g_trace, .ref qg_kept])), rI cI qg_text 200 g_text, rI cI qg_read 55 (upd g_read (47 + (2 * (g_read (5 : Int32).toNatClampNeg))).toNatClampNeg r3.2.2.2.2), rI cI qg_life 55 g_life, rI cI qg_done 16 g_done, rI cI qg_undone 130 g_undone, rI cI qg_selves 16 g_selves, rI cI qg_when 27 g_when, rI cI qg_jury 16 g_jury, rI cI qg_years 6 g_years, rI cI qg_states 6 g_states, rI cI qg_kept 290 g_kept] (ctX7_number l D cI cZ cD cH qg qg_text qg_read qg_life qg_done qg_undone qg_selves qg_when qg_jury qg_years qg_states qg_kept 0 5 g_size r3.2.1 r3.2.2.1 r3.2.2.2.1 r3.2.2.2.2 g_dones g_undos g_seens g_trace g_text (upd g_read (47 + (2 * (g_read (5 : Int32).toNatClampNeg))).toNatClampNeg r3.2.2.2.2) g_life g_done g_undone g_selves g_when g_jury g_years g_states g_kept r7 hr7) ml_RX7_95 im_yX7_number se_yX7_number in_RX7 cd_yX7_number rfl rfl hd_yX7_number ⟨by decide, by decide⟩ ⟨Nat.zero_le _, Nat.zero_le _⟩ [0, 1, 2, 3, 4, 5, 6, 7, 8, 9, 10, 11] [some 0, some 1, some 2, some 3, some 4, some 5, some 6, some 7, some 8, some 9, some 10, some 11] rfl (by decide +kernel) rfl (by decide +kernel) rfl rfl (q0 := 0) rfl rfl rfl hl.1 rfl rfl (Nat.le_of_ble_eq_true rfl) rfl dX7_readDeed_44 (fun H locs hP hD hS => ?_)
      refine lv_if_ne (tgt := 52) hx hb dX7_readDeed_47 (by decide) (fun c8 => ?_) (fun c8 => ?_)
      · replace hf := ite_f c8 hf
        refine lv_aload_n hx hb dX7_readDeed_52 rfl (lv_at hl 0 rfl) ?_
        refine k_get X hP 0 rfl rfl inX7 6 (by decide) fl_RX7_13 rfl rfl dX7_readDeed_53 ?_
        refine lv_bipush (v := 47) hx hb dX7_readDeed_56 (by decide) ?_
        refine lv_iconst (v := 2) hx hb dX7_readDeed_58 (by decide) ?_
        refine lv_aload_n hx hb dX7_readDeed_59 rfl (lv_at hl 0 rfl) ?_
        refine k_get X hP 0 rfl rfl inX7 6 (by decide) fl_RX7_13 rfl rfl dX7_readDeed_60 ?_
        refine lv_iconst (v := 5) hx hb dX7_readDeed_63 (by decide) ?_
        obtain ⟨h9, hf⟩ := ck_t hf
        refine k_iald X hP 2 0 rfl rfl h9 dX7_readDeed_64 ?_
        refine lv_imul hx hb dX7_readDeed_65 ?_
        refine lv_iadd hx hb dX7_readDeed_66 ?_
        refine lv_iconst (v := 1) hx hb dX7_readDeed_67 (by decide) ?_
        refine lv_iadd hx hb dX7_readDeed_68 ?_
        refine lv_aload_n hx hb dX7_readDeed_69 rfl (lv_at hl 0 rfl) ?_
        refine k_get X hP 0 rfl rfl inX7 5 (by decide) fl_RX7_70 rfl rfl dX7_readDeed_70 ?_
        obtain ⟨h10, hf⟩ := ck_t hf
        refine k_iast X hP hD hS [(qg, .inr (7, [.ref qg_text, .int g_size, .int r7.2.1, .int r7.2.2.1, .int r7.2.2.2.1, .int r7.2.2.2.2, .ref qg_read, .ref qg_life, .int g_dones, .ref qg_done, .int g_undos, .ref qg_undone, .ref qg_selves, .ref qg_when, .ref qg_jury, .int g_seens, .ref qg_years, .ref qg_states, .long g_trace, .ref qg_kept])), rI cI qg_text 200 g_text, rI cI qg_read 55 (upd (upd g_read (47 + (2 * (g_read (5 : Int32).toNatClampNeg))).toNatClampNeg r3.2.2.2.2) ((47 + (2 * ((upd g_read (47 + (2 * (g_read (5 : Int32).toNatClampNeg))).toNatClampNeg r3.2.2.2.2) (5 : Int32).toNatClampNeg))) + 1).toNatClampNeg r7.2.2.2.2), rI cI qg_life 55 g_life, rI cI qg_done 16 g_done, rI cI qg_undone 130 g_undone, rI cI qg_selves 16 g_selves, rI cI qg_when 27 g_when, rI cI qg_jury 16 g_jury, rI cI qg_years 6 g_years, rI cI qg_states 6 g_states, rI cI qg_kept 290 g_kept] 2 0 rfl rfl h10 rfl dX7_readDeed_73 (fun H locs hP hD hS => ?_)
        refine lv_aload_n hx hb dX7_readDeed_74 rfl (lv_at hl 0 rfl) ?_
        refine k_get X hP 0 rfl rfl inX7 6 (by decide) fl_RX7_13 rfl rfl dX7_readDeed_75 ?_
        refine lv_iconst (v := 5) hx hb dX7_readDeed_78 (by decide) ?_
        refine lv_dup2_11 hx hb dX7_readDeed_79 rfl rfl ?_
        obtain ⟨h11, hf⟩ := ck_t hf
        refine k_iald X hP 2 0 rfl rfl h11 dX7_readDeed_80 ?_
        refine lv_iconst (v := 1) hx hb dX7_readDeed_81 (by decide) ?_
        refine lv_iadd hx hb dX7_readDeed_82 ?_
        obtain ⟨h12, hf⟩ := ck_t hf
        refine k_iast X hP hD hS [(qg, .inr (7, [.ref qg_text, .int g_size, .int r7.2.1, .int r7.2.2.1, .int r7.2.2.2.1, .int r7.2.2.2.2, .ref qg_read, .ref qg_life, .int g_dones, .ref qg_done, .int g_undos, .ref qg_undone, .ref qg_selves, .ref qg_when, .ref qg_jury, .int g_seens, .ref qg_years, .ref qg_states, .long g_trace, .ref qg_kept])), rI cI qg_text 200 g_text, rI cI qg_read 55 (upd (upd (upd g_read (47 + (2 * (g_read (5 : Int32).toNatClampNeg))).toNatClampNeg r3.2.2.2.2) ((47 + (2 * ((upd g_read (47 + (2 * (g_read (5 : Int32).toNatClampNeg))).toNatClampNeg r3.2.2.2.2) (5 : Int32).toNatClampNeg))) + 1).toNatClampNeg r7.2.2.2.2) (5 : Int32).toNatClampNeg (((upd (upd g_read (47 + (2 * (g_read (5 : Int32).toNatClampNeg))).toNatClampNeg r3.2.2.2.2) ((47 + (2 * ((upd g_read (47 + (2 * (g_read (5 : Int32).toNatClampNeg))).toNatClampNeg r3.2.2.2.2) (5 : Int32).toNatClampNeg))) + 1).toNatClampNeg r7.2.2.2.2) (5 : Int32).toNatClampNeg) + 1)), rI cI qg_life 55 g_life, rI cI qg_done 16 g_done, rI cI qg_undone 130 g_undone, rI cI qg_selves 16 g_selves, rI cI qg_when 27 g_when, rI cI qg_jury 16 g_jury, rI cI qg_years 6 g_years, rI cI qg_states 6 g_states, rI cI qg_kept 290 g_kept] 2 0 rfl rfl h12 rfl dX7_readDeed_83 (fun H locs hP hD hS => ?_)
        refine lv_aload_n hx hb dX7_readDeed_84 rfl (lv_at hl 0 rfl) ?_
        obtain ⟨r13, hr13, hf⟩ := bnd hf
        refine k_callV X hP hD hS [(qg, .inr (7, [.ref qg_text, .int g_size, .int r13.2.1, .int r13.2.2.1, .int r13.2.2.2.1, .int r13.2.2.2.2, .ref qg_read, .ref qg_life, .int g_dones, .ref qg_done, .int g_undos, .ref qg_undone, .ref qg_selves, .ref qg_when, .ref qg_jury, .int g_seens, .ref qg_years, .ref qg_states, .long g_trace, .ref qg_kept])), rI cI qg_text 200 g_text, rI cI qg_read 55 (upd (upd (upd g_read (47 + (2 * (g_read (5 : Int32).toNatClampNeg))).toNatClampNeg r3.2.2.2.2) ((47 + (2 * ((upd g_read (47 + (2 * (g_read (5 : Int32).toNatClampNeg))).toNatClampNeg r3.2.2.2.2) (5 : Int32).toNatClampNeg))) + 1).toNatClampNeg r7.2.2.2.2) (5 : Int32).toNatClampNeg (((upd (upd g_read (47 + (2 * (g_read (5 : Int32).toNatClampNeg))).toNatClampNeg r3.2.2.2.2) ((47 + (2 * ((upd g_read (47 + (2 * (g_read (5 : Int32).toNatClampNeg))).toNatClampNeg r3.2.2.2.2) (5 : Int32).toNatClampNeg))) + 1).toNatClampNeg r7.2.2.2.2) (5 : Int32).toNatClampNeg) + 1)), rI cI qg_life 55 g_life, rI cI qg_done 16 g_done, rI cI qg_undone 130 g_undone, rI cI qg_selves 16 g_selves, rI cI qg_when 27 g_when, rI cI qg_jury 16 g_jury, rI cI qg_years 6 g_years, rI cI qg_states 6 g_states, rI cI qg_kept 290 g_kept] (ctX7_ends l D cI cZ cD cH qg qg_text qg_read qg_life qg_done qg_undone qg_selves qg_when qg_jury qg_years qg_states qg_kept g_size r7.2.1 r7.2.2.1 r7.2.2.2.1 r7.2.2.2.2 g_dones g_undos g_seens g_trace g_text (upd (upd (upd g_read (47 + (2 * (g_read (5 : Int32).toNatClampNeg))).toNatClampNeg r3.2.2.2.2) ((47 + (2 * ((upd g_read (47 + (2 * (g_read (5 : Int32).toNatClampNeg))).toNatClampNeg r3.2.2.2.2) (5 : Int32).toNatClampNeg))) + 1).toNatClampNeg r7.2.2.2.2) (5 : Int32).toNatClampNeg (((upd (upd g_read (47 + (2 * (g_read (5 : Int32).toNatClampNeg))).toNatClampNeg r3.2.2.2.2) ((47 + (2 * ((upd g_read (47 + (2 * (g_read (5 : Int32).toNatClampNeg))).toNatClampNeg r3.2.2.2.2) (5 : Int32).toNatClampNeg))) + 1).toNatClampNeg r7.2.2.2.2) (5 : Int32).toNatClampNeg) + 1)) g_life g_done g_undone g_selves g_when g_jury g_years g_states g_kept r13 hr13) ml_RX7_99 im_yX7_ends se_yX7_ends in_RX7 cd_yX7_ends rfl rfl hd_yX7_ends ⟨by decide, by decide⟩ ⟨Nat.zero_le _, Nat.zero_le _⟩ [0, 1, 2, 3, 4, 5, 6, 7, 8, 9, 10, 11] [some 0, some 1, some 2, some 3, some 4, some 5, some 6, some 7, some 8, some 9, some 10, some 11] rfl (by decide +kernel) rfl (by decide +kernel) rfl rfl (q0 := 0) rfl rfl rfl hl.1 rfl rfl (Nat.le_of_ble_eq_true rfl) rfl dX7_readDeed_85 (fun H locs hP hD hS => ?_)
        replace hf := Option.some.inj hf
        subst hf
        exact hret H locs _ ls dX7_readDeed_88 hP hD hS
      · replace hf := ite_t c8 hf
        refine lv_iconst (v := 0) hx hb dX7_readDeed_50 (by decide) ?_
        replace hf := Option.some.inj hf
        subst hf
        exact hret H locs _ ls dX7_readDeed_51 hP hD hS
    · replace hf := ite_t c4 hf
      refine lv_iconst (v := 0) hx hb dX7_readDeed_19 (by decide) ?_
      replace hf := Option.some.inj hf
      subst hf
      exact hret H locs _ ls dX7_readDeed_20 hP hD hS

def fX7_readItem (g_size : Int32) (g_at : Int32) (g_begin : Int32) (g_token : Int32) (g_told : Int32) (g_text : Nat → Int32) (g_read : Nat → Int32) : Option (Bool × Int32 × Int32 × Int32 × Int32 × (Nat → Int32)) :=
  if g_token = 1 then if g_told = 98 then (fX7_once 2 2 0 5 g_size g_at g_begin g_token g_told g_text g_read).bind (fun r3 => some (r3.1, r3.2.1, r3.2.2.1, r3.2.2.2.1, r3.2.2.2.2.1, r3.2.2.2.2.2)) else (if g_told = 113 then (fX7_once 4 4 1 9 g_size g_at g_begin g_token g_told g_text g_read).bind (fun r5 => some (r5.1, r5.2.1, r5.2.2.1, r5.2.2.2.1, r5.2.2.2.2.1, r5.2.2.2.2.2)) else (if g_told = 115 then (fX7_readState g_size g_at g_begin g_token g_told g_text g_read).bind (fun r7 => some (r7.1, r7.2.1, r7.2.2.1, r7.2.2.2.1, r7.2.2.2.2.1, r7.2.2.2.2.2)) else (if g_told = 116 then (fX7_readTrial g_size g_at g_begin g_token g_told g_text g_read).bind (fun r9 => some (r9.1, r9.2.1, r9.2.2.1, r9.2.2.2.1, r9.2.2.2.2.1, r9.2.2.2.2.2)) else (if g_told = 121 then if inb 3 55 = true then if (g_read (3 : Int32).toNatClampNeg) = 0 then (fX7_once 1 0 2 16 g_size g_at g_begin g_token g_told g_text g_read).bind (fun r13 => if (bI r13.1) = 0 then some (false, r13.2.1, r13.2.2.1, r13.2.2.2.1, r13.2.2.2.2.1, r13.2.2.2.2.2) else some (true, r13.2.1, r13.2.2.1, r13.2.2.2.1, r13.2.2.2.2.1, r13.2.2.2.2.2)) else some (false, g_at, g_begin, g_token, g_told, g_read) else none else ((fX7_readDeed g_size g_at g_begin g_token g_told g_text g_read).bind (fun r15 => some (r15.1, r15.2.1, r15.2.2.1, r15.2.2.2.1, r15.2.2.2.2.1, r15.2.2.2.2.2))))))) else some (false, g_at, g_begin, g_token, g_told, g_read)
set_option maxHeartbeats 4000000 in
set_option maxRecDepth 100000 in
theorem ctX7_readItem (l : Launch) (D : va_G) (cI cZ cD cH : ClassId) (qg : Nat) (qg_text : Nat) (qg_read : Nat) (qg_life : Nat) (qg_done : Nat) (qg_undone : Nat) (qg_selves : Nat) (qg_when : Nat) (qg_jury : Nat) (qg_years : Nat) (qg_states : Nat) (qg_kept : Nat) (g_size : Int32) (g_at : Int32) (g_begin : Int32) (g_token : Int32) (g_told : Int32) (g_dones : Int32) (g_undos : Int32) (g_seens : Int32) (g_trace : Int64) (g_text : Nat → Int32) (g_read : Nat → Int32) (g_life : Nat → Int32) (g_done : Nat → Int32) (g_undone : Nat → Int32) (g_selves : Nat → Int32) (g_when : Nat → Int32) (g_jury : Nat → Int32) (g_years : Nat → Int32) (g_states : Nat → Int32) (g_kept : Nat → Int32) (o : Bool × Int32 × Int32 × Int32 × Int32 × (Nat → Int32)) (hf : fX7_readItem g_size g_at g_begin g_token g_told g_text g_read = some o) : Ct l yX7_readItem cX7_readItem 1 (some .boolean) { frames := 6, cells := 0, slots := 0, locals := 132 } D (Tys cI cZ cD cH) [.ref qg] [(qg, .inr (7, [.ref qg_text, .int g_size, .int g_at, .int g_begin, .int g_token, .int g_told, .ref qg_read, .ref qg_life, .int g_dones, .ref qg_done, .int g_undos, .ref qg_undone, .ref qg_selves, .ref qg_when, .ref qg_jury, .int g_seens, .ref qg_years, .ref qg_states, .long g_trace, .ref qg_kept])), rI cI qg_text 200 g_text, rI cI qg_read 55 g_read, rI cI qg_life 55 g_life, rI cI qg_done 16 g_done, rI cI qg_undone 130 g_undone, rI cI qg_selves 16 g_selves, rI cI qg_when 27 g_when, rI cI qg_jury 16 g_jury, rI cI qg_years 6 g_years, rI cI qg_states 6 g_states, rI cI qg_kept 290 g_kept] [(qg, .inr (7, [.ref qg_text, .int g_size, .int o.2.1, .int o.2.2.1, .int o.2.2.2.1, .int o.2.2.2.2.1, .ref qg_read, .ref qg_life, .int g_dones, .ref qg_done, .int g_undos, .ref qg_undone, .ref qg_selves, .ref qg_when, .ref qg_jury, .int g_seens, .ref qg_years, .ref qg_states, .long g_trace, .ref qg_kept])), rI cI qg_text 200 g_text, rI cI qg_read 55 o.2.2.2.2.2, rI cI qg_life 55 g_life, rI cI qg_done 16 g_done, rI cI qg_undone 130 g_undone, rI cI qg_selves 16 g_selves, rI cI qg_when 27 g_when, rI cI qg_jury 16 g_jury, rI cI qg_years 6 g_years, rI cI qg_states 6 g_states, rI cI qg_kept 290 g_kept] (some (.int (bI o.1))) 0 0 := by
  refine mkZ (by decide) (Nat.le_of_ble_eq_true rfl) ?_
  intro p e s m args below meth c A Q X hret ls hl H locs hP hD hS
  replace X : Cx p s m args c D (Tys cI cZ cD cH) A cX7_readItem RX7 1 := X
  obtain ⟨hx, hb, hml, hown, hts, hK, hZ, hA⟩ := id X
  have hl : lv_has ls 1 [(0, .ref qg)] := hl
  unfold fX7_readItem at hf
  refine lv_aload_n hx hb dX7_readItem_0 rfl (lv_at hl 0 rfl) ?_
  refine k_get X hP 0 rfl rfl inX7 4 (by decide) fl_RX7_80 rfl rfl dX7_readItem_1 ?_
  refine lv_iconst (v := 1) hx hb dX7_readItem_4 (by decide) ?_
  refine lv_icmp_eq (tgt := 10) hx hb dX7_readItem_5 (by decide) (fun c1 => ?_) (fun c1 => ?_)
  · replace hf := ite_t c1 hf
    refine lv_aload_n hx hb dX7_readItem_10 rfl (lv_at hl 0 rfl) ?_
    refine k_get X hP 0 rfl rfl inX7 5 (by decide) fl_RX7_70 rfl rfl dX7_readItem_11 ?_
    by_cases c2 : g_told = 98
    · replace hf := ite_t c2 hf
      refine top_eq c2 ?_
      refine lv_lookup (tgt := 91) hx hb dX7_readItem_14 (by decide) rfl (by decide) ?_
      refine lv_aload_n hx hb dX7_readItem_91 rfl (lv_at hl 0 rfl) ?_
      refine lv_iconst (v := 2) hx hb dX7_readItem_92 (by decide) ?_
      refine lv_iconst (v := 2) hx hb dX7_readItem_93 (by decide) ?_
      refine lv_iconst (v := 0) hx hb dX7_readItem_94 (by decide) ?_
      refine lv_iconst (v := 5) hx hb dX7_readItem_95 (by decide) ?_
      obtain ⟨r3, hr3, hf⟩ := bnd hf
      refine k_callV X hP hD hS [(qg, .inr (7, [.ref qg_text, .int g_size, .int r3.2.1, .int r3.2.2.1, .int r3.2.2.2.1, .int r3.2.2.2.2.1, .ref qg_read, .ref qg_life, .int g_dones, .ref qg_done, .int g_undos, .ref qg_undone, .ref qg_selves, .ref qg_when, .ref qg_jury, .int g_seens, .ref qg_years, .ref qg_states, .long g_trace, .ref qg_kept])), rI cI qg_text 200 g_text, rI cI qg_read 55 r3.2.2.2.2.2, rI cI qg_life 55 g_life, rI cI qg_done 16 g_done, rI cI qg_undone 130 g_undone, rI cI qg_selves 16 g_selves, rI cI qg_when 27 g_when, rI cI qg_jury 16 g_jury, rI cI qg_years 6 g_years, rI cI qg_states 6 g_states, rI cI qg_kept 290 g_kept] (ctX7_once l D cI cZ cD cH qg qg_text qg_read qg_life qg_done qg_undone qg_selves qg_when qg_jury qg_years qg_states qg_kept 2 2 0 5 g_size g_at g_begin g_token g_told g_dones g_undos g_seens g_trace g_text g_read g_life g_done g_undone g_selves g_when g_jury g_years g_states g_kept r3 hr3) ml_RX7_103 im_yX7_once se_yX7_once in_RX7 cd_yX7_once rfl rfl hd_yX7_once ⟨by decide, by decide⟩ ⟨Nat.zero_le _, Nat.zero_le _⟩ [0, 1, 2, 3, 4, 5, 6, 7, 8, 9, 10, 11] [some 0, some 1, some 2, some 3, some 4, some 5, some 6, some 7, some 8, some 9, some 10, some 11] rfl (by decide +kernel) rfl (by decide +kernel) rfl rfl (q0 := 0) rfl rfl rfl hl.1 rfl rfl (Nat.le_of_ble_eq_true rfl) rfl dX7_readItem_96 (fun H locs hP hD hS => ?_)
      replace hf := Option.some.inj hf
      subst hf
      exact hret H locs _ ls dX7_readItem_99 hP hD hS
    · replace hf := ite_f c2 hf
      by_cases c4 : g_told = 113
      · replace hf := ite_t c4 hf
        refine top_eq c4 ?_
        refine lv_lookup (tgt := 100) hx hb dX7_readItem_14 (by decide) rfl (by decide) ?_
        refine lv_aload_n hx hb dX7_readItem_100 rfl (lv_at hl 0 rfl) ?_
        refine lv_iconst (v := 4) hx hb dX7_readItem_101 (by decide) ?_
        refine lv_iconst (v := 4) hx hb dX7_readItem_102 (by decide) ?_
        refine lv_iconst (v := 1) hx hb dX7_readItem_103 (by decide) ?_
        refine lv_bipush (v := 9) hx hb dX7_readItem_104 (by decide) ?_
        obtain ⟨r5, hr5, hf⟩ := bnd hf
        refine k_callV X hP hD hS [(qg, .inr (7, [.ref qg_text, .int g_size, .int r5.2.1, .int r5.2.2.1, .int r5.2.2.2.1, .int r5.2.2.2.2.1, .ref qg_read, .ref qg_life, .int g_dones, .ref qg_done, .int g_undos, .ref qg_undone, .ref qg_selves, .ref qg_when, .ref qg_jury, .int g_seens, .ref qg_years, .ref qg_states, .long g_trace, .ref qg_kept])), rI cI qg_text 200 g_text, rI cI qg_read 55 r5.2.2.2.2.2, rI cI qg_life 55 g_life, rI cI qg_done 16 g_done, rI cI qg_undone 130 g_undone, rI cI qg_selves 16 g_selves, rI cI qg_when 27 g_when, rI cI qg_jury 16 g_jury, rI cI qg_years 6 g_years, rI cI qg_states 6 g_states, rI cI qg_kept 290 g_kept] (ctX7_once l D cI cZ cD cH qg qg_text qg_read qg_life qg_done qg_undone qg_selves qg_when qg_jury qg_years qg_states qg_kept 4 4 1 9 g_size g_at g_begin g_token g_told g_dones g_undos g_seens g_trace g_text g_read g_life g_done g_undone g_selves g_when g_jury g_years g_states g_kept r5 hr5) ml_RX7_103 im_yX7_once se_yX7_once in_RX7 cd_yX7_once rfl rfl hd_yX7_once ⟨by decide, by decide⟩ ⟨Nat.zero_le _, Nat.zero_le _⟩ [0, 1, 2, 3, 4, 5, 6, 7, 8, 9, 10, 11] [some 0, some 1, some 2, some 3, some 4, some 5, some 6, some 7, some 8, some 9, some 10, some 11] rfl (by decide +kernel) rfl (by decide +kernel) rfl rfl (q0 := 0) rfl rfl rfl hl.1 rfl rfl (Nat.le_of_ble_eq_true rfl) rfl dX7_readItem_106 (fun H locs hP hD hS => ?_)
        replace hf := Option.some.inj hf
        subst hf
        exact hret H locs _ ls dX7_readItem_109 hP hD hS
      · replace hf := ite_f c4 hf
        by_cases c6 : g_told = 115
        · replace hf := ite_t c6 hf
          refine top_eq c6 ?_
          refine lv_lookup (tgt := 110) hx hb dX7_readItem_14 (by decide) rfl (by decide) ?_
          refine lv_aload_n hx hb dX7_readItem_110 rfl (lv_at hl 0 rfl) ?_
          obtain ⟨r7, hr7, hf⟩ := bnd hf
          refine k_callV X hP hD hS [(qg, .inr (7, [.ref qg_text, .int g_size, .int r7.2.1, .int r7.2.2.1, .int r7.2.2.2.1, .int r7.2.2.2.2.1, .ref qg_read, .ref qg_life, .int g_dones, .ref qg_done, .int g_undos, .ref qg_undone, .ref qg_selves, .ref qg_when, .ref qg_jury, .int g_seens, .ref qg_years, .ref qg_states, .long g_trace, .ref qg_kept])), rI cI qg_text 200 g_text, rI cI qg_read 55 r7.2.2.2.2.2, rI cI qg_life 55 g_life, rI cI qg_done 16 g_done, rI cI qg_undone 130 g_undone, rI cI qg_selves 16 g_selves, rI cI qg_when 27 g_when, rI cI qg_jury 16 g_jury, rI cI qg_years 6 g_years, rI cI qg_states 6 g_states, rI cI qg_kept 290 g_kept] (ctX7_readState l D cI cZ cD cH qg qg_text qg_read qg_life qg_done qg_undone qg_selves qg_when qg_jury qg_years qg_states qg_kept g_size g_at g_begin g_token g_told g_dones g_undos g_seens g_trace g_text g_read g_life g_done g_undone g_selves g_when g_jury g_years g_states g_kept r7 hr7) ml_RX7_107 im_yX7_readState se_yX7_readState in_RX7 cd_yX7_readState rfl rfl hd_yX7_readState ⟨by decide, by decide⟩ ⟨Nat.zero_le _, Nat.zero_le _⟩ [0, 1, 2, 3, 4, 5, 6, 7, 8, 9, 10, 11] [some 0, some 1, some 2, some 3, some 4, some 5, some 6, some 7, some 8, some 9, some 10, some 11] rfl (by decide +kernel) rfl (by decide +kernel) rfl rfl (q0 := 0) rfl rfl rfl hl.1 rfl rfl (Nat.le_of_ble_eq_true rfl) rfl dX7_readItem_111 (fun H locs hP hD hS => ?_)
          replace hf := Option.some.inj hf
          subst hf
          exact hret H locs _ ls dX7_readItem_114 hP hD hS
        · replace hf := ite_f c6 hf
          by_cases c8 : g_told = 116
          · replace hf := ite_t c8 hf
            refine top_eq c8 ?_
            refine lv_lookup (tgt := 115) hx hb dX7_readItem_14 (by decide) rfl (by decide) ?_
            refine lv_aload_n hx hb dX7_readItem_115 rfl (lv_at hl 0 rfl) ?_
            obtain ⟨r9, hr9, hf⟩ := bnd hf
            refine k_callV X hP hD hS [(qg, .inr (7, [.ref qg_text, .int g_size, .int r9.2.1, .int r9.2.2.1, .int r9.2.2.2.1, .int r9.2.2.2.2.1, .ref qg_read, .ref qg_life, .int g_dones, .ref qg_done, .int g_undos, .ref qg_undone, .ref qg_selves, .ref qg_when, .ref qg_jury, .int g_seens, .ref qg_years, .ref qg_states, .long g_trace, .ref qg_kept])), rI cI qg_text 200 g_text, rI cI qg_read 55 r9.2.2.2.2.2, rI cI qg_life 55 g_life, rI cI qg_done 16 g_done, rI cI qg_undone 130 g_undone, rI cI qg_selves 16 g_selves, rI cI qg_when 27 g_when, rI cI qg_jury 16 g_jury, rI cI qg_years 6 g_years, rI cI qg_states 6 g_states, rI cI qg_kept 290 g_kept] (ctX7_readTrial l D cI cZ cD cH qg qg_text qg_read qg_life qg_done qg_undone qg_selves qg_when qg_jury qg_years qg_states qg_kept g_size g_at g_begin g_token g_told g_dones g_undos g_seens g_trace g_text g_read g_life g_done g_undone g_selves g_when g_jury g_years g_states g_kept r9 hr9) ml_RX7_110 im_yX7_readTrial se_yX7_readTrial in_RX7 cd_yX7_readTrial rfl rfl hd_yX7_readTrial ⟨by decide, by decide⟩ ⟨Nat.zero_le _, Nat.zero_le _⟩ [0, 1, 2, 3, 4, 5, 6, 7, 8, 9, 10, 11] [some 0, some 1, some 2, some 3, some 4, some 5, some 6, some 7, some 8, some 9, some 10, some 11] rfl (by decide +kernel) rfl (by decide +kernel) rfl rfl (q0 := 0) rfl rfl rfl hl.1 rfl rfl (Nat.le_of_ble_eq_true rfl) rfl dX7_readItem_116 (fun H locs hP hD hS => ?_)
            replace hf := Option.some.inj hf
            subst hf
            exact hret H locs _ ls dX7_readItem_119 hP hD hS
          · replace hf := ite_f c8 hf
            by_cases c10 : g_told = 121
            · replace hf := ite_t c10 hf
              refine top_eq c10 ?_
              refine lv_lookup (tgt := 64) hx hb dX7_readItem_14 (by decide) rfl (by decide) ?_
              refine lv_aload_n hx hb dX7_readItem_64 rfl (lv_at hl 0 rfl) ?_
              refine k_get X hP 0 rfl rfl inX7 6 (by decide) fl_RX7_13 rfl rfl dX7_readItem_65 ?_
              refine lv_iconst (v := 3) hx hb dX7_readItem_68 (by decide) ?_
              obtain ⟨h11, hf⟩ := ck_t hf
              refine k_iald X hP 2 0 rfl rfl h11 dX7_readItem_69 ?_
              refine lv_if_ne (tgt := 89) hx hb dX7_readItem_70 (by decide) (fun c12 => ?_) (fun c12 => ?_)
              · replace hf := ite_f c12 hf
                refine lv_iconst (v := 0) hx hb dX7_readItem_89 (by decide) ?_
                replace hf := Option.some.inj hf
                subst hf
                exact hret H locs _ ls dX7_readItem_90 hP hD hS
              · replace hf := ite_t c12 hf
                refine lv_aload_n hx hb dX7_readItem_73 rfl (lv_at hl 0 rfl) ?_
                refine lv_iconst (v := 1) hx hb dX7_readItem_74 (by decide) ?_
                refine lv_iconst (v := 0) hx hb dX7_readItem_75 (by decide) ?_
                refine lv_iconst (v := 2) hx hb dX7_readItem_76 (by decide) ?_
                refine lv_bipush (v := 16) hx hb dX7_readItem_77 (by decide) ?_
                obtain ⟨r13, hr13, hf⟩ := bnd hf
                refine k_callV X hP hD hS [(qg, .inr (7, [.ref qg_text, .int g_size, .int r13.2.1, .int r13.2.2.1, .int r13.2.2.2.1, .int r13.2.2.2.2.1, .ref qg_read, .ref qg_life, .int g_dones, .ref qg_done, .int g_undos, .ref qg_undone, .ref qg_selves, .ref qg_when, .ref qg_jury, .int g_seens, .ref qg_years, .ref qg_states, .long g_trace, .ref qg_kept])), rI cI qg_text 200 g_text, rI cI qg_read 55 r13.2.2.2.2.2, rI cI qg_life 55 g_life, rI cI qg_done 16 g_done, rI cI qg_undone 130 g_undone, rI cI qg_selves 16 g_selves, rI cI qg_when 27 g_when, rI cI qg_jury 16 g_jury, rI cI qg_years 6 g_years, rI cI qg_states 6 g_states, rI cI qg_kept 290 g_kept] (ctX7_once l D cI cZ cD cH qg qg_text qg_read qg_life qg_done qg_undone qg_selves qg_when qg_jury qg_years qg_states qg_kept 1 0 2 16 g_size g_at g_begin g_token g_told g_dones g_undos g_seens g_trace g_text g_read g_life g_done g_undone g_selves g_when g_jury g_years g_states g_kept r13 hr13) ml_RX7_103 im_yX7_once se_yX7_once in_RX7 cd_yX7_once rfl rfl hd_yX7_once ⟨by decide, by decide⟩ ⟨Nat.zero_le _, Nat.zero_le _⟩ [0, 1, 2, 3, 4, 5, 6, 7, 8, 9, 10, 11] [some 0, some 1, some 2, some 3, some 4, some 5, some 6, some 7, some 8, some 9, some 10, some 11] rfl (by decide +kernel) rfl (by decide +kernel) rfl rfl (q0 := 0) rfl rfl rfl hl.1 rfl rfl (Nat.le_of_ble_eq_true rfl) rfl dX7_readItem_79 (fun H locs hP hD hS => ?_)
                refine lv_if_eq (tgt := 89) hx hb dX7_readItem_82 (by decide) (fun c14 => ?_) (fun c14 => ?_)
                · replace hf := ite_t c14 hf
                  refine lv_iconst (v := 0) hx hb dX7_readItem_89 (by decide) ?_
                  replace hf := Option.some.inj hf
                  subst hf
                  exact hret H locs _ ls dX7_readItem_90 hP hD hS
                · replace hf := ite_f c14 hf
                  refine lv_iconst (v := 1) hx hb dX7_readItem_85 (by decide) ?_
                  refine lv_goto (tgt := 90) hx hb dX7_readItem_86 (by decide) ?_
                  replace hf := Option.some.inj hf
                  subst hf
                  exact hret H locs _ ls dX7_readItem_90 hP hD hS
            · replace hf := ite_f c10 hf
              have zc2 := i32_ne (k := 98) rfl c2
              have zc4 := i32_ne (k := 113) rfl c4
              have zc6 := i32_ne (k := 115) rfl c6
              have zc8 := i32_ne (k := 116) rfl c8
              have zc10 := i32_ne (k := 121) rfl c10
              refine lv_lookup (tgt := 120) (off := 106) hx hb dX7_readItem_14 (by decide) (by simp [Op.lookupswitch.offset, List.find?, zc2, (Ne.symm zc2), zc4, (Ne.symm zc4), zc6, (Ne.symm zc6), zc8, (Ne.symm zc8), zc10, (Ne.symm zc10)]) (by decide) ?_
              refine lv_aload_n hx hb dX7_readItem_120 rfl (lv_at hl 0 rfl) ?_
              obtain ⟨r15, hr15, hf⟩ := bnd hf
              refine k_callV X hP hD hS [(qg, .inr (7, [.ref qg_text, .int g_size, .int r15.2.1, .int r15.2.2.1, .int r15.2.2.2.1, .int r15.2.2.2.2.1, .ref qg_read, .ref qg_life, .int g_dones, .ref qg_done, .int g_undos, .ref qg_undone, .ref qg_selves, .ref qg_when, .ref qg_jury, .int g_seens, .ref qg_years, .ref qg_states, .long g_trace, .ref qg_kept])), rI cI qg_text 200 g_text, rI cI qg_read 55 r15.2.2.2.2.2, rI cI qg_life 55 g_life, rI cI qg_done 16 g_done, rI cI qg_undone 130 g_undone, rI cI qg_selves 16 g_selves, rI cI qg_when 27 g_when, rI cI qg_jury 16 g_jury, rI cI qg_years 6 g_years, rI cI qg_states 6 g_states, rI cI qg_kept 290 g_kept] (ctX7_readDeed l D cI cZ cD cH qg qg_text qg_read qg_life qg_done qg_undone qg_selves qg_when qg_jury qg_years qg_states qg_kept g_size g_at g_begin g_token g_told g_dones g_undos g_seens g_trace g_text g_read g_life g_done g_undone g_selves g_when g_jury g_years g_states g_kept r15 hr15) ml_RX7_113 im_yX7_readDeed se_yX7_readDeed in_RX7 cd_yX7_readDeed rfl rfl hd_yX7_readDeed ⟨by decide, by decide⟩ ⟨Nat.zero_le _, Nat.zero_le _⟩ [0, 1, 2, 3, 4, 5, 6, 7, 8, 9, 10, 11] [some 0, some 1, some 2, some 3, some 4, some 5, some 6, some 7, some 8, some 9, some 10, some 11] rfl (by decide +kernel) rfl (by decide +kernel) rfl rfl (q0 := 0) rfl rfl rfl hl.1 rfl rfl (Nat.le_of_ble_eq_true rfl) rfl dX7_readItem_121 (fun H locs hP hD hS => ?_)
              replace hf := Option.some.inj hf
              subst hf
              exact hret H locs _ ls dX7_readItem_124 hP hD hS
  · replace hf := ite_f c1 hf
    refine lv_iconst (v := 0) hx hb dX7_readItem_8 (by decide) ?_
    replace hf := Option.some.inj hf
    subst hf
    exact hret H locs _ ls dX7_readItem_9 hP hD hS

def sX7_takesIt_2 (g_read : Nat → Int32) (v1 : Int32) (g_life : Nat → Int32) : Option ((Int32 × (Nat → Int32)) ⊕ (((Nat → Int32)))) :=
  if 55 ≤ v1 then some (.inr g_life) else if inb v1 55 = true then if inb v1 55 = true then some (.inl (v1 + 1, upd g_life v1.toNatClampNeg (g_read v1.toNatClampNeg))) else none else none
def fX7_takesIt (g_read : Nat → Int32) (g_life : Nat → Int32) (g_kept : Nat → Int32) : Option (Int32 × Int32 × Int32 × (Nat → Int32) × (Nat → Int32)) :=
  (lpd (fun s1 => sX7_takesIt_2 g_read s1.1 s1.2) FU (0, g_life)).bind (fun (y1_0 : (Nat → Int32)) => if inb 0 290 = true then if inb 145 290 = true then some (0, 0, 0, y1_0, upd (upd g_kept (0 : Int32).toNatClampNeg 0) (145 : Int32).toNatClampNeg 0) else none else none)
set_option maxHeartbeats 4000000 in
set_option maxRecDepth 100000 in
theorem ctX7_takesIt (l : Launch) (D : va_G) (cI cZ cD cH : ClassId) (qg : Nat) (qg_text : Nat) (qg_read : Nat) (qg_life : Nat) (qg_done : Nat) (qg_undone : Nat) (qg_selves : Nat) (qg_when : Nat) (qg_jury : Nat) (qg_years : Nat) (qg_states : Nat) (qg_kept : Nat) (g_size : Int32) (g_at : Int32) (g_begin : Int32) (g_token : Int32) (g_told : Int32) (g_dones : Int32) (g_undos : Int32) (g_seens : Int32) (g_trace : Int64) (g_text : Nat → Int32) (g_read : Nat → Int32) (g_life : Nat → Int32) (g_done : Nat → Int32) (g_undone : Nat → Int32) (g_selves : Nat → Int32) (g_when : Nat → Int32) (g_jury : Nat → Int32) (g_years : Nat → Int32) (g_states : Nat → Int32) (g_kept : Nat → Int32) (o : Int32 × Int32 × Int32 × (Nat → Int32) × (Nat → Int32)) (hf : fX7_takesIt g_read g_life g_kept = some o) : Ct l yX7_takesIt cX7_takesIt 2 none { frames := 0, cells := 0, slots := 0, locals := 0 } D (Tys cI cZ cD cH) [.ref qg] [(qg, .inr (7, [.ref qg_text, .int g_size, .int g_at, .int g_begin, .int g_token, .int g_told, .ref qg_read, .ref qg_life, .int g_dones, .ref qg_done, .int g_undos, .ref qg_undone, .ref qg_selves, .ref qg_when, .ref qg_jury, .int g_seens, .ref qg_years, .ref qg_states, .long g_trace, .ref qg_kept])), rI cI qg_text 200 g_text, rI cI qg_read 55 g_read, rI cI qg_life 55 g_life, rI cI qg_done 16 g_done, rI cI qg_undone 130 g_undone, rI cI qg_selves 16 g_selves, rI cI qg_when 27 g_when, rI cI qg_jury 16 g_jury, rI cI qg_years 6 g_years, rI cI qg_states 6 g_states, rI cI qg_kept 290 g_kept] [(qg, .inr (7, [.ref qg_text, .int g_size, .int g_at, .int g_begin, .int g_token, .int g_told, .ref qg_read, .ref qg_life, .int o.1, .ref qg_done, .int o.2.1, .ref qg_undone, .ref qg_selves, .ref qg_when, .ref qg_jury, .int o.2.2.1, .ref qg_years, .ref qg_states, .long g_trace, .ref qg_kept])), rI cI qg_text 200 g_text, rI cI qg_read 55 g_read, rI cI qg_life 55 o.2.2.2.1, rI cI qg_done 16 g_done, rI cI qg_undone 130 g_undone, rI cI qg_selves 16 g_selves, rI cI qg_when 27 g_when, rI cI qg_jury 16 g_jury, rI cI qg_years 6 g_years, rI cI qg_states 6 g_states, rI cI qg_kept 290 o.2.2.2.2] none 0 0 := by
  refine mkV (by decide) (Nat.le_of_ble_eq_true rfl) ?_
  intro p e s m args below meth c A Q X hnm hret ls hl H locs hP hD hS
  replace X : Cx p s m args c D (Tys cI cZ cD cH) A cX7_takesIt RX7 2 := X
  obtain ⟨hx, hb, hml, hown, hts, hK, hZ, hA⟩ := id X
  have hl : lv_has ls 2 [(0, .ref qg)] := hl
  unfold fX7_takesIt at hf
  refine lv_iconst (v := 0) hx hb dX7_takesIt_0 (by decide) ?_
  refine lv_istore_n (lv' := [(1, .int 0), (0, .ref qg)]) hx hb dX7_takesIt_1 rfl hl (by decide) rfl (fun ls hl => ?_)
  obtain ⟨e1, he1, hf⟩ := bnd hf
  have hx1_0 : ∀ (y1_0 : (Nat → Int32)), y1_0 = e1 → ∀ (H : Heap) (locs : List Loc) (ls : Array Slot), va_P D vwCl [(qg, .inr (7, [.ref qg_text, .int g_size, .int g_at, .int g_begin, .int g_token, .int g_told, .ref qg_read, .ref qg_life, .int g_dones, .ref qg_done, .int g_undos, .ref qg_undone, .ref qg_selves, .ref qg_when, .ref qg_jury, .int g_seens, .ref qg_years, .ref qg_states, .long g_trace, .ref qg_kept])), rI cI qg_text 200 g_text, rI cI qg_read 55 g_read, rI cI qg_life 55 y1_0, rI cI qg_done 16 g_done, rI cI qg_undone 130 g_undone, rI cI qg_selves 16 g_selves, rI cI qg_when 27 g_when, rI cI qg_jury 16 g_jury, rI cI qg_years 6 g_years, rI cI qg_states 6 g_states, rI cI qg_kept 290 g_kept] H → va_D A [(qg, .inr (7, [.ref qg_text, .int g_size, .int g_at, .int g_begin, .int g_token, .int g_told, .ref qg_read, .ref qg_life, .int g_dones, .ref qg_done, .int g_undos, .ref qg_undone, .ref qg_selves, .ref qg_when, .ref qg_jury, .int g_seens, .ref qg_years, .ref qg_states, .long g_trace, .ref qg_kept])), rI cI qg_text 200 g_text, rI cI qg_read 55 g_read, rI cI qg_life 55 y1_0, rI cI qg_done 16 g_done, rI cI qg_undone 130 g_undone, rI cI qg_selves 16 g_selves, rI cI qg_when 27 g_when, rI cI qg_jury 16 g_jury, rI cI qg_years 6 g_years, rI cI qg_states 6 g_states, rI cI qg_kept 290 g_kept] → va_S A s.heap H locs → lv_has ls 2 [(0, .ref qg)] → W p l e ({ frames := 0, cells := 0, slots := 0, locals := 0 } : Room) s m args below meth c H locs 0 0 Q (F0 m 26 ls []) := by
    intro y1_0 heq H locs ls hP hD hS hl
    subst heq
    refine lv_aload_n hx hb dX7_takesIt_26 rfl (lv_at hl 0 rfl) ?_
    refine lv_iconst (v := 0) hx hb dX7_takesIt_27 (by decide) ?_
    refine k_put X hP hD hS [(qg, .inr (7, [.ref qg_text, .int g_size, .int g_at, .int g_begin, .int g_token, .int g_told, .ref qg_read, .ref qg_life, .int 0, .ref qg_done, .int g_undos, .ref qg_undone, .ref qg_selves, .ref qg_when, .ref qg_jury, .int g_seens, .ref qg_years, .ref qg_states, .long g_trace, .ref qg_kept])), rI cI qg_text 200 g_text, rI cI qg_read 55 g_read, rI cI qg_life 55 y1_0, rI cI qg_done 16 g_done, rI cI qg_undone 130 g_undone, rI cI qg_selves 16 g_selves, rI cI qg_when 27 g_when, rI cI qg_jury 16 g_jury, rI cI qg_years 6 g_years, rI cI qg_states 6 g_states, rI cI qg_kept 290 g_kept] 0 rfl rfl inX7 tyX7_ok nmX7 8 (by decide) fl_RX7_119 rfl rfl rfl rfl (Nat.le_of_ble_eq_true rfl) rfl dX7_takesIt_28 (fun H locs hP hD hS => ?_)
    refine lv_aload_n hx hb dX7_takesIt_31 rfl (lv_at hl 0 rfl) ?_
    refine lv_iconst (v := 0) hx hb dX7_takesIt_32 (by decide) ?_
    refine k_put X hP hD hS [(qg, .inr (7, [.ref qg_text, .int g_size, .int g_at, .int g_begin, .int g_token, .int g_told, .ref qg_read, .ref qg_life, .int 0, .ref qg_done, .int 0, .ref qg_undone, .ref qg_selves, .ref qg_when, .ref qg_jury, .int g_seens, .ref qg_years, .ref qg_states, .long g_trace, .ref qg_kept])), rI cI qg_text 200 g_text, rI cI qg_read 55 g_read, rI cI qg_life 55 y1_0, rI cI qg_done 16 g_done, rI cI qg_undone 130 g_undone, rI cI qg_selves 16 g_selves, rI cI qg_when 27 g_when, rI cI qg_jury 16 g_jury, rI cI qg_years 6 g_years, rI cI qg_states 6 g_states, rI cI qg_kept 290 g_kept] 0 rfl rfl inX7 tyX7_ok nmX7 10 (by decide) fl_RX7_122 rfl rfl rfl rfl (Nat.le_of_ble_eq_true rfl) rfl dX7_takesIt_33 (fun H locs hP hD hS => ?_)
    refine lv_aload_n hx hb dX7_takesIt_36 rfl (lv_at hl 0 rfl) ?_
    refine lv_iconst (v := 0) hx hb dX7_takesIt_37 (by decide) ?_
    refine k_put X hP hD hS [(qg, .inr (7, [.ref qg_text, .int g_size, .int g_at, .int g_begin, .int g_token, .int g_told, .ref qg_read, .ref qg_life, .int 0, .ref qg_done, .int 0, .ref qg_undone, .ref qg_selves, .ref qg_when, .ref qg_jury, .int 0, .ref qg_years, .ref qg_states, .long g_trace, .ref qg_kept])), rI cI qg_text 200 g_text, rI cI qg_read 55 g_read, rI cI qg_life 55 y1_0, rI cI qg_done 16 g_done, rI cI qg_undone 130 g_undone, rI cI qg_selves 16 g_selves, rI cI qg_when 27 g_when, rI cI qg_jury 16 g_jury, rI cI qg_years 6 g_years, rI cI qg_states 6 g_states, rI cI qg_kept 290 g_kept] 0 rfl rfl inX7 tyX7_ok nmX7 15 (by decide) fl_RX7_125 rfl rfl rfl rfl (Nat.le_of_ble_eq_true rfl) rfl dX7_takesIt_38 (fun H locs hP hD hS => ?_)
    refine lv_aload_n hx hb dX7_takesIt_41 rfl (lv_at hl 0 rfl) ?_
    refine k_get X hP 0 rfl rfl inX7 19 (by decide) fl_RX7_40 rfl rfl dX7_takesIt_42 ?_
    refine lv_iconst (v := 0) hx hb dX7_takesIt_45 (by decide) ?_
    refine lv_iconst (v := 0) hx hb dX7_takesIt_46 (by decide) ?_
    obtain ⟨h2, hf⟩ := ck_t hf
    refine k_iast X hP hD hS [(qg, .inr (7, [.ref qg_text, .int g_size, .int g_at, .int g_begin, .int g_token, .int g_told, .ref qg_read, .ref qg_life, .int 0, .ref qg_done, .int 0, .ref qg_undone, .ref qg_selves, .ref qg_when, .ref qg_jury, .int 0, .ref qg_years, .ref qg_states, .long g_trace, .ref qg_kept])), rI cI qg_text 200 g_text, rI cI qg_read 55 g_read, rI cI qg_life 55 y1_0, rI cI qg_done 16 g_done, rI cI qg_undone 130 g_undone, rI cI qg_selves 16 g_selves, rI cI qg_when 27 g_when, rI cI qg_jury 16 g_jury, rI cI qg_years 6 g_years, rI cI qg_states 6 g_states, rI cI qg_kept 290 (upd g_kept (0 : Int32).toNatClampNeg 0)] 11 0 rfl rfl h2 rfl dX7_takesIt_47 (fun H locs hP hD hS => ?_)
    refine lv_aload_n hx hb dX7_takesIt_48 rfl (lv_at hl 0 rfl) ?_
    refine k_get X hP 0 rfl rfl inX7 19 (by decide) fl_RX7_40 rfl rfl dX7_takesIt_49 ?_
    refine lv_sipush (v := 145) hx hb dX7_takesIt_52 (by decide) ?_
    refine lv_iconst (v := 0) hx hb dX7_takesIt_55 (by decide) ?_
    obtain ⟨h3, hf⟩ := ck_t hf
    refine k_iast X hP hD hS [(qg, .inr (7, [.ref qg_text, .int g_size, .int g_at, .int g_begin, .int g_token, .int g_told, .ref qg_read, .ref qg_life, .int 0, .ref qg_done, .int 0, .ref qg_undone, .ref qg_selves, .ref qg_when, .ref qg_jury, .int 0, .ref qg_years, .ref qg_states, .long g_trace, .ref qg_kept])), rI cI qg_text 200 g_text, rI cI qg_read 55 g_read, rI cI qg_life 55 y1_0, rI cI qg_done 16 g_done, rI cI qg_undone 130 g_undone, rI cI qg_selves 16 g_selves, rI cI qg_when 27 g_when, rI cI qg_jury 16 g_jury, rI cI qg_years 6 g_years, rI cI qg_states 6 g_states, rI cI qg_kept 290 (upd (upd g_kept (0 : Int32).toNatClampNeg 0) (145 : Int32).toNatClampNeg 0)] 11 0 rfl rfl h3 rfl dX7_takesIt_56 (fun H locs hP hD hS => ?_)
    replace hf := Option.some.inj hf
    subst hf
    exact hret H locs _ ls dX7_takesIt_57 hP hD hS
  refine lpd_ind (P := fun s1 => ∀ (H : Heap) (locs : List Loc) (ls : Array Slot), va_P D vwCl [(qg, .inr (7, [.ref qg_text, .int g_size, .int g_at, .int g_begin, .int g_token, .int g_told, .ref qg_read, .ref qg_life, .int g_dones, .ref qg_done, .int g_undos, .ref qg_undone, .ref qg_selves, .ref qg_when, .ref qg_jury, .int g_seens, .ref qg_years, .ref qg_states, .long g_trace, .ref qg_kept])), rI cI qg_text 200 g_text, rI cI qg_read 55 g_read, rI cI qg_life 55 s1.2, rI cI qg_done 16 g_done, rI cI qg_undone 130 g_undone, rI cI qg_selves 16 g_selves, rI cI qg_when 27 g_when, rI cI qg_jury 16 g_jury, rI cI qg_years 6 g_years, rI cI qg_states 6 g_states, rI cI qg_kept 290 g_kept] H → va_D A [(qg, .inr (7, [.ref qg_text, .int g_size, .int g_at, .int g_begin, .int g_token, .int g_told, .ref qg_read, .ref qg_life, .int g_dones, .ref qg_done, .int g_undos, .ref qg_undone, .ref qg_selves, .ref qg_when, .ref qg_jury, .int g_seens, .ref qg_years, .ref qg_states, .long g_trace, .ref qg_kept])), rI cI qg_text 200 g_text, rI cI qg_read 55 g_read, rI cI qg_life 55 s1.2, rI cI qg_done 16 g_done, rI cI qg_undone 130 g_undone, rI cI qg_selves 16 g_selves, rI cI qg_when 27 g_when, rI cI qg_jury 16 g_jury, rI cI qg_years 6 g_years, rI cI qg_states 6 g_states, rI cI qg_kept 290 g_kept] → va_S A s.heap H locs → lv_has ls 2 [(0, .ref qg), (1, .int s1.1)] → W p l e ({ frames := 0, cells := 0, slots := 0, locals := 0 } : Room) s m args below meth c H locs 0 0 Q (F0 m 2 ls [])) e1 ?_ _ _ he1 H locs ls hP hD hS (lv_sub hl [1, 0] rfl)
  intro s1 r1 hf ih1 hq1 H locs ls hP hD hS hl
  unfold sX7_takesIt_2 at hf
  refine lv_iload_n hx hb dX7_takesIt_2 rfl (lv_at hl 1 rfl) ?_
  refine lv_bipush (v := 55) hx hb dX7_takesIt_3 (by decide) ?_
  refine lv_icmp_ge (tgt := 26) hx hb dX7_takesIt_5 (by decide) (fun c4 => ?_) (fun c4 => ?_)
  · replace hf := ite_t c4 hf
    exact hx1_0 _ (hq1 _ (Option.some.inj hf).symm) H locs ls hP hD hS (lv_sub hl [0] rfl)
  · replace hf := ite_f c4 hf
    refine lv_aload_n hx hb dX7_takesIt_8 rfl (lv_at hl 0 rfl) ?_
    refine k_get X hP 0 rfl rfl inX7 7 (by decide) fl_RX7_16 rfl rfl dX7_takesIt_9 ?_
    refine lv_iload_n hx hb dX7_takesIt_12 rfl (lv_at hl 1 rfl) ?_
    refine lv_aload_n hx hb dX7_takesIt_13 rfl (lv_at hl 0 rfl) ?_
    refine k_get X hP 0 rfl rfl inX7 6 (by decide) fl_RX7_13 rfl rfl dX7_takesIt_14 ?_
    refine lv_iload_n hx hb dX7_takesIt_17 rfl (lv_at hl 1 rfl) ?_
    obtain ⟨h5, hf⟩ := ck_t hf
    refine k_iald X hP 2 0 rfl rfl h5 dX7_takesIt_18 ?_
    obtain ⟨h6, hf⟩ := ck_t hf
    refine k_iast X hP hD hS [(qg, .inr (7, [.ref qg_text, .int g_size, .int g_at, .int g_begin, .int g_token, .int g_told, .ref qg_read, .ref qg_life, .int g_dones, .ref qg_done, .int g_undos, .ref qg_undone, .ref qg_selves, .ref qg_when, .ref qg_jury, .int g_seens, .ref qg_years, .ref qg_states, .long g_trace, .ref qg_kept])), rI cI qg_text 200 g_text, rI cI qg_read 55 g_read, rI cI qg_life 55 (upd s1.2 s1.1.toNatClampNeg (g_read s1.1.toNatClampNeg)), rI cI qg_done 16 g_done, rI cI qg_undone 130 g_undone, rI cI qg_selves 16 g_selves, rI cI qg_when 27 g_when, rI cI qg_jury 16 g_jury, rI cI qg_years 6 g_years, rI cI qg_states 6 g_states, rI cI qg_kept 290 g_kept] 3 0 rfl rfl h6 rfl dX7_takesIt_19 (fun H locs hP hD hS => ?_)
    refine lv_iinc (v := s1.1 + 1) (lv' := [(1, .int (s1.1 + 1)), (0, .ref qg)]) hx hb dX7_takesIt_20 hl (k := 1) rfl rfl (by decide) rfl (fun ls hl => ?_)
    refine lv_goto (tgt := 2) hx hb dX7_takesIt_23 (by decide) ?_
    exact ih1 _ (Option.some.inj hf).symm H locs ls hP hD hS (lv_sub hl [1, 0] rfl)

def sX7_court_15 (g_size : Int32) (g_text : Nat → Int32) (v1 : Int32) (g_at : Int32) (g_begin : Int32) (g_token : Int32) (g_told : Int32) (g_read : Nat → Int32) : Option ((Int32 × Int32 × Int32 × Int32 × Int32 × (Nat → Int32)) ⊕ ((Int32 × Int32 × Int32 × Int32 × (Nat → Int32)) ⊕ (Int32 × Int32 × Int32 × Int32 × Int32 × (Nat → Int32)))) :=
  if g_token = 0 then some (.inr (Sum.inr (v1, g_at, g_begin, g_token, g_told, g_read))) else (fX7_readItem g_size g_at g_begin g_token g_told g_text g_read).bind (fun r5 => if (bI r5.1) = 0 then some (.inr (Sum.inl (r5.2.1, r5.2.2.1, r5.2.2.2.1, r5.2.2.2.2.1, r5.2.2.2.2.2))) else (fX7_reads g_size r5.2.1 r5.2.2.2.2.1 g_text).bind (fun r7 => some (.inl (v1 + 1, r7.1, r7.2.1, r7.2.2.1, r7.2.2.2, r5.2.2.2.2.2))))
def fX7_court (g_size : Int32) (g_told : Int32) (g_dones : Int32) (g_undos : Int32) (g_seens : Int32) (g_text : Nat → Int32) (g_read : Nat → Int32) (g_life : Nat → Int32) (g_kept : Nat → Int32) : Option (Int32 × Int32 × Int32 × Int32 × Int32 × Int32 × Int32 × Int32 × Int32 × (Nat → Int32) × (Nat → Int32) × (Nat → Int32)) :=
  (fX7_plain g_read).bind (fun r1 => (fX7_reads g_size 0 g_told g_text).bind (fun r2 => (lpd (fun s3 => sX7_court_15 g_size g_text s3.1 s3.2.1 s3.2.2.1 s3.2.2.2.1 s3.2.2.2.2.1 s3.2.2.2.2.2) FU (0, r2.1, r2.2.1, r2.2.2.1, r2.2.2.2, r1)).bind (Sum.elim (fun (y3_0 : Int32 × Int32 × Int32 × Int32 × (Nat → Int32)) => some ((-10) - y3_0.2.1, g_size, y3_0.1, y3_0.2.1, y3_0.2.2.1, y3_0.2.2.2.1, g_dones, g_undos, g_seens, y3_0.2.2.2.2, g_life, g_kept)) (fun (y3_1 : Int32 × Int32 × Int32 × Int32 × Int32 × (Nat → Int32)) => (fX7_takesIt y3_1.2.2.2.2.2 g_life g_kept).bind (fun r4 => some (y3_1.1, 0, y3_1.2.1, y3_1.2.2.1, y3_1.2.2.2.1, y3_1.2.2.2.2.1, r4.1, r4.2.1, r4.2.2.1, y3_1.2.2.2.2.2, r4.2.2.2.1, r4.2.2.2.2))))))
set_option maxHeartbeats 4000000 in
set_option maxRecDepth 100000 in
theorem ctX7_court (l : Launch) (D : va_G) (cI cZ cD cH : ClassId) (qg : Nat) (qg_text : Nat) (qg_read : Nat) (qg_life : Nat) (qg_done : Nat) (qg_undone : Nat) (qg_selves : Nat) (qg_when : Nat) (qg_jury : Nat) (qg_years : Nat) (qg_states : Nat) (qg_kept : Nat) (g_size : Int32) (g_at : Int32) (g_begin : Int32) (g_token : Int32) (g_told : Int32) (g_dones : Int32) (g_undos : Int32) (g_seens : Int32) (g_trace : Int64) (g_text : Nat → Int32) (g_read : Nat → Int32) (g_life : Nat → Int32) (g_done : Nat → Int32) (g_undone : Nat → Int32) (g_selves : Nat → Int32) (g_when : Nat → Int32) (g_jury : Nat → Int32) (g_years : Nat → Int32) (g_states : Nat → Int32) (g_kept : Nat → Int32) (o : Int32 × Int32 × Int32 × Int32 × Int32 × Int32 × Int32 × Int32 × Int32 × (Nat → Int32) × (Nat → Int32) × (Nat → Int32)) (hf : fX7_court g_size g_told g_dones g_undos g_seens g_text g_read g_life g_kept = some o) : Ct l yX7_court cX7_court 2 (some .int) { frames := 7, cells := 0, slots := 0, locals := 152 } D (Tys cI cZ cD cH) [.ref qg] [(qg, .inr (7, [.ref qg_text, .int g_size, .int g_at, .int g_begin, .int g_token, .int g_told, .ref qg_read, .ref qg_life, .int g_dones, .ref qg_done, .int g_undos, .ref qg_undone, .ref qg_selves, .ref qg_when, .ref qg_jury, .int g_seens, .ref qg_years, .ref qg_states, .long g_trace, .ref qg_kept])), rI cI qg_text 200 g_text, rI cI qg_read 55 g_read, rI cI qg_life 55 g_life, rI cI qg_done 16 g_done, rI cI qg_undone 130 g_undone, rI cI qg_selves 16 g_selves, rI cI qg_when 27 g_when, rI cI qg_jury 16 g_jury, rI cI qg_years 6 g_years, rI cI qg_states 6 g_states, rI cI qg_kept 290 g_kept] [(qg, .inr (7, [.ref qg_text, .int o.2.1, .int o.2.2.1, .int o.2.2.2.1, .int o.2.2.2.2.1, .int o.2.2.2.2.2.1, .ref qg_read, .ref qg_life, .int o.2.2.2.2.2.2.1, .ref qg_done, .int o.2.2.2.2.2.2.2.1, .ref qg_undone, .ref qg_selves, .ref qg_when, .ref qg_jury, .int o.2.2.2.2.2.2.2.2.1, .ref qg_years, .ref qg_states, .long g_trace, .ref qg_kept])), rI cI qg_text 200 g_text, rI cI qg_read 55 o.2.2.2.2.2.2.2.2.2.1, rI cI qg_life 55 o.2.2.2.2.2.2.2.2.2.2.1, rI cI qg_done 16 g_done, rI cI qg_undone 130 g_undone, rI cI qg_selves 16 g_selves, rI cI qg_when 27 g_when, rI cI qg_jury 16 g_jury, rI cI qg_years 6 g_years, rI cI qg_states 6 g_states, rI cI qg_kept 290 o.2.2.2.2.2.2.2.2.2.2.2] (some (.int o.1)) 0 0 := by
  refine mkI (by decide) (Nat.le_of_ble_eq_true rfl) ?_
  intro p e s m args below meth c A Q X hret ls hl H locs hP hD hS
  replace X : Cx p s m args c D (Tys cI cZ cD cH) A cX7_court RX7 2 := X
  obtain ⟨hx, hb, hml, hown, hts, hK, hZ, hA⟩ := id X
  have hl : lv_has ls 2 [(0, .ref qg)] := hl
  unfold fX7_court at hf
  refine lv_aload_n hx hb dX7_court_0 rfl (lv_at hl 0 rfl) ?_
  obtain ⟨r1, hr1, hf⟩ := bnd hf
  refine k_callV X hP hD hS [(qg, .inr (7, [.ref qg_text, .int g_size, .int g_at, .int g_begin, .int g_token, .int g_told, .ref qg_read, .ref qg_life, .int g_dones, .ref qg_done, .int g_undos, .ref qg_undone, .ref qg_selves, .ref qg_when, .ref qg_jury, .int g_seens, .ref qg_years, .ref qg_states, .long g_trace, .ref qg_kept])), rI cI qg_text 200 g_text, rI cI qg_read 55 r1, rI cI qg_life 55 g_life, rI cI qg_done 16 g_done, rI cI qg_undone 130 g_undone, rI cI qg_selves 16 g_selves, rI cI qg_when 27 g_when, rI cI qg_jury 16 g_jury, rI cI qg_years 6 g_years, rI cI qg_states 6 g_states, rI cI qg_kept 290 g_kept] (ctX7_plain l D cI cZ cD cH qg qg_text qg_read qg_life qg_done qg_undone qg_selves qg_when qg_jury qg_years qg_states qg_kept g_size g_at g_begin g_token g_told g_dones g_undos g_seens g_trace g_text g_read g_life g_done g_undone g_selves g_when g_jury g_years g_states g_kept r1 hr1) ml_RX7_43 im_yX7_plain se_yX7_plain in_RX7 cd_yX7_plain rfl rfl hd_yX7_plain ⟨by decide, by decide⟩ ⟨Nat.zero_le _, Nat.zero_le _⟩ [0, 1, 2, 3, 4, 5, 6, 7, 8, 9, 10, 11] [some 0, some 1, some 2, some 3, some 4, some 5, some 6, some 7, some 8, some 9, some 10, some 11] rfl (by decide +kernel) rfl (by decide +kernel) rfl rfl (q0 := 0) rfl rfl rfl hl.1 rfl rfl (Nat.le_of_ble_eq_true rfl) rfl dX7_court_1 (fun H locs hP hD hS => ?_)
  refine lv_aload_n hx hb dX7_court_4 rfl (lv_at hl 0 rfl) ?_
  refine lv_iconst (v := 0) hx hb dX7_court_5 (by decide) ?_
  refine k_put X hP hD hS [(qg, .inr (7, [.ref qg_text, .int g_size, .int 0, .int g_begin, .int g_token, .int g_told, .ref qg_read, .ref qg_life, .int g_dones, .ref qg_done, .int g_undos, .ref qg_undone, .ref qg_selves, .ref qg_when, .ref qg_jury, .int g_seens, .ref qg_years, .ref qg_states, .long g_trace, .ref qg_kept])), rI cI qg_text 200 g_text, rI cI qg_read 55 r1, rI cI qg_life 55 g_life, rI cI qg_done 16 g_done, rI cI qg_undone 130 g_undone, rI cI qg_selves 16 g_selves, rI cI qg_when 27 g_when, rI cI qg_jury 16 g_jury, rI cI qg_years 6 g_years, rI cI qg_states 6 g_states, rI cI qg_kept 290 g_kept] 0 rfl rfl inX7 tyX7_ok nmX7 2 (by decide) fl_RX7_67 rfl rfl rfl rfl (Nat.le_of_ble_eq_true rfl) rfl dX7_court_6 (fun H locs hP hD hS => ?_)
  refine lv_iconst (v := 0) hx hb dX7_court_9 (by decide) ?_
  refine lv_istore_n (lv' := [(1, .int 0), (0, .ref qg)]) hx hb dX7_court_10 rfl hl (by decide) rfl (fun ls hl => ?_)
  refine lv_aload_n hx hb dX7_court_11 rfl (lv_at hl 1 rfl) ?_
  obtain ⟨r2, hr2, hf⟩ := bnd hf
  refine k_callV X hP hD hS [(qg, .inr (7, [.ref qg_text, .int g_size, .int r2.1, .int r2.2.1, .int r2.2.2.1, .int r2.2.2.2, .ref qg_read, .ref qg_life, .int g_dones, .ref qg_done, .int g_undos, .ref qg_undone, .ref qg_selves, .ref qg_when, .ref qg_jury, .int g_seens, .ref qg_years, .ref qg_states, .long g_trace, .ref qg_kept])), rI cI qg_text 200 g_text, rI cI qg_read 55 r1, rI cI qg_life 55 g_life, rI cI qg_done 16 g_done, rI cI qg_undone 130 g_undone, rI cI qg_selves 16 g_selves, rI cI qg_when 27 g_when, rI cI qg_jury 16 g_jury, rI cI qg_years 6 g_years, rI cI qg_states 6 g_states, rI cI qg_kept 290 g_kept] (ctX7_reads l D cI cZ cD cH qg qg_text qg_read qg_life qg_done qg_undone qg_selves qg_when qg_jury qg_years qg_states qg_kept g_size 0 g_begin g_token g_told g_dones g_undos g_seens g_trace g_text r1 g_life g_done g_undone g_selves g_when g_jury g_years g_states g_kept r2 hr2) ml_RX7_92 im_yX7_reads se_yX7_reads in_RX7 cd_yX7_reads rfl rfl hd_yX7_reads ⟨by decide, by decide⟩ ⟨Nat.zero_le _, Nat.zero_le _⟩ [0, 1, 2, 3, 4, 5, 6, 7, 8, 9, 10, 11] [some 0, some 1, some 2, some 3, some 4, some 5, some 6, some 7, some 8, some 9, some 10, some 11] rfl (by decide +kernel) rfl (by decide +kernel) rfl rfl (q0 := 0) rfl rfl rfl hl.1 rfl rfl (Nat.le_of_ble_eq_true rfl) rfl dX7_court_12 (fun H locs hP hD hS => ?_)
  obtain ⟨e3, he3, hf⟩ := bnd hf
  have hx3_0 : ∀ (y3_0 : Int32 × Int32 × Int32 × Int32 × (Nat → Int32)), (Sum.inl y3_0) = e3 → ∀ (H : Heap) (locs : List Loc) (ls : Array Slot), va_P D vwCl [(qg, .inr (7, [.ref qg_text, .int g_size, .int y3_0.1, .int y3_0.2.1, .int y3_0.2.2.1, .int y3_0.2.2.2.1, .ref qg_read, .ref qg_life, .int g_dones, .ref qg_done, .int g_undos, .ref qg_undone, .ref qg_selves, .ref qg_when, .ref qg_jury, .int g_seens, .ref qg_years, .ref qg_states, .long g_trace, .ref qg_kept])), rI cI qg_text 200 g_text, rI cI qg_read 55 y3_0.2.2.2.2, rI cI qg_life 55 g_life, rI cI qg_done 16 g_done, rI cI qg_undone 130 g_undone, rI cI qg_selves 16 g_selves, rI cI qg_when 27 g_when, rI cI qg_jury 16 g_jury, rI cI qg_years 6 g_years, rI cI qg_states 6 g_states, rI cI qg_kept 290 g_kept] H → va_D A [(qg, .inr (7, [.ref qg_text, .int g_size, .int y3_0.1, .int y3_0.2.1, .int y3_0.2.2.1, .int y3_0.2.2.2.1, .ref qg_read, .ref qg_life, .int g_dones, .ref qg_done, .int g_undos, .ref qg_undone, .ref qg_selves, .ref qg_when, .ref qg_jury, .int g_seens, .ref qg_years, .ref qg_states, .long g_trace, .ref qg_kept])), rI cI qg_text 200 g_text, rI cI qg_read 55 y3_0.2.2.2.2, rI cI qg_life 55 g_life, rI cI qg_done 16 g_done, rI cI qg_undone 130 g_undone, rI cI qg_selves 16 g_selves, rI cI qg_when 27 g_when, rI cI qg_jury 16 g_jury, rI cI qg_years 6 g_years, rI cI qg_states 6 g_states, rI cI qg_kept 290 g_kept] → va_S A s.heap H locs → lv_has ls 2 [(0, .ref qg)] → W p l e ({ frames := 7, cells := 0, slots := 0, locals := 152 } : Room) s m args below meth c H locs 0 0 Q (F0 m 29 ls []) := by
    intro y3_0 heq H locs ls hP hD hS hl
    subst heq
    replace hf := se_l hf
    refine lv_bipush (v := (-10)) hx hb dX7_court_29 (by decide) ?_
    refine lv_aload_n hx hb dX7_court_31 rfl (lv_at hl 0 rfl) ?_
    refine k_get X hP 0 rfl rfl inX7 3 (by decide) fl_RX7_77 rfl rfl dX7_court_32 ?_
    refine lv_isub hx hb dX7_court_35 ?_
    replace hf := Option.some.inj hf
    subst hf
    exact hret H locs _ ls dX7_court_36 hP hD hS
  have hx3_1 : ∀ (y3_1 : Int32 × Int32 × Int32 × Int32 × Int32 × (Nat → Int32)), (Sum.inr y3_1) = e3 → ∀ (H : Heap) (locs : List Loc) (ls : Array Slot), va_P D vwCl [(qg, .inr (7, [.ref qg_text, .int g_size, .int y3_1.2.1, .int y3_1.2.2.1, .int y3_1.2.2.2.1, .int y3_1.2.2.2.2.1, .ref qg_read, .ref qg_life, .int g_dones, .ref qg_done, .int g_undos, .ref qg_undone, .ref qg_selves, .ref qg_when, .ref qg_jury, .int g_seens, .ref qg_years, .ref qg_states, .long g_trace, .ref qg_kept])), rI cI qg_text 200 g_text, rI cI qg_read 55 y3_1.2.2.2.2.2, rI cI qg_life 55 g_life, rI cI qg_done 16 g_done, rI cI qg_undone 130 g_undone, rI cI qg_selves 16 g_selves, rI cI qg_when 27 g_when, rI cI qg_jury 16 g_jury, rI cI qg_years 6 g_years, rI cI qg_states 6 g_states, rI cI qg_kept 290 g_kept] H → va_D A [(qg, .inr (7, [.ref qg_text, .int g_size, .int y3_1.2.1, .int y3_1.2.2.1, .int y3_1.2.2.2.1, .int y3_1.2.2.2.2.1, .ref qg_read, .ref qg_life, .int g_dones, .ref qg_done, .int g_undos, .ref qg_undone, .ref qg_selves, .ref qg_when, .ref qg_jury, .int g_seens, .ref qg_years, .ref qg_states, .long g_trace, .ref qg_kept])), rI cI qg_text 200 g_text, rI cI qg_read 55 y3_1.2.2.2.2.2, rI cI qg_life 55 g_life, rI cI qg_done 16 g_done, rI cI qg_undone 130 g_undone, rI cI qg_selves 16 g_selves, rI cI qg_when 27 g_when, rI cI qg_jury 16 g_jury, rI cI qg_years 6 g_years, rI cI qg_states 6 g_states, rI cI qg_kept 290 g_kept] → va_S A s.heap H locs → lv_has ls 2 [(0, .ref qg), (1, .int y3_1.1)] → W p l e ({ frames := 7, cells := 0, slots := 0, locals := 152 } : Room) s m args below meth c H locs 0 0 Q (F0 m 47 ls []) := by
    intro y3_1 heq H locs ls hP hD hS hl
    subst heq
    replace hf := se_r hf
    refine lv_aload_n hx hb dX7_court_47 rfl (lv_at hl 0 rfl) ?_
    refine lv_iconst (v := 0) hx hb dX7_court_48 (by decide) ?_
    refine k_put X hP hD hS [(qg, .inr (7, [.ref qg_text, .int 0, .int y3_1.2.1, .int y3_1.2.2.1, .int y3_1.2.2.2.1, .int y3_1.2.2.2.2.1, .ref qg_read, .ref qg_life, .int g_dones, .ref qg_done, .int g_undos, .ref qg_undone, .ref qg_selves, .ref qg_when, .ref qg_jury, .int g_seens, .ref qg_years, .ref qg_states, .long g_trace, .ref qg_kept])), rI cI qg_text 200 g_text, rI cI qg_read 55 y3_1.2.2.2.2.2, rI cI qg_life 55 g_life, rI cI qg_done 16 g_done, rI cI qg_undone 130 g_undone, rI cI qg_selves 16 g_selves, rI cI qg_when 27 g_when, rI cI qg_jury 16 g_jury, rI cI qg_years 6 g_years, rI cI qg_states 6 g_states, rI cI qg_kept 290 g_kept] 0 rfl rfl inX7 tyX7_ok nmX7 1 (by decide) fl_RX7_55 rfl rfl rfl rfl (Nat.le_of_ble_eq_true rfl) rfl dX7_court_49 (fun H locs hP hD hS => ?_)
    refine lv_aload_n hx hb dX7_court_52 rfl (lv_at hl 0 rfl) ?_
    obtain ⟨r4, hr4, hf⟩ := bnd hf
    refine k_callV X hP hD hS [(qg, .inr (7, [.ref qg_text, .int 0, .int y3_1.2.1, .int y3_1.2.2.1, .int y3_1.2.2.2.1, .int y3_1.2.2.2.2.1, .ref qg_read, .ref qg_life, .int r4.1, .ref qg_done, .int r4.2.1, .ref qg_undone, .ref qg_selves, .ref qg_when, .ref qg_jury, .int r4.2.2.1, .ref qg_years, .ref qg_states, .long g_trace, .ref qg_kept])), rI cI qg_text 200 g_text, rI cI qg_read 55 y3_1.2.2.2.2.2, rI cI qg_life 55 r4.2.2.2.1, rI cI qg_done 16 g_done, rI cI qg_undone 130 g_undone, rI cI qg_selves 16 g_selves, rI cI qg_when 27 g_when, rI cI qg_jury 16 g_jury, rI cI qg_years 6 g_years, rI cI qg_states 6 g_states, rI cI qg_kept 290 r4.2.2.2.2] (ctX7_takesIt l D cI cZ cD cH qg qg_text qg_read qg_life qg_done qg_undone qg_selves qg_when qg_jury qg_years qg_states qg_kept 0 y3_1.2.1 y3_1.2.2.1 y3_1.2.2.2.1 y3_1.2.2.2.2.1 g_dones g_undos g_seens g_trace g_text y3_1.2.2.2.2.2 g_life g_done g_undone g_selves g_when g_jury g_years g_states g_kept r4 hr4) ml_RX7_46 im_yX7_takesIt se_yX7_takesIt in_RX7 cd_yX7_takesIt rfl rfl hd_yX7_takesIt ⟨by decide, by decide⟩ ⟨Nat.zero_le _, Nat.zero_le _⟩ [0, 1, 2, 3, 4, 5, 6, 7, 8, 9, 10, 11] [some 0, some 1, some 2, some 3, some 4, some 5, some 6, some 7, some 8, some 9, some 10, some 11] rfl (by decide +kernel) rfl (by decide +kernel) rfl rfl (q0 := 0) rfl rfl rfl hl.1 rfl rfl (Nat.le_of_ble_eq_true rfl) rfl dX7_court_53 (fun H locs hP hD hS => ?_)
    refine lv_iload_n hx hb dX7_court_56 rfl (lv_at hl 1 rfl) ?_
    replace hf := Option.some.inj hf
    subst hf
    exact hret H locs _ ls dX7_court_57 hP hD hS
  refine lpd_ind (P := fun s3 => ∀ (H : Heap) (locs : List Loc) (ls : Array Slot), va_P D vwCl [(qg, .inr (7, [.ref qg_text, .int g_size, .int s3.2.1, .int s3.2.2.1, .int s3.2.2.2.1, .int s3.2.2.2.2.1, .ref qg_read, .ref qg_life, .int g_dones, .ref qg_done, .int g_undos, .ref qg_undone, .ref qg_selves, .ref qg_when, .ref qg_jury, .int g_seens, .ref qg_years, .ref qg_states, .long g_trace, .ref qg_kept])), rI cI qg_text 200 g_text, rI cI qg_read 55 s3.2.2.2.2.2, rI cI qg_life 55 g_life, rI cI qg_done 16 g_done, rI cI qg_undone 130 g_undone, rI cI qg_selves 16 g_selves, rI cI qg_when 27 g_when, rI cI qg_jury 16 g_jury, rI cI qg_years 6 g_years, rI cI qg_states 6 g_states, rI cI qg_kept 290 g_kept] H → va_D A [(qg, .inr (7, [.ref qg_text, .int g_size, .int s3.2.1, .int s3.2.2.1, .int s3.2.2.2.1, .int s3.2.2.2.2.1, .ref qg_read, .ref qg_life, .int g_dones, .ref qg_done, .int g_undos, .ref qg_undone, .ref qg_selves, .ref qg_when, .ref qg_jury, .int g_seens, .ref qg_years, .ref qg_states, .long g_trace, .ref qg_kept])), rI cI qg_text 200 g_text, rI cI qg_read 55 s3.2.2.2.2.2, rI cI qg_life 55 g_life, rI cI qg_done 16 g_done, rI cI qg_undone 130 g_undone, rI cI qg_selves 16 g_selves, rI cI qg_when 27 g_when, rI cI qg_jury 16 g_jury, rI cI qg_years 6 g_years, rI cI qg_states 6 g_states, rI cI qg_kept 290 g_kept] → va_S A s.heap H locs → lv_has ls 2 [(0, .ref qg), (1, .int s3.1)] → W p l e ({ frames := 7, cells := 0, slots := 0, locals := 152 } : Room) s m args below meth c H locs 0 0 Q (F0 m 15 ls [])) e3 ?_ _ _ he3 H locs ls hP hD hS (lv_sub hl [1, 0] rfl)
  intro s3 r3 hf ih3 hq3 H locs ls hP hD hS hl
  unfold sX7_court_15 at hf
  refine lv_aload_n hx hb dX7_court_15 rfl (lv_at hl 0 rfl) ?_
  refine k_get X hP 0 rfl rfl inX7 4 (by decide) fl_RX7_80 rfl rfl dX7_court_16 ?_
  refine lv_if_eq (tgt := 47) hx hb dX7_court_19 (by decide) (fun c5 => ?_) (fun c5 => ?_)
  · replace hf := ite_t c5 hf
    exact hx3_1 _ (hq3 _ (Option.some.inj hf).symm) H locs ls hP hD hS hl
  · replace hf := ite_f c5 hf
    refine lv_aload_n hx hb dX7_court_22 rfl (lv_at hl 0 rfl) ?_
    obtain ⟨r6, hr6, hf⟩ := bnd hf
    refine k_callV X hP hD hS [(qg, .inr (7, [.ref qg_text, .int g_size, .int r6.2.1, .int r6.2.2.1, .int r6.2.2.2.1, .int r6.2.2.2.2.1, .ref qg_read, .ref qg_life, .int g_dones, .ref qg_done, .int g_undos, .ref qg_undone, .ref qg_selves, .ref qg_when, .ref qg_jury, .int g_seens, .ref qg_years, .ref qg_states, .long g_trace, .ref qg_kept])), rI cI qg_text 200 g_text, rI cI qg_read 55 r6.2.2.2.2.2, rI cI qg_life 55 g_life, rI cI qg_done 16 g_done, rI cI qg_undone 130 g_undone, rI cI qg_selves 16 g_selves, rI cI qg_when 27 g_when, rI cI qg_jury 16 g_jury, rI cI qg_years 6 g_years, rI cI qg_states 6 g_states, rI cI qg_kept 290 g_kept] (ctX7_readItem l D cI cZ cD cH qg qg_text qg_read qg_life qg_done qg_undone qg_selves qg_when qg_jury qg_years qg_states qg_kept g_size s3.2.1 s3.2.2.1 s3.2.2.2.1 s3.2.2.2.2.1 g_dones g_undos g_seens g_trace g_text s3.2.2.2.2.2 g_life g_done g_undone g_selves g_when g_jury g_years g_states g_kept r6 hr6) ml_RX7_116 im_yX7_readItem se_yX7_readItem in_RX7 cd_yX7_readItem rfl rfl hd_yX7_readItem ⟨by decide, by decide⟩ ⟨Nat.zero_le _, Nat.zero_le _⟩ [0, 1, 2, 3, 4, 5, 6, 7, 8, 9, 10, 11] [some 0, some 1, some 2, some 3, some 4, some 5, some 6, some 7, some 8, some 9, some 10, some 11] rfl (by decide +kernel) rfl (by decide +kernel) rfl rfl (q0 := 0) rfl rfl rfl hl.1 rfl rfl (Nat.le_of_ble_eq_true rfl) rfl dX7_court_23 (fun H locs hP hD hS => ?_)
    refine lv_if_ne (tgt := 37) hx hb dX7_court_26 (by decide) (fun c7 => ?_) (fun c7 => ?_)
    · replace hf := ite_f c7 hf
      refine lv_iinc (v := s3.1 + 1) (lv' := [(1, .int (s3.1 + 1)), (0, .ref qg)]) hx hb dX7_court_37 hl (k := 1) rfl rfl (by decide) rfl (fun ls hl => ?_)
      refine lv_aload_n hx hb dX7_court_40 rfl (lv_at hl 1 rfl) ?_
      obtain ⟨r8, hr8, hf⟩ := bnd hf
      refine k_callV X hP hD hS [(qg, .inr (7, [.ref qg_text, .int g_size, .int r8.1, .int r8.2.1, .int r8.2.2.1, .int r8.2.2.2, .ref qg_read, .ref qg_life, .int g_dones, .ref qg_done, .int g_undos, .ref qg_undone, .ref qg_selves, .ref qg_when, .ref qg_jury, .int g_seens, .ref qg_years, .ref qg_states, .long g_trace, .ref qg_kept])), rI cI qg_text 200 g_text, rI cI qg_read 55 r6.2.2.2.2.2, rI cI qg_life 55 g_life, rI cI qg_done 16 g_done, rI cI qg_undone 130 g_undone, rI cI qg_selves 16 g_selves, rI cI qg_when 27 g_when, rI cI qg_jury 16 g_jury, rI cI qg_years 6 g_years, rI cI qg_states 6 g_states, rI cI qg_kept 290 g_kept] (ctX7_reads l D cI cZ cD cH qg qg_text qg_read qg_life qg_done qg_undone qg_selves qg_when qg_jury qg_years qg_states qg_kept g_size r6.2.1 r6.2.2.1 r6.2.2.2.1 r6.2.2.2.2.1 g_dones g_undos g_seens g_trace g_text r6.2.2.2.2.2 g_life g_done g_undone g_selves g_when g_jury g_years g_states g_kept r8 hr8) ml_RX7_92 im_yX7_reads se_yX7_reads in_RX7 cd_yX7_reads rfl rfl hd_yX7_reads ⟨by decide, by decide⟩ ⟨Nat.zero_le _, Nat.zero_le _⟩ [0, 1, 2, 3, 4, 5, 6, 7, 8, 9, 10, 11] [some 0, some 1, some 2, some 3, some 4, some 5, some 6, some 7, some 8, some 9, some 10, some 11] rfl (by decide +kernel) rfl (by decide +kernel) rfl rfl (q0 := 0) rfl rfl rfl hl.1 rfl rfl (Nat.le_of_ble_eq_true rfl) rfl dX7_court_41 (fun H locs hP hD hS => ?_)
      refine lv_goto (tgt := 15) hx hb dX7_court_44 (by decide) ?_
      exact ih3 _ (Option.some.inj hf).symm H locs ls hP hD hS (lv_sub hl [1, 0] rfl)
    · replace hf := ite_t c7 hf
      exact hx3_0 _ (hq3 _ (Option.some.inj hf).symm) H locs ls hP hD hS (lv_sub hl [0] rfl)
