def fX7_in (a1 : Int64) (a2 : Int64) (a3 : Int64) : Option (Bool) :=
  if (lg_cmp a1 a2) < 0 then some false else if 0 < (lg_cmp a1 a3) then some false else some true
set_option maxHeartbeats 4000000 in
set_option maxRecDepth 100000 in
theorem ctX7_in (l : Launch) (D : va_G) (cI cZ cD cH : ClassId) (a1 : Int64) (a2 : Int64) (a3 : Int64) (o : Bool) (hf : fX7_in a1 a2 a3 = some o) : Ct l yX7_in cX7_in 6 (some .boolean) { frames := 0, cells := 0, slots := 0, locals := 0 } D (Tys cI cZ cD cH) [.long a1, .long a2, .long a3] [] [] (some (.int (bI o))) 0 0 := by
  refine mkZ (by decide) (Nat.le_of_ble_eq_true rfl) ?_
  intro p e s m args below meth c A Q X hret ls hl H locs hP hD hS
  replace X : Cx p s m args c D (Tys cI cZ cD cH) A cX7_in RX7 6 := X
  obtain ⟨hx, hb, hml, hown, hts, hK, hZ, hA⟩ := id X
  have hl : lv_has ls 6 [(0, .long a1), (2, .long a2), (4, .long a3)] := hl
  unfold fX7_in at hf
  refine lv_lload_n hx hb dX7_in_0 rfl (lv_at hl 0 rfl) ?_
  refine lv_lload_n hx hb dX7_in_1 rfl (lv_at hl 1 rfl) ?_
  refine W.lcmp hx hb dX7_in_2 ?_
  refine lv_if_lt (tgt := 17) hx hb dX7_in_3 (by decide) (fun c1 => ?_) (fun c1 => ?_)
  · replace hf := ite_t c1 hf
    refine lv_iconst (v := 0) hx hb dX7_in_17 (by decide) ?_
    replace hf := Option.some.inj hf
    subst hf
    exact hret H locs _ ls dX7_in_18 hP hD hS
  · replace hf := ite_f c1 hf
    refine lv_lload_n hx hb dX7_in_6 rfl (lv_at hl 0 rfl) ?_
    refine lv_lload hx hb dX7_in_7 (lv_at hl 2 rfl) ?_
    refine W.lcmp hx hb dX7_in_9 ?_
    refine lv_if_gt (tgt := 17) hx hb dX7_in_10 (by decide) (fun c2 => ?_) (fun c2 => ?_)
    · replace hf := ite_t c2 hf
      refine lv_iconst (v := 0) hx hb dX7_in_17 (by decide) ?_
      replace hf := Option.some.inj hf
      subst hf
      exact hret H locs _ ls dX7_in_18 hP hD hS
    · replace hf := ite_f c2 hf
      refine lv_iconst (v := 1) hx hb dX7_in_13 (by decide) ?_
      refine lv_goto (tgt := 18) hx hb dX7_in_14 (by decide) ?_
      replace hf := Option.some.inj hf
      subst hf
      exact hret H locs _ ls dX7_in_18 hP hD hS

def fX7_type (a1 : Int32) (g_size : Int32) (g_text : Nat → Int32) : Option (Int32 × Int32 × (Nat → Int32)) :=
  (fX7_in a1.toInt64 0 255).bind (fun r1 => if (bI r1) = 0 then some ((-1), g_size, g_text) else if g_size = 200 then some ((-3), g_size, g_text) else if inb g_size 200 = true then some (g_size + 1, g_size + 1, upd g_text g_size.toNatClampNeg a1) else none)
set_option maxHeartbeats 4000000 in
set_option maxRecDepth 100000 in
theorem ctX7_type (l : Launch) (D : va_G) (cI cZ cD cH : ClassId) (qg : Nat) (qg_text : Nat) (qg_read : Nat) (qg_life : Nat) (qg_done : Nat) (qg_undone : Nat) (qg_selves : Nat) (qg_when : Nat) (qg_jury : Nat) (qg_years : Nat) (qg_states : Nat) (qg_kept : Nat) (a1 : Int32) (g_size : Int32) (g_at : Int32) (g_begin : Int32) (g_token : Int32) (g_told : Int32) (g_dones : Int32) (g_undos : Int32) (g_seens : Int32) (g_trace : Int64) (g_text : Nat → Int32) (g_read : Nat → Int32) (g_life : Nat → Int32) (g_done : Nat → Int32) (g_undone : Nat → Int32) (g_selves : Nat → Int32) (g_when : Nat → Int32) (g_jury : Nat → Int32) (g_years : Nat → Int32) (g_states : Nat → Int32) (g_kept : Nat → Int32) (o : Int32 × Int32 × (Nat → Int32)) (hf : fX7_type a1 g_size g_text = some o) : Ct l yX7_type cX7_type 2 (some .int) { frames := 1, cells := 0, slots := 0, locals := 25 } D (Tys cI cZ cD cH) [.ref qg, .int a1] [(qg, .inr (7, [.ref qg_text, .int g_size, .int g_at, .int g_begin, .int g_token, .int g_told, .ref qg_read, .ref qg_life, .int g_dones, .ref qg_done, .int g_undos, .ref qg_undone, .ref qg_selves, .ref qg_when, .ref qg_jury, .int g_seens, .ref qg_years, .ref qg_states, .long g_trace, .ref qg_kept])), rI cI qg_text 200 g_text, rI cI qg_read 55 g_read, rI cI qg_life 55 g_life, rI cI qg_done 16 g_done, rI cI qg_undone 130 g_undone, rI cI qg_selves 16 g_selves, rI cI qg_when 27 g_when, rI cI qg_jury 16 g_jury, rI cI qg_years 6 g_years, rI cI qg_states 6 g_states, rI cI qg_kept 290 g_kept] [(qg, .inr (7, [.ref qg_text, .int o.2.1, .int g_at, .int g_begin, .int g_token, .int g_told, .ref qg_read, .ref qg_life, .int g_dones, .ref qg_done, .int g_undos, .ref qg_undone, .ref qg_selves, .ref qg_when, .ref qg_jury, .int g_seens, .ref qg_years, .ref qg_states, .long g_trace, .ref qg_kept])), rI cI qg_text 200 o.2.2, rI cI qg_read 55 g_read, rI cI qg_life 55 g_life, rI cI qg_done 16 g_done, rI cI qg_undone 130 g_undone, rI cI qg_selves 16 g_selves, rI cI qg_when 27 g_when, rI cI qg_jury 16 g_jury, rI cI qg_years 6 g_years, rI cI qg_states 6 g_states, rI cI qg_kept 290 g_kept] (some (.int o.1)) 0 0 := by
  refine mkI (by decide) (Nat.le_of_ble_eq_true rfl) ?_
  intro p e s m args below meth c A Q X hret ls hl H locs hP hD hS
  replace X : Cx p s m args c D (Tys cI cZ cD cH) A cX7_type RX7 2 := X
  obtain ⟨hx, hb, hml, hown, hts, hK, hZ, hA⟩ := id X
  have hl : lv_has ls 2 [(0, .ref qg), (1, .int a1)] := hl
  unfold fX7_type at hf
  refine lv_iload_n hx hb dX7_type_0 rfl (lv_at hl 1 rfl) ?_
  refine lv_i2l (v := a1.toInt64) hx hb dX7_type_1 rfl ?_
  refine lv_lconst (v := 0) hx hb dX7_type_2 (by decide) ?_
  refine lv_ldc2 hx hb hown (hts _ cl_RX7_49) dX7_type_3 ?_
  obtain ⟨r1, hr1, hf⟩ := bnd hf
  refine k_callS X hP hD hS [(qg, .inr (7, [.ref qg_text, .int g_size, .int g_at, .int g_begin, .int g_token, .int g_told, .ref qg_read, .ref qg_life, .int g_dones, .ref qg_done, .int g_undos, .ref qg_undone, .ref qg_selves, .ref qg_when, .ref qg_jury, .int g_seens, .ref qg_years, .ref qg_states, .long g_trace, .ref qg_kept])), rI cI qg_text 200 g_text, rI cI qg_read 55 g_read, rI cI qg_life 55 g_life, rI cI qg_done 16 g_done, rI cI qg_undone 130 g_undone, rI cI qg_selves 16 g_selves, rI cI qg_when 27 g_when, rI cI qg_jury 16 g_jury, rI cI qg_years 6 g_years, rI cI qg_states 6 g_states, rI cI qg_kept 290 g_kept] (ctX7_in l D cI cZ cD cH a1.toInt64 0 255 r1 hr1) ml_RX7_51 sm_yX7_in in_RX7 cd_yX7_in rfl rfl hd_yX7_in ⟨by decide, by decide⟩ ⟨Nat.zero_le _, Nat.zero_le _⟩ [] [none, none, none, none, none, none, none, none, none, none, none, none] rfl (by decide +kernel) rfl (by decide +kernel) rfl rfl hl.1 rfl rfl (Nat.le_of_ble_eq_true rfl) rfl dX7_type_6 (fun H locs hP hD hS => ?_)
  refine lv_if_ne (tgt := 14) hx hb dX7_type_9 (by decide) (fun c2 => ?_) (fun c2 => ?_)
  · replace hf := ite_f c2 hf
    refine lv_aload_n hx hb dX7_type_14 rfl (lv_at hl 0 rfl) ?_
    refine k_get X hP 0 rfl rfl inX7 1 (by decide) fl_RX7_55 rfl rfl dX7_type_15 ?_
    refine lv_sipush (v := 200) hx hb dX7_type_18 (by decide) ?_
    refine lv_icmp_ne (tgt := 27) hx hb dX7_type_21 (by decide) (fun c3 => ?_) (fun c3 => ?_)
    · replace hf := ite_f c3 hf
      refine lv_aload_n hx hb dX7_type_27 rfl (lv_at hl 0 rfl) ?_
      refine k_get X hP 0 rfl rfl inX7 0 (by decide) fl_RX7_7 rfl rfl dX7_type_28 ?_
      refine lv_aload_n hx hb dX7_type_31 rfl (lv_at hl 0 rfl) ?_
      refine k_get X hP 0 rfl rfl inX7 1 (by decide) fl_RX7_55 rfl rfl dX7_type_32 ?_
      refine lv_iload_n hx hb dX7_type_35 rfl (lv_at hl 1 rfl) ?_
      obtain ⟨h4, hf⟩ := ck_t hf
      refine k_iast X hP hD hS [(qg, .inr (7, [.ref qg_text, .int g_size, .int g_at, .int g_begin, .int g_token, .int g_told, .ref qg_read, .ref qg_life, .int g_dones, .ref qg_done, .int g_undos, .ref qg_undone, .ref qg_selves, .ref qg_when, .ref qg_jury, .int g_seens, .ref qg_years, .ref qg_states, .long g_trace, .ref qg_kept])), rI cI qg_text 200 (upd g_text g_size.toNatClampNeg a1), rI cI qg_read 55 g_read, rI cI qg_life 55 g_life, rI cI qg_done 16 g_done, rI cI qg_undone 130 g_undone, rI cI qg_selves 16 g_selves, rI cI qg_when 27 g_when, rI cI qg_jury 16 g_jury, rI cI qg_years 6 g_years, rI cI qg_states 6 g_states, rI cI qg_kept 290 g_kept] 1 0 rfl rfl h4 rfl dX7_type_36 (fun H locs hP hD hS => ?_)
      refine lv_aload_n hx hb dX7_type_37 rfl (lv_at hl 0 rfl) ?_
      refine lv_dup hx hb dX7_type_38 rfl ?_
      refine k_get X hP 0 rfl rfl inX7 1 (by decide) fl_RX7_55 rfl rfl dX7_type_39 ?_
      refine lv_iconst (v := 1) hx hb dX7_type_42 (by decide) ?_
      refine lv_iadd hx hb dX7_type_43 ?_
      refine k_put X hP hD hS [(qg, .inr (7, [.ref qg_text, .int (g_size + 1), .int g_at, .int g_begin, .int g_token, .int g_told, .ref qg_read, .ref qg_life, .int g_dones, .ref qg_done, .int g_undos, .ref qg_undone, .ref qg_selves, .ref qg_when, .ref qg_jury, .int g_seens, .ref qg_years, .ref qg_states, .long g_trace, .ref qg_kept])), rI cI qg_text 200 (upd g_text g_size.toNatClampNeg a1), rI cI qg_read 55 g_read, rI cI qg_life 55 g_life, rI cI qg_done 16 g_done, rI cI qg_undone 130 g_undone, rI cI qg_selves 16 g_selves, rI cI qg_when 27 g_when, rI cI qg_jury 16 g_jury, rI cI qg_years 6 g_years, rI cI qg_states 6 g_states, rI cI qg_kept 290 g_kept] 0 rfl rfl inX7 tyX7_ok nmX7 1 (by decide) fl_RX7_55 rfl rfl rfl rfl (Nat.le_of_ble_eq_true rfl) rfl dX7_type_44 (fun H locs hP hD hS => ?_)
      refine lv_aload_n hx hb dX7_type_47 rfl (lv_at hl 0 rfl) ?_
      refine k_get X hP 0 rfl rfl inX7 1 (by decide) fl_RX7_55 rfl rfl dX7_type_48 ?_
      replace hf := Option.some.inj hf
      subst hf
      exact hret H locs _ ls dX7_type_51 hP hD hS
    · replace hf := ite_t c3 hf
      refine lv_bipush (v := (-3)) hx hb dX7_type_24 (by decide) ?_
      replace hf := Option.some.inj hf
      subst hf
      exact hret H locs _ ls dX7_type_26 hP hD hS
  · replace hf := ite_t c2 hf
    refine lv_iconst (v := (-1)) hx hb dX7_type_12 (by decide) ?_
    replace hf := Option.some.inj hf
    subst hf
    exact hret H locs _ ls dX7_type_13 hP hD hS

def fX7_clear (g_size : Int32) : Option (Int32 × Int32) :=
  some (g_size, 0)
set_option maxHeartbeats 4000000 in
set_option maxRecDepth 100000 in
theorem ctX7_clear (l : Launch) (D : va_G) (cI cZ cD cH : ClassId) (qg : Nat) (qg_text : Nat) (qg_read : Nat) (qg_life : Nat) (qg_done : Nat) (qg_undone : Nat) (qg_selves : Nat) (qg_when : Nat) (qg_jury : Nat) (qg_years : Nat) (qg_states : Nat) (qg_kept : Nat) (g_size : Int32) (g_at : Int32) (g_begin : Int32) (g_token : Int32) (g_told : Int32) (g_dones : Int32) (g_undos : Int32) (g_seens : Int32) (g_trace : Int64) (g_text : Nat → Int32) (g_read : Nat → Int32) (g_life : Nat → Int32) (g_done : Nat → Int32) (g_undone : Nat → Int32) (g_selves : Nat → Int32) (g_when : Nat → Int32) (g_jury : Nat → Int32) (g_years : Nat → Int32) (g_states : Nat → Int32) (g_kept : Nat → Int32) (o : Int32 × Int32) (hf : fX7_clear g_size = some o) : Ct l yX7_clear cX7_clear 2 (some .int) { frames := 0, cells := 0, slots := 0, locals := 0 } D (Tys cI cZ cD cH) [.ref qg] [(qg, .inr (7, [.ref qg_text, .int g_size, .int g_at, .int g_begin, .int g_token, .int g_told, .ref qg_read, .ref qg_life, .int g_dones, .ref qg_done, .int g_undos, .ref qg_undone, .ref qg_selves, .ref qg_when, .ref qg_jury, .int g_seens, .ref qg_years, .ref qg_states, .long g_trace, .ref qg_kept])), rI cI qg_text 200 g_text, rI cI qg_read 55 g_read, rI cI qg_life 55 g_life, rI cI qg_done 16 g_done, rI cI qg_undone 130 g_undone, rI cI qg_selves 16 g_selves, rI cI qg_when 27 g_when, rI cI qg_jury 16 g_jury, rI cI qg_years 6 g_years, rI cI qg_states 6 g_states, rI cI qg_kept 290 g_kept] [(qg, .inr (7, [.ref qg_text, .int o.2, .int g_at, .int g_begin, .int g_token, .int g_told, .ref qg_read, .ref qg_life, .int g_dones, .ref qg_done, .int g_undos, .ref qg_undone, .ref qg_selves, .ref qg_when, .ref qg_jury, .int g_seens, .ref qg_years, .ref qg_states, .long g_trace, .ref qg_kept])), rI cI qg_text 200 g_text, rI cI qg_read 55 g_read, rI cI qg_life 55 g_life, rI cI qg_done 16 g_done, rI cI qg_undone 130 g_undone, rI cI qg_selves 16 g_selves, rI cI qg_when 27 g_when, rI cI qg_jury 16 g_jury, rI cI qg_years 6 g_years, rI cI qg_states 6 g_states, rI cI qg_kept 290 g_kept] (some (.int o.1)) 0 0 := by
  refine mkI (by decide) (Nat.le_of_ble_eq_true rfl) ?_
  intro p e s m args below meth c A Q X hret ls hl H locs hP hD hS
  replace X : Cx p s m args c D (Tys cI cZ cD cH) A cX7_clear RX7 2 := X
  obtain ⟨hx, hb, hml, hown, hts, hK, hZ, hA⟩ := id X
  have hl : lv_has ls 2 [(0, .ref qg)] := hl
  unfold fX7_clear at hf
  refine lv_aload_n hx hb dX7_clear_0 rfl (lv_at hl 0 rfl) ?_
  refine k_get X hP 0 rfl rfl inX7 1 (by decide) fl_RX7_55 rfl rfl dX7_clear_1 ?_
  refine lv_istore_n (lv' := [(1, .int g_size), (0, .ref qg)]) hx hb dX7_clear_4 rfl hl (by decide) rfl (fun ls hl => ?_)
  refine lv_aload_n hx hb dX7_clear_5 rfl (lv_at hl 1 rfl) ?_
  refine lv_iconst (v := 0) hx hb dX7_clear_6 (by decide) ?_
  refine k_put X hP hD hS [(qg, .inr (7, [.ref qg_text, .int 0, .int g_at, .int g_begin, .int g_token, .int g_told, .ref qg_read, .ref qg_life, .int g_dones, .ref qg_done, .int g_undos, .ref qg_undone, .ref qg_selves, .ref qg_when, .ref qg_jury, .int g_seens, .ref qg_years, .ref qg_states, .long g_trace, .ref qg_kept])), rI cI qg_text 200 g_text, rI cI qg_read 55 g_read, rI cI qg_life 55 g_life, rI cI qg_done 16 g_done, rI cI qg_undone 130 g_undone, rI cI qg_selves 16 g_selves, rI cI qg_when 27 g_when, rI cI qg_jury 16 g_jury, rI cI qg_years 6 g_years, rI cI qg_states 6 g_states, rI cI qg_kept 290 g_kept] 0 rfl rfl inX7 tyX7_ok nmX7 1 (by decide) fl_RX7_55 rfl rfl rfl rfl (Nat.le_of_ble_eq_true rfl) rfl dX7_clear_7 (fun H locs hP hD hS => ?_)
  refine lv_iload_n hx hb dX7_clear_10 rfl (lv_at hl 0 rfl) ?_
  replace hf := Option.some.inj hf
  subst hf
  exact hret H locs _ ls dX7_clear_11 hP hD hS

def fX7_isLetter (a1 : Int32) : Option (Bool) :=
  (fX7_in a1.toInt64 97 122).bind (fun r1 => some r1)
set_option maxHeartbeats 4000000 in
set_option maxRecDepth 100000 in
theorem ctX7_isLetter (l : Launch) (D : va_G) (cI cZ cD cH : ClassId) (a1 : Int32) (o : Bool) (hf : fX7_isLetter a1 = some o) : Ct l yX7_isLetter cX7_isLetter 1 (some .boolean) { frames := 1, cells := 0, slots := 0, locals := 25 } D (Tys cI cZ cD cH) [.int a1] [] [] (some (.int (bI o))) 0 0 := by
  refine mkZ (by decide) (Nat.le_of_ble_eq_true rfl) ?_
  intro p e s m args below meth c A Q X hret ls hl H locs hP hD hS
  replace X : Cx p s m args c D (Tys cI cZ cD cH) A cX7_isLetter RX7 1 := X
  obtain ⟨hx, hb, hml, hown, hts, hK, hZ, hA⟩ := id X
  have hl : lv_has ls 1 [(0, .int a1)] := hl
  unfold fX7_isLetter at hf
  refine lv_iload_n hx hb dX7_isLetter_0 rfl (lv_at hl 0 rfl) ?_
  refine lv_i2l (v := a1.toInt64) hx hb dX7_isLetter_1 rfl ?_
  refine lv_ldc2 hx hb hown (hts _ cl_RX7_59) dX7_isLetter_2 ?_
  refine lv_ldc2 hx hb hown (hts _ cl_RX7_61) dX7_isLetter_5 ?_
  obtain ⟨r1, hr1, hf⟩ := bnd hf
  refine k_callS X hP hD hS [] (ctX7_in l D cI cZ cD cH a1.toInt64 97 122 r1 hr1) ml_RX7_51 sm_yX7_in in_RX7 cd_yX7_in rfl rfl hd_yX7_in ⟨by decide, by decide⟩ ⟨Nat.zero_le _, Nat.zero_le _⟩ [] [] rfl (by decide +kernel) rfl (by decide +kernel) rfl rfl hl.1 rfl rfl (Nat.le_of_ble_eq_true rfl) rfl dX7_isLetter_8 (fun H locs hP hD hS => ?_)
  replace hf := Option.some.inj hf
  subst hf
  exact hret H locs _ ls dX7_isLetter_11 hP hD hS

def fX7_isFigure (a1 : Int32) : Option (Bool) :=
  (fX7_in a1.toInt64 48 57).bind (fun r1 => some r1)
set_option maxHeartbeats 4000000 in
set_option maxRecDepth 100000 in
theorem ctX7_isFigure (l : Launch) (D : va_G) (cI cZ cD cH : ClassId) (a1 : Int32) (o : Bool) (hf : fX7_isFigure a1 = some o) : Ct l yX7_isFigure cX7_isFigure 1 (some .boolean) { frames := 1, cells := 0, slots := 0, locals := 25 } D (Tys cI cZ cD cH) [.int a1] [] [] (some (.int (bI o))) 0 0 := by
  refine mkZ (by decide) (Nat.le_of_ble_eq_true rfl) ?_
  intro p e s m args below meth c A Q X hret ls hl H locs hP hD hS
  replace X : Cx p s m args c D (Tys cI cZ cD cH) A cX7_isFigure RX7 1 := X
  obtain ⟨hx, hb, hml, hown, hts, hK, hZ, hA⟩ := id X
  have hl : lv_has ls 1 [(0, .int a1)] := hl
  unfold fX7_isFigure at hf
  refine lv_iload_n hx hb dX7_isFigure_0 rfl (lv_at hl 0 rfl) ?_
  refine lv_i2l (v := a1.toInt64) hx hb dX7_isFigure_1 rfl ?_
  refine lv_ldc2 hx hb hown (hts _ cl_RX7_63) dX7_isFigure_2 ?_
  refine lv_ldc2 hx hb hown (hts _ cl_RX7_65) dX7_isFigure_5 ?_
  obtain ⟨r1, hr1, hf⟩ := bnd hf
  refine k_callS X hP hD hS [] (ctX7_in l D cI cZ cD cH a1.toInt64 48 57 r1 hr1) ml_RX7_51 sm_yX7_in in_RX7 cd_yX7_in rfl rfl hd_yX7_in ⟨by decide, by decide⟩ ⟨Nat.zero_le _, Nat.zero_le _⟩ [] [] rfl (by decide +kernel) rfl (by decide +kernel) rfl rfl hl.1 rfl rfl (Nat.le_of_ble_eq_true rfl) rfl dX7_isFigure_8 (fun H locs hP hD hS => ?_)
  replace hf := Option.some.inj hf
  subst hf
  exact hret H locs _ ls dX7_isFigure_11 hP hD hS

def sX7_readLetters_13 (g_size : Int32) (g_text : Nat → Int32) (g_at : Int32) : Option ((Int32) ⊕ ((Int32))) :=
  if g_size ≤ g_at then some (.inr g_at) else if inb g_at 200 = true then (fX7_isLetter (g_text g_at.toNatClampNeg)).bind (fun r5 => if (bI r5) = 0 then some (.inr g_at) else some (.inl (g_at + 1))) else none
def fX7_readLetters (g_size : Int32) (g_at : Int32) (g_begin : Int32) (g_text : Nat → Int32) : Option (Int32 × Int32 × Int32) :=
  if inb g_at 200 = true then (lpd (fun s2 => sX7_readLetters_13 g_size g_text s2) FU g_at).bind (fun (y2_0 : Int32) => jn (fun (x3 : Int32) => jn (fun (x4 : Int32) => some (y2_0, x4, g_text g_at.toNatClampNeg)) (fun K4 => jn (fun (x5 : Unit) => K4 4) (fun K5 => if x3 = 0 then K5 () else if (y2_0 - g_begin) = 1 then K4 1 else K5 ()))) (fun K3 => jn (fun (x8 : Unit) => K3 1) (fun K8 => if (g_text g_at.toNatClampNeg) = 121 then K8 () else if (g_text g_at.toNatClampNeg) = 115 then K8 () else if (g_text g_at.toNatClampNeg) = 98 then K8 () else if (g_text g_at.toNatClampNeg) = 116 then K8 () else if (g_text g_at.toNatClampNeg) = 113 then K8 () else if (g_text g_at.toNatClampNeg) = 100 then K8 () else K3 0))) else none
set_option maxHeartbeats 4000000 in
set_option maxRecDepth 100000 in
theorem ctX7_readLetters (l : Launch) (D : va_G) (cI cZ cD cH : ClassId) (qg : Nat) (qg_text : Nat) (qg_read : Nat) (qg_life : Nat) (qg_done : Nat) (qg_undone : Nat) (qg_selves : Nat) (qg_when : Nat) (qg_jury : Nat) (qg_years : Nat) (qg_states : Nat) (qg_kept : Nat) (g_size : Int32) (g_at : Int32) (g_begin : Int32) (g_token : Int32) (g_told : Int32) (g_dones : Int32) (g_undos : Int32) (g_seens : Int32) (g_trace : Int64) (g_text : Nat → Int32) (g_read : Nat → Int32) (g_life : Nat → Int32) (g_done : Nat → Int32) (g_undone : Nat → Int32) (g_selves : Nat → Int32) (g_when : Nat → Int32) (g_jury : Nat → Int32) (g_years : Nat → Int32) (g_states : Nat → Int32) (g_kept : Nat → Int32) (o : Int32 × Int32 × Int32) (hf : fX7_readLetters g_size g_at g_begin g_text = some o) : Ct l yX7_readLetters cX7_readLetters 2 none { frames := 2, cells := 0, slots := 0, locals := 45 } D (Tys cI cZ cD cH) [.ref qg] [(qg, .inr (7, [.ref qg_text, .int g_size, .int g_at, .int g_begin, .int g_token, .int g_told, .ref qg_read, .ref qg_life, .int g_dones, .ref qg_done, .int g_undos, .ref qg_undone, .ref qg_selves, .ref qg_when, .ref qg_jury, .int g_seens, .ref qg_years, .ref qg_states, .long g_trace, .ref qg_kept])), rI cI qg_text 200 g_text, rI cI qg_read 55 g_read, rI cI qg_life 55 g_life, rI cI qg_done 16 g_done, rI cI qg_undone 130 g_undone, rI cI qg_selves 16 g_selves, rI cI qg_when 27 g_when, rI cI qg_jury 16 g_jury, rI cI qg_years 6 g_years, rI cI qg_states 6 g_states, rI cI qg_kept 290 g_kept] [(qg, .inr (7, [.ref qg_text, .int g_size, .int o.1, .int g_begin, .int o.2.1, .int o.2.2, .ref qg_read, .ref qg_life, .int g_dones, .ref qg_done, .int g_undos, .ref qg_undone, .ref qg_selves, .ref qg_when, .ref qg_jury, .int g_seens, .ref qg_years, .ref qg_states, .long g_trace, .ref qg_kept])), rI cI qg_text 200 g_text, rI cI qg_read 55 g_read, rI cI qg_life 55 g_life, rI cI qg_done 16 g_done, rI cI qg_undone 130 g_undone, rI cI qg_selves 16 g_selves, rI cI qg_when 27 g_when, rI cI qg_jury 16 g_jury, rI cI qg_years 6 g_years, rI cI qg_states 6 g_states, rI cI qg_kept 290 g_kept] none 0 0 := by
  refine mkV (by decide) (Nat.le_of_ble_eq_true rfl) ?_
  intro p e s m args below meth c A Q X hnm hret ls hl H locs hP hD hS
  replace X : Cx p s m args c D (Tys cI cZ cD cH) A cX7_readLetters RX7 2 := X
  obtain ⟨hx, hb, hml, hown, hts, hK, hZ, hA⟩ := id X
  have hl : lv_has ls 2 [(0, .ref qg)] := hl
  unfold fX7_readLetters at hf
  refine lv_aload_n hx hb dX7_readLetters_0 rfl (lv_at hl 0 rfl) ?_
  refine lv_aload_n hx hb dX7_readLetters_1 rfl (lv_at hl 0 rfl) ?_
  refine k_get X hP 0 rfl rfl inX7 0 (by decide) fl_RX7_7 rfl rfl dX7_readLetters_2 ?_
  refine lv_aload_n hx hb dX7_readLetters_5 rfl (lv_at hl 0 rfl) ?_
  refine k_get X hP 0 rfl rfl inX7 2 (by decide) fl_RX7_67 rfl rfl dX7_readLetters_6 ?_
  obtain ⟨h1, hf⟩ := ck_t hf
  refine k_iald X hP 1 0 rfl rfl h1 dX7_readLetters_9 ?_
  refine k_put X hP hD hS [(qg, .inr (7, [.ref qg_text, .int g_size, .int g_at, .int g_begin, .int g_token, .int (g_text g_at.toNatClampNeg), .ref qg_read, .ref qg_life, .int g_dones, .ref qg_done, .int g_undos, .ref qg_undone, .ref qg_selves, .ref qg_when, .ref qg_jury, .int g_seens, .ref qg_years, .ref qg_states, .long g_trace, .ref qg_kept])), rI cI qg_text 200 g_text, rI cI qg_read 55 g_read, rI cI qg_life 55 g_life, rI cI qg_done 16 g_done, rI cI qg_undone 130 g_undone, rI cI qg_selves 16 g_selves, rI cI qg_when 27 g_when, rI cI qg_jury 16 g_jury, rI cI qg_years 6 g_years, rI cI qg_states 6 g_states, rI cI qg_kept 290 g_kept] 0 rfl rfl inX7 tyX7_ok nmX7 5 (by decide) fl_RX7_70 rfl rfl rfl rfl (Nat.le_of_ble_eq_true rfl) rfl dX7_readLetters_10 (fun H locs hP hD hS => ?_)
  obtain ⟨e2, he2, hf⟩ := bnd hf
  have hx2_0 : ∀ (y2_0 : Int32), y2_0 = e2 → ∀ (H : Heap) (locs : List Loc) (ls : Array Slot), va_P D vwCl [(qg, .inr (7, [.ref qg_text, .int g_size, .int y2_0, .int g_begin, .int g_token, .int (g_text g_at.toNatClampNeg), .ref qg_read, .ref qg_life, .int g_dones, .ref qg_done, .int g_undos, .ref qg_undone, .ref qg_selves, .ref qg_when, .ref qg_jury, .int g_seens, .ref qg_years, .ref qg_states, .long g_trace, .ref qg_kept])), rI cI qg_text 200 g_text, rI cI qg_read 55 g_read, rI cI qg_life 55 g_life, rI cI qg_done 16 g_done, rI cI qg_undone 130 g_undone, rI cI qg_selves 16 g_selves, rI cI qg_when 27 g_when, rI cI qg_jury 16 g_jury, rI cI qg_years 6 g_years, rI cI qg_states 6 g_states, rI cI qg_kept 290 g_kept] H → va_D A [(qg, .inr (7, [.ref qg_text, .int g_size, .int y2_0, .int g_begin, .int g_token, .int (g_text g_at.toNatClampNeg), .ref qg_read, .ref qg_life, .int g_dones, .ref qg_done, .int g_undos, .ref qg_undone, .ref qg_selves, .ref qg_when, .ref qg_jury, .int g_seens, .ref qg_years, .ref qg_states, .long g_trace, .ref qg_kept])), rI cI qg_text 200 g_text, rI cI qg_read 55 g_read, rI cI qg_life 55 g_life, rI cI qg_done 16 g_done, rI cI qg_undone 130 g_undone, rI cI qg_selves 16 g_selves, rI cI qg_when 27 g_when, rI cI qg_jury 16 g_jury, rI cI qg_years 6 g_years, rI cI qg_states 6 g_states, rI cI qg_kept 290 g_kept] → va_S A s.heap H locs → lv_has ls 2 [(0, .ref qg)] → W p l e ({ frames := 2, cells := 0, slots := 0, locals := 45 } : Room) s m args below meth c H locs 0 0 Q (F0 m 52 ls []) := by
    intro y2_0 heq H locs ls hP hD hS hl
    subst heq
    refine lv_aload_n hx hb dX7_readLetters_52 rfl (lv_at hl 0 rfl) ?_
    refine k_get X hP 0 rfl rfl inX7 5 (by decide) fl_RX7_70 rfl rfl dX7_readLetters_53 ?_
    refine lv_bipush (v := 121) hx hb dX7_readLetters_56 (by decide) ?_
    refine jn_e hf (fun K3 hf hk3 => ?_)
    have hj3 : ∀ (x3 : Int32) (H : Heap) (locs : List Loc) (ls : Array Slot), K3 x3 = some o → va_P D vwCl [(qg, .inr (7, [.ref qg_text, .int g_size, .int y2_0, .int g_begin, .int g_token, .int (g_text g_at.toNatClampNeg), .ref qg_read, .ref qg_life, .int g_dones, .ref qg_done, .int g_undos, .ref qg_undone, .ref qg_selves, .ref qg_when, .ref qg_jury, .int g_seens, .ref qg_years, .ref qg_states, .long g_trace, .ref qg_kept])), rI cI qg_text 200 g_text, rI cI qg_read 55 g_read, rI cI qg_life 55 g_life, rI cI qg_done 16 g_done, rI cI qg_undone 130 g_undone, rI cI qg_selves 16 g_selves, rI cI qg_when 27 g_when, rI cI qg_jury 16 g_jury, rI cI qg_years 6 g_years, rI cI qg_states 6 g_states, rI cI qg_kept 290 g_kept] H → va_D A [(qg, .inr (7, [.ref qg_text, .int g_size, .int y2_0, .int g_begin, .int g_token, .int (g_text g_at.toNatClampNeg), .ref qg_read, .ref qg_life, .int g_dones, .ref qg_done, .int g_undos, .ref qg_undone, .ref qg_selves, .ref qg_when, .ref qg_jury, .int g_seens, .ref qg_years, .ref qg_states, .long g_trace, .ref qg_kept])), rI cI qg_text 200 g_text, rI cI qg_read 55 g_read, rI cI qg_life 55 g_life, rI cI qg_done 16 g_done, rI cI qg_undone 130 g_undone, rI cI qg_selves 16 g_selves, rI cI qg_when 27 g_when, rI cI qg_jury 16 g_jury, rI cI qg_years 6 g_years, rI cI qg_states 6 g_states, rI cI qg_kept 290 g_kept] → va_S A s.heap H locs → lv_has ls 2 [(0, .ref qg)] → W p l e ({ frames := 2, cells := 0, slots := 0, locals := 45 } : Room) s m args below meth c H locs 0 0 Q (F0 m 111 ls [.int x3]) := by
      intro x3 H locs ls hf hP hD hS hl
      replace hf := hk3 x3 hf
      refine lv_istore_n (lv' := [(1, .int x3), (0, .ref qg)]) hx hb dX7_readLetters_111 rfl hl (by decide) rfl (fun ls hl => ?_)
      refine lv_aload_n hx hb dX7_readLetters_112 rfl (lv_at hl 1 rfl) ?_
      refine lv_iload_n hx hb dX7_readLetters_113 rfl (lv_at hl 0 rfl) ?_
      refine jn_e hf (fun K4 hf hk4 => ?_)
      have hj4 : ∀ (x4 : Int32) (H : Heap) (locs : List Loc) (ls : Array Slot), K4 x4 = some o → va_P D vwCl [(qg, .inr (7, [.ref qg_text, .int g_size, .int y2_0, .int g_begin, .int g_token, .int (g_text g_at.toNatClampNeg), .ref qg_read, .ref qg_life, .int g_dones, .ref qg_done, .int g_undos, .ref qg_undone, .ref qg_selves, .ref qg_when, .ref qg_jury, .int g_seens, .ref qg_years, .ref qg_states, .long g_trace, .ref qg_kept])), rI cI qg_text 200 g_text, rI cI qg_read 55 g_read, rI cI qg_life 55 g_life, rI cI qg_done 16 g_done, rI cI qg_undone 130 g_undone, rI cI qg_selves 16 g_selves, rI cI qg_when 27 g_when, rI cI qg_jury 16 g_jury, rI cI qg_years 6 g_years, rI cI qg_states 6 g_states, rI cI qg_kept 290 g_kept] H → va_D A [(qg, .inr (7, [.ref qg_text, .int g_size, .int y2_0, .int g_begin, .int g_token, .int (g_text g_at.toNatClampNeg), .ref qg_read, .ref qg_life, .int g_dones, .ref qg_done, .int g_undos, .ref qg_undone, .ref qg_selves, .ref qg_when, .ref qg_jury, .int g_seens, .ref qg_years, .ref qg_states, .long g_trace, .ref qg_kept])), rI cI qg_text 200 g_text, rI cI qg_read 55 g_read, rI cI qg_life 55 g_life, rI cI qg_done 16 g_done, rI cI qg_undone 130 g_undone, rI cI qg_selves 16 g_selves, rI cI qg_when 27 g_when, rI cI qg_jury 16 g_jury, rI cI qg_years 6 g_years, rI cI qg_states 6 g_states, rI cI qg_kept 290 g_kept] → va_S A s.heap H locs → lv_has ls 2 [] → W p l e ({ frames := 2, cells := 0, slots := 0, locals := 45 } : Room) s m args below meth c H locs 0 0 Q (F0 m 135 ls [.int x4, .ref qg]) := by
        intro x4 H locs ls hf hP hD hS hl
        replace hf := hk4 x4 hf
        refine k_put X hP hD hS [(qg, .inr (7, [.ref qg_text, .int g_size, .int y2_0, .int g_begin, .int x4, .int (g_text g_at.toNatClampNeg), .ref qg_read, .ref qg_life, .int g_dones, .ref qg_done, .int g_undos, .ref qg_undone, .ref qg_selves, .ref qg_when, .ref qg_jury, .int g_seens, .ref qg_years, .ref qg_states, .long g_trace, .ref qg_kept])), rI cI qg_text 200 g_text, rI cI qg_read 55 g_read, rI cI qg_life 55 g_life, rI cI qg_done 16 g_done, rI cI qg_undone 130 g_undone, rI cI qg_selves 16 g_selves, rI cI qg_when 27 g_when, rI cI qg_jury 16 g_jury, rI cI qg_years 6 g_years, rI cI qg_states 6 g_states, rI cI qg_kept 290 g_kept] 0 rfl rfl inX7 tyX7_ok nmX7 4 (by decide) fl_RX7_80 rfl rfl rfl rfl (Nat.le_of_ble_eq_true rfl) rfl dX7_readLetters_135 (fun H locs hP hD hS => ?_)
        replace hf := Option.some.inj hf
        subst hf
        exact hret H locs _ ls dX7_readLetters_138 hP hD hS
      refine jn_e hf (fun K5 hf hk5 => ?_)
      have hj5 : ∀ (x5 : Unit) (H : Heap) (locs : List Loc) (ls : Array Slot), K5 x5 = some o → va_P D vwCl [(qg, .inr (7, [.ref qg_text, .int g_size, .int y2_0, .int g_begin, .int g_token, .int (g_text g_at.toNatClampNeg), .ref qg_read, .ref qg_life, .int g_dones, .ref qg_done, .int g_undos, .ref qg_undone, .ref qg_selves, .ref qg_when, .ref qg_jury, .int g_seens, .ref qg_years, .ref qg_states, .long g_trace, .ref qg_kept])), rI cI qg_text 200 g_text, rI cI qg_read 55 g_read, rI cI qg_life 55 g_life, rI cI qg_done 16 g_done, rI cI qg_undone 130 g_undone, rI cI qg_selves 16 g_selves, rI cI qg_when 27 g_when, rI cI qg_jury 16 g_jury, rI cI qg_years 6 g_years, rI cI qg_states 6 g_states, rI cI qg_kept 290 g_kept] H → va_D A [(qg, .inr (7, [.ref qg_text, .int g_size, .int y2_0, .int g_begin, .int g_token, .int (g_text g_at.toNatClampNeg), .ref qg_read, .ref qg_life, .int g_dones, .ref qg_done, .int g_undos, .ref qg_undone, .ref qg_selves, .ref qg_when, .ref qg_jury, .int g_seens, .ref qg_years, .ref qg_states, .long g_trace, .ref qg_kept])), rI cI qg_text 200 g_text, rI cI qg_read 55 g_read, rI cI qg_life 55 g_life, rI cI qg_done 16 g_done, rI cI qg_undone 130 g_undone, rI cI qg_selves 16 g_selves, rI cI qg_when 27 g_when, rI cI qg_jury 16 g_jury, rI cI qg_years 6 g_years, rI cI qg_states 6 g_states, rI cI qg_kept 290 g_kept] → va_S A s.heap H locs → lv_has ls 2 [] → W p l e ({ frames := 2, cells := 0, slots := 0, locals := 45 } : Room) s m args below meth c H locs 0 0 Q (F0 m 134 ls [.ref qg]) := by
        intro x5 H locs ls hf hP hD hS hl
        replace hf := hk5 x5 hf
        refine lv_iconst (v := 4) hx hb dX7_readLetters_134 (by decide) ?_
        exact hj4 _ H locs ls hf hP hD hS hl
      refine lv_if_eq (tgt := 134) hx hb dX7_readLetters_114 (by decide) (fun c6 => ?_) (fun c6 => ?_)
      · replace hf := ite_t c6 hf
        exact hj5 _ H locs ls hf hP hD hS (lv_sub hl [] rfl)
      · replace hf := ite_f c6 hf
        refine lv_aload_n hx hb dX7_readLetters_117 rfl (lv_at hl 1 rfl) ?_
        refine k_get X hP 0 rfl rfl inX7 2 (by decide) fl_RX7_67 rfl rfl dX7_readLetters_118 ?_
        refine lv_aload_n hx hb dX7_readLetters_121 rfl (lv_at hl 1 rfl) ?_
        refine k_get X hP 0 rfl rfl inX7 3 (by decide) fl_RX7_77 rfl rfl dX7_readLetters_122 ?_
        refine lv_isub hx hb dX7_readLetters_125 ?_
        refine lv_iconst (v := 1) hx hb dX7_readLetters_126 (by decide) ?_
        refine lv_icmp_ne (tgt := 134) hx hb dX7_readLetters_127 (by decide) (fun c7 => ?_) (fun c7 => ?_)
        · replace hf := ite_f c7 hf
          exact hj5 _ H locs ls hf hP hD hS (lv_sub hl [] rfl)
        · replace hf := ite_t c7 hf
          refine lv_iconst (v := 1) hx hb dX7_readLetters_130 (by decide) ?_
          refine lv_goto (tgt := 135) hx hb dX7_readLetters_131 (by decide) ?_
          exact hj4 _ H locs ls hf hP hD hS (lv_sub hl [] rfl)
    refine jn_e hf (fun K8 hf hk8 => ?_)
    have hj8 : ∀ (x8 : Unit) (H : Heap) (locs : List Loc) (ls : Array Slot), K8 x8 = some o → va_P D vwCl [(qg, .inr (7, [.ref qg_text, .int g_size, .int y2_0, .int g_begin, .int g_token, .int (g_text g_at.toNatClampNeg), .ref qg_read, .ref qg_life, .int g_dones, .ref qg_done, .int g_undos, .ref qg_undone, .ref qg_selves, .ref qg_when, .ref qg_jury, .int g_seens, .ref qg_years, .ref qg_states, .long g_trace, .ref qg_kept])), rI cI qg_text 200 g_text, rI cI qg_read 55 g_read, rI cI qg_life 55 g_life, rI cI qg_done 16 g_done, rI cI qg_undone 130 g_undone, rI cI qg_selves 16 g_selves, rI cI qg_when 27 g_when, rI cI qg_jury 16 g_jury, rI cI qg_years 6 g_years, rI cI qg_states 6 g_states, rI cI qg_kept 290 g_kept] H → va_D A [(qg, .inr (7, [.ref qg_text, .int g_size, .int y2_0, .int g_begin, .int g_token, .int (g_text g_at.toNatClampNeg), .ref qg_read, .ref qg_life, .int g_dones, .ref qg_done, .int g_undos, .ref qg_undone, .ref qg_selves, .ref qg_when, .ref qg_jury, .int g_seens, .ref qg_years, .ref qg_states, .long g_trace, .ref qg_kept])), rI cI qg_text 200 g_text, rI cI qg_read 55 g_read, rI cI qg_life 55 g_life, rI cI qg_done 16 g_done, rI cI qg_undone 130 g_undone, rI cI qg_selves 16 g_selves, rI cI qg_when 27 g_when, rI cI qg_jury 16 g_jury, rI cI qg_years 6 g_years, rI cI qg_states 6 g_states, rI cI qg_kept 290 g_kept] → va_S A s.heap H locs → lv_has ls 2 [(0, .ref qg)] → W p l e ({ frames := 2, cells := 0, slots := 0, locals := 45 } : Room) s m args below meth c H locs 0 0 Q (F0 m 106 ls []) := by
      intro x8 H locs ls hf hP hD hS hl
      replace hf := hk8 x8 hf
      refine lv_iconst (v := 1) hx hb dX7_readLetters_106 (by decide) ?_
      refine lv_goto (tgt := 111) hx hb dX7_readLetters_107 (by decide) ?_
      exact hj3 _ H locs ls hf hP hD hS hl
    refine lv_icmp_eq (tgt := 106) hx hb dX7_readLetters_58 (by decide) (fun c9 => ?_) (fun c9 => ?_)
    · replace hf := ite_t c9 hf
      exact hj8 _ H locs ls hf hP hD hS hl
    · replace hf := ite_f c9 hf
      refine lv_aload_n hx hb dX7_readLetters_61 rfl (lv_at hl 0 rfl) ?_
      refine k_get X hP 0 rfl rfl inX7 5 (by decide) fl_RX7_70 rfl rfl dX7_readLetters_62 ?_
      refine lv_bipush (v := 115) hx hb dX7_readLetters_65 (by decide) ?_
      refine lv_icmp_eq (tgt := 106) hx hb dX7_readLetters_67 (by decide) (fun c10 => ?_) (fun c10 => ?_)
      · replace hf := ite_t c10 hf
        exact hj8 _ H locs ls hf hP hD hS hl
      · replace hf := ite_f c10 hf
        refine lv_aload_n hx hb dX7_readLetters_70 rfl (lv_at hl 0 rfl) ?_
        refine k_get X hP 0 rfl rfl inX7 5 (by decide) fl_RX7_70 rfl rfl dX7_readLetters_71 ?_
        refine lv_bipush (v := 98) hx hb dX7_readLetters_74 (by decide) ?_
        refine lv_icmp_eq (tgt := 106) hx hb dX7_readLetters_76 (by decide) (fun c11 => ?_) (fun c11 => ?_)
        · replace hf := ite_t c11 hf
          exact hj8 _ H locs ls hf hP hD hS hl
        · replace hf := ite_f c11 hf
          refine lv_aload_n hx hb dX7_readLetters_79 rfl (lv_at hl 0 rfl) ?_
          refine k_get X hP 0 rfl rfl inX7 5 (by decide) fl_RX7_70 rfl rfl dX7_readLetters_80 ?_
          refine lv_bipush (v := 116) hx hb dX7_readLetters_83 (by decide) ?_
          refine lv_icmp_eq (tgt := 106) hx hb dX7_readLetters_85 (by decide) (fun c12 => ?_) (fun c12 => ?_)
          · replace hf := ite_t c12 hf
            exact hj8 _ H locs ls hf hP hD hS hl
          · replace hf := ite_f c12 hf
            refine lv_aload_n hx hb dX7_readLetters_88 rfl (lv_at hl 0 rfl) ?_
            refine k_get X hP 0 rfl rfl inX7 5 (by decide) fl_RX7_70 rfl rfl dX7_readLetters_89 ?_
            refine lv_bipush (v := 113) hx hb dX7_readLetters_92 (by decide) ?_
            refine lv_icmp_eq (tgt := 106) hx hb dX7_readLetters_94 (by decide) (fun c13 => ?_) (fun c13 => ?_)
            · replace hf := ite_t c13 hf
              exact hj8 _ H locs ls hf hP hD hS hl
            · replace hf := ite_f c13 hf
              refine lv_aload_n hx hb dX7_readLetters_97 rfl (lv_at hl 0 rfl) ?_
              refine k_get X hP 0 rfl rfl inX7 5 (by decide) fl_RX7_70 rfl rfl dX7_readLetters_98 ?_
              refine lv_bipush (v := 100) hx hb dX7_readLetters_101 (by decide) ?_
              refine lv_icmp_ne (tgt := 110) hx hb dX7_readLetters_103 (by decide) (fun c14 => ?_) (fun c14 => ?_)
              · replace hf := ite_f c14 hf
                refine lv_iconst (v := 0) hx hb dX7_readLetters_110 (by decide) ?_
                exact hj3 _ H locs ls hf hP hD hS hl
              · replace hf := ite_t c14 hf
                exact hj8 _ H locs ls hf hP hD hS hl
  refine lpd_ind (P := fun s2 => ∀ (H : Heap) (locs : List Loc) (ls : Array Slot), va_P D vwCl [(qg, .inr (7, [.ref qg_text, .int g_size, .int s2, .int g_begin, .int g_token, .int (g_text g_at.toNatClampNeg), .ref qg_read, .ref qg_life, .int g_dones, .ref qg_done, .int g_undos, .ref qg_undone, .ref qg_selves, .ref qg_when, .ref qg_jury, .int g_seens, .ref qg_years, .ref qg_states, .long g_trace, .ref qg_kept])), rI cI qg_text 200 g_text, rI cI qg_read 55 g_read, rI cI qg_life 55 g_life, rI cI qg_done 16 g_done, rI cI qg_undone 130 g_undone, rI cI qg_selves 16 g_selves, rI cI qg_when 27 g_when, rI cI qg_jury 16 g_jury, rI cI qg_years 6 g_years, rI cI qg_states 6 g_states, rI cI qg_kept 290 g_kept] H → va_D A [(qg, .inr (7, [.ref qg_text, .int g_size, .int s2, .int g_begin, .int g_token, .int (g_text g_at.toNatClampNeg), .ref qg_read, .ref qg_life, .int g_dones, .ref qg_done, .int g_undos, .ref qg_undone, .ref qg_selves, .ref qg_when, .ref qg_jury, .int g_seens, .ref qg_years, .ref qg_states, .long g_trace, .ref qg_kept])), rI cI qg_text 200 g_text, rI cI qg_read 55 g_read, rI cI qg_life 55 g_life, rI cI qg_done 16 g_done, rI cI qg_undone 130 g_undone, rI cI qg_selves 16 g_selves, rI cI qg_when 27 g_when, rI cI qg_jury 16 g_jury, rI cI qg_years 6 g_years, rI cI qg_states 6 g_states, rI cI qg_kept 290 g_kept] → va_S A s.heap H locs → lv_has ls 2 [(0, .ref qg)] → W p l e ({ frames := 2, cells := 0, slots := 0, locals := 45 } : Room) s m args below meth c H locs 0 0 Q (F0 m 13 ls [])) e2 ?_ _ _ he2 H locs ls hP hD hS hl
  intro s2 r2 hf ih2 hq2 H locs ls hP hD hS hl
  unfold sX7_readLetters_13 at hf
  refine lv_aload_n hx hb dX7_readLetters_13 rfl (lv_at hl 0 rfl) ?_
  refine k_get X hP 0 rfl rfl inX7 2 (by decide) fl_RX7_67 rfl rfl dX7_readLetters_14 ?_
  refine lv_aload_n hx hb dX7_readLetters_17 rfl (lv_at hl 0 rfl) ?_
  refine k_get X hP 0 rfl rfl inX7 1 (by decide) fl_RX7_55 rfl rfl dX7_readLetters_18 ?_
  refine lv_icmp_ge (tgt := 52) hx hb dX7_readLetters_21 (by decide) (fun c15 => ?_) (fun c15 => ?_)
  · replace hf := ite_t c15 hf
    exact hx2_0 _ (hq2 _ (Option.some.inj hf).symm) H locs ls hP hD hS hl
  · replace hf := ite_f c15 hf
    refine lv_aload_n hx hb dX7_readLetters_24 rfl (lv_at hl 0 rfl) ?_
    refine k_get X hP 0 rfl rfl inX7 0 (by decide) fl_RX7_7 rfl rfl dX7_readLetters_25 ?_
    refine lv_aload_n hx hb dX7_readLetters_28 rfl (lv_at hl 0 rfl) ?_
    refine k_get X hP 0 rfl rfl inX7 2 (by decide) fl_RX7_67 rfl rfl dX7_readLetters_29 ?_
    obtain ⟨h16, hf⟩ := ck_t hf
    refine k_iald X hP 1 0 rfl rfl h16 dX7_readLetters_32 ?_
    obtain ⟨r17, hr17, hf⟩ := bnd hf
    refine k_callS X hP hD hS [(qg, .inr (7, [.ref qg_text, .int g_size, .int s2, .int g_begin, .int g_token, .int (g_text g_at.toNatClampNeg), .ref qg_read, .ref qg_life, .int g_dones, .ref qg_done, .int g_undos, .ref qg_undone, .ref qg_selves, .ref qg_when, .ref qg_jury, .int g_seens, .ref qg_years, .ref qg_states, .long g_trace, .ref qg_kept])), rI cI qg_text 200 g_text, rI cI qg_read 55 g_read, rI cI qg_life 55 g_life, rI cI qg_done 16 g_done, rI cI qg_undone 130 g_undone, rI cI qg_selves 16 g_selves, rI cI qg_when 27 g_when, rI cI qg_jury 16 g_jury, rI cI qg_years 6 g_years, rI cI qg_states 6 g_states, rI cI qg_kept 290 g_kept] (ctX7_isLetter l D cI cZ cD cH (g_text s2.toNatClampNeg) r17 hr17) ml_RX7_73 sm_yX7_isLetter in_RX7 cd_yX7_isLetter rfl rfl hd_yX7_isLetter ⟨by decide, by decide⟩ ⟨Nat.zero_le _, Nat.zero_le _⟩ [] [none, none, none, none, none, none, none, none, none, none, none, none] rfl (by decide +kernel) rfl (by decide +kernel) rfl rfl hl.1 rfl rfl (Nat.le_of_ble_eq_true rfl) rfl dX7_readLetters_33 (fun H locs hP hD hS => ?_)
    refine lv_if_eq (tgt := 52) hx hb dX7_readLetters_36 (by decide) (fun c18 => ?_) (fun c18 => ?_)
    · replace hf := ite_t c18 hf
      exact hx2_0 _ (hq2 _ (Option.some.inj hf).symm) H locs ls hP hD hS hl
    · replace hf := ite_f c18 hf
      refine lv_aload_n hx hb dX7_readLetters_39 rfl (lv_at hl 0 rfl) ?_
      refine lv_dup hx hb dX7_readLetters_40 rfl ?_
      refine k_get X hP 0 rfl rfl inX7 2 (by decide) fl_RX7_67 rfl rfl dX7_readLetters_41 ?_
      refine lv_iconst (v := 1) hx hb dX7_readLetters_44 (by decide) ?_
      refine lv_iadd hx hb dX7_readLetters_45 ?_
      refine k_put X hP hD hS [(qg, .inr (7, [.ref qg_text, .int g_size, .int (s2 + 1), .int g_begin, .int g_token, .int (g_text g_at.toNatClampNeg), .ref qg_read, .ref qg_life, .int g_dones, .ref qg_done, .int g_undos, .ref qg_undone, .ref qg_selves, .ref qg_when, .ref qg_jury, .int g_seens, .ref qg_years, .ref qg_states, .long g_trace, .ref qg_kept])), rI cI qg_text 200 g_text, rI cI qg_read 55 g_read, rI cI qg_life 55 g_life, rI cI qg_done 16 g_done, rI cI qg_undone 130 g_undone, rI cI qg_selves 16 g_selves, rI cI qg_when 27 g_when, rI cI qg_jury 16 g_jury, rI cI qg_years 6 g_years, rI cI qg_states 6 g_states, rI cI qg_kept 290 g_kept] 0 rfl rfl inX7 tyX7_ok nmX7 2 (by decide) fl_RX7_67 rfl rfl rfl rfl (Nat.le_of_ble_eq_true rfl) rfl dX7_readLetters_46 (fun H locs hP hD hS => ?_)
      refine lv_goto (tgt := 13) hx hb dX7_readLetters_49 (by decide) ?_
      exact ih2 _ (Option.some.inj hf).symm H locs ls hP hD hS hl

def sX7_readNumber_2 (g_size : Int32) (g_text : Nat → Int32) (v1 : Int32) (g_at : Int32) : Option ((Int32 × Int32) ⊕ ((Int32 × Int32))) :=
  if g_size ≤ g_at then some (.inr (v1, g_at)) else if inb g_at 200 = true then (fX7_isFigure (g_text g_at.toNatClampNeg)).bind (fun r4 => if (bI r4) = 0 then some (.inr (v1, g_at)) else jn (fun (x6 : Int32) => some (.inl (x6, g_at + 1))) (fun K6 => if v1 ≤ 99 then if inb g_at 200 = true then K6 (((10 * v1) + (g_text g_at.toNatClampNeg)) - 48) else none else K6 v1)) else none
def fX7_readNumber (g_size : Int32) (g_at : Int32) (g_begin : Int32) (g_text : Nat → Int32) : Option (Int32 × Int32 × Int32) :=
  (lpd (fun s1 => sX7_readNumber_2 g_size g_text s1.1 s1.2) FU (0, g_at)).bind (fun (y1_0 : Int32 × Int32) => jn (fun (x2 : Int32) => some (y1_0.2, x2, y1_0.1)) (fun K2 => jn (fun (x3 : Unit) => K2 4) (fun K3 => if 99 < y1_0.1 then K3 () else jn (fun (x5 : Unit) => K2 2) (fun K5 => if (y1_0.2 - g_begin) ≤ 1 then K5 () else if inb g_begin 200 = true then if (g_text g_begin.toNatClampNeg) = 48 then K3 () else K5 () else none))))
set_option maxHeartbeats 4000000 in
set_option maxRecDepth 100000 in
theorem ctX7_readNumber (l : Launch) (D : va_G) (cI cZ cD cH : ClassId) (qg : Nat) (qg_text : Nat) (qg_read : Nat) (qg_life : Nat) (qg_done : Nat) (qg_undone : Nat) (qg_selves : Nat) (qg_when : Nat) (qg_jury : Nat) (qg_years : Nat) (qg_states : Nat) (qg_kept : Nat) (g_size : Int32) (g_at : Int32) (g_begin : Int32) (g_token : Int32) (g_told : Int32) (g_dones : Int32) (g_undos : Int32) (g_seens : Int32) (g_trace : Int64) (g_text : Nat → Int32) (g_read : Nat → Int32) (g_life : Nat → Int32) (g_done : Nat → Int32) (g_undone : Nat → Int32) (g_selves : Nat → Int32) (g_when : Nat → Int32) (g_jury : Nat → Int32) (g_years : Nat → Int32) (g_states : Nat → Int32) (g_kept : Nat → Int32) (o : Int32 × Int32 × Int32) (hf : fX7_readNumber g_size g_at g_begin g_text = some o) : Ct l yX7_readNumber cX7_readNumber 2 none { frames := 2, cells := 0, slots := 0, locals := 45 } D (Tys cI cZ cD cH) [.ref qg] [(qg, .inr (7, [.ref qg_text, .int g_size, .int g_at, .int g_begin, .int g_token, .int g_told, .ref qg_read, .ref qg_life, .int g_dones, .ref qg_done, .int g_undos, .ref qg_undone, .ref qg_selves, .ref qg_when, .ref qg_jury, .int g_seens, .ref qg_years, .ref qg_states, .long g_trace, .ref qg_kept])), rI cI qg_text 200 g_text, rI cI qg_read 55 g_read, rI cI qg_life 55 g_life, rI cI qg_done 16 g_done, rI cI qg_undone 130 g_undone, rI cI qg_selves 16 g_selves, rI cI qg_when 27 g_when, rI cI qg_jury 16 g_jury, rI cI qg_years 6 g_years, rI cI qg_states 6 g_states, rI cI qg_kept 290 g_kept] [(qg, .inr (7, [.ref qg_text, .int g_size, .int o.1, .int g_begin, .int o.2.1, .int o.2.2, .ref qg_read, .ref qg_life, .int g_dones, .ref qg_done, .int g_undos, .ref qg_undone, .ref qg_selves, .ref qg_when, .ref qg_jury, .int g_seens, .ref qg_years, .ref qg_states, .long g_trace, .ref qg_kept])), rI cI qg_text 200 g_text, rI cI qg_read 55 g_read, rI cI qg_life 55 g_life, rI cI qg_done 16 g_done, rI cI qg_undone 130 g_undone, rI cI qg_selves 16 g_selves, rI cI qg_when 27 g_when, rI cI qg_jury 16 g_jury, rI cI qg_years 6 g_years, rI cI qg_states 6 g_states, rI cI qg_kept 290 g_kept] none 0 0 := by
  refine mkV (by decide) (Nat.le_of_ble_eq_true rfl) ?_
  intro p e s m args below meth c A Q X hnm hret ls hl H locs hP hD hS
  replace X : Cx p s m args c D (Tys cI cZ cD cH) A cX7_readNumber RX7 2 := X
  obtain ⟨hx, hb, hml, hown, hts, hK, hZ, hA⟩ := id X
  have hl : lv_has ls 2 [(0, .ref qg)] := hl
  unfold fX7_readNumber at hf
  refine lv_iconst (v := 0) hx hb dX7_readNumber_0 (by decide) ?_
  refine lv_istore_n (lv' := [(1, .int 0), (0, .ref qg)]) hx hb dX7_readNumber_1 rfl hl (by decide) rfl (fun ls hl => ?_)
  obtain ⟨e1, he1, hf⟩ := bnd hf
  have hx1_0 : ∀ (y1_0 : Int32 × Int32), y1_0 = e1 → ∀ (H : Heap) (locs : List Loc) (ls : Array Slot), va_P D vwCl [(qg, .inr (7, [.ref qg_text, .int g_size, .int y1_0.2, .int g_begin, .int g_token, .int g_told, .ref qg_read, .ref qg_life, .int g_dones, .ref qg_done, .int g_undos, .ref qg_undone, .ref qg_selves, .ref qg_when, .ref qg_jury, .int g_seens, .ref qg_years, .ref qg_states, .long g_trace, .ref qg_kept])), rI cI qg_text 200 g_text, rI cI qg_read 55 g_read, rI cI qg_life 55 g_life, rI cI qg_done 16 g_done, rI cI qg_undone 130 g_undone, rI cI qg_selves 16 g_selves, rI cI qg_when 27 g_when, rI cI qg_jury 16 g_jury, rI cI qg_years 6 g_years, rI cI qg_states 6 g_states, rI cI qg_kept 290 g_kept] H → va_D A [(qg, .inr (7, [.ref qg_text, .int g_size, .int y1_0.2, .int g_begin, .int g_token, .int g_told, .ref qg_read, .ref qg_life, .int g_dones, .ref qg_done, .int g_undos, .ref qg_undone, .ref qg_selves, .ref qg_when, .ref qg_jury, .int g_seens, .ref qg_years, .ref qg_states, .long g_trace, .ref qg_kept])), rI cI qg_text 200 g_text, rI cI qg_read 55 g_read, rI cI qg_life 55 g_life, rI cI qg_done 16 g_done, rI cI qg_undone 130 g_undone, rI cI qg_selves 16 g_selves, rI cI qg_when 27 g_when, rI cI qg_jury 16 g_jury, rI cI qg_years 6 g_years, rI cI qg_states 6 g_states, rI cI qg_kept 290 g_kept] → va_S A s.heap H locs → lv_has ls 2 [(0, .ref qg), (1, .int y1_0.1)] → W p l e ({ frames := 2, cells := 0, slots := 0, locals := 45 } : Room) s m args below meth c H locs 0 0 Q (F0 m 69 ls []) := by
    intro y1_0 heq H locs ls hP hD hS hl
    subst heq
    refine lv_aload_n hx hb dX7_readNumber_69 rfl (lv_at hl 0 rfl) ?_
    refine lv_iload_n hx hb dX7_readNumber_70 rfl (lv_at hl 1 rfl) ?_
    refine lv_bipush (v := 99) hx hb dX7_readNumber_71 (by decide) ?_
    refine jn_e hf (fun K2 hf hk2 => ?_)
    have hj2 : ∀ (x2 : Int32) (H : Heap) (locs : List Loc) (ls : Array Slot), K2 x2 = some o → va_P D vwCl [(qg, .inr (7, [.ref qg_text, .int g_size, .int y1_0.2, .int g_begin, .int g_token, .int g_told, .ref qg_read, .ref qg_life, .int g_dones, .ref qg_done, .int g_undos, .ref qg_undone, .ref qg_selves, .ref qg_when, .ref qg_jury, .int g_seens, .ref qg_years, .ref qg_states, .long g_trace, .ref qg_kept])), rI cI qg_text 200 g_text, rI cI qg_read 55 g_read, rI cI qg_life 55 g_life, rI cI qg_done 16 g_done, rI cI qg_undone 130 g_undone, rI cI qg_selves 16 g_selves, rI cI qg_when 27 g_when, rI cI qg_jury 16 g_jury, rI cI qg_years 6 g_years, rI cI qg_states 6 g_states, rI cI qg_kept 290 g_kept] H → va_D A [(qg, .inr (7, [.ref qg_text, .int g_size, .int y1_0.2, .int g_begin, .int g_token, .int g_told, .ref qg_read, .ref qg_life, .int g_dones, .ref qg_done, .int g_undos, .ref qg_undone, .ref qg_selves, .ref qg_when, .ref qg_jury, .int g_seens, .ref qg_years, .ref qg_states, .long g_trace, .ref qg_kept])), rI cI qg_text 200 g_text, rI cI qg_read 55 g_read, rI cI qg_life 55 g_life, rI cI qg_done 16 g_done, rI cI qg_undone 130 g_undone, rI cI qg_selves 16 g_selves, rI cI qg_when 27 g_when, rI cI qg_jury 16 g_jury, rI cI qg_years 6 g_years, rI cI qg_states 6 g_states, rI cI qg_kept 290 g_kept] → va_S A s.heap H locs → lv_has ls 2 [(0, .ref qg), (1, .int y1_0.1)] → W p l e ({ frames := 2, cells := 0, slots := 0, locals := 45 } : Room) s m args below meth c H locs 0 0 Q (F0 m 108 ls [.int x2, .ref qg]) := by
      intro x2 H locs ls hf hP hD hS hl
      replace hf := hk2 x2 hf
      refine k_put X hP hD hS [(qg, .inr (7, [.ref qg_text, .int g_size, .int y1_0.2, .int g_begin, .int x2, .int g_told, .ref qg_read, .ref qg_life, .int g_dones, .ref qg_done, .int g_undos, .ref qg_undone, .ref qg_selves, .ref qg_when, .ref qg_jury, .int g_seens, .ref qg_years, .ref qg_states, .long g_trace, .ref qg_kept])), rI cI qg_text 200 g_text, rI cI qg_read 55 g_read, rI cI qg_life 55 g_life, rI cI qg_done 16 g_done, rI cI qg_undone 130 g_undone, rI cI qg_selves 16 g_selves, rI cI qg_when 27 g_when, rI cI qg_jury 16 g_jury, rI cI qg_years 6 g_years, rI cI qg_states 6 g_states, rI cI qg_kept 290 g_kept] 0 rfl rfl inX7 tyX7_ok nmX7 4 (by decide) fl_RX7_80 rfl rfl rfl rfl (Nat.le_of_ble_eq_true rfl) rfl dX7_readNumber_108 (fun H locs hP hD hS => ?_)
      refine lv_aload_n hx hb dX7_readNumber_111 rfl (lv_at hl 0 rfl) ?_
      refine lv_iload_n hx hb dX7_readNumber_112 rfl (lv_at hl 1 rfl) ?_
      refine k_put X hP hD hS [(qg, .inr (7, [.ref qg_text, .int g_size, .int y1_0.2, .int g_begin, .int x2, .int y1_0.1, .ref qg_read, .ref qg_life, .int g_dones, .ref qg_done, .int g_undos, .ref qg_undone, .ref qg_selves, .ref qg_when, .ref qg_jury, .int g_seens, .ref qg_years, .ref qg_states, .long g_trace, .ref qg_kept])), rI cI qg_text 200 g_text, rI cI qg_read 55 g_read, rI cI qg_life 55 g_life, rI cI qg_done 16 g_done, rI cI qg_undone 130 g_undone, rI cI qg_selves 16 g_selves, rI cI qg_when 27 g_when, rI cI qg_jury 16 g_jury, rI cI qg_years 6 g_years, rI cI qg_states 6 g_states, rI cI qg_kept 290 g_kept] 0 rfl rfl inX7 tyX7_ok nmX7 5 (by decide) fl_RX7_70 rfl rfl rfl rfl (Nat.le_of_ble_eq_true rfl) rfl dX7_readNumber_113 (fun H locs hP hD hS => ?_)
      replace hf := Option.some.inj hf
      subst hf
      exact hret H locs _ ls dX7_readNumber_116 hP hD hS
    refine jn_e hf (fun K3 hf hk3 => ?_)
    have hj3 : ∀ (x3 : Unit) (H : Heap) (locs : List Loc) (ls : Array Slot), K3 x3 = some o → va_P D vwCl [(qg, .inr (7, [.ref qg_text, .int g_size, .int y1_0.2, .int g_begin, .int g_token, .int g_told, .ref qg_read, .ref qg_life, .int g_dones, .ref qg_done, .int g_undos, .ref qg_undone, .ref qg_selves, .ref qg_when, .ref qg_jury, .int g_seens, .ref qg_years, .ref qg_states, .long g_trace, .ref qg_kept])), rI cI qg_text 200 g_text, rI cI qg_read 55 g_read, rI cI qg_life 55 g_life, rI cI qg_done 16 g_done, rI cI qg_undone 130 g_undone, rI cI qg_selves 16 g_selves, rI cI qg_when 27 g_when, rI cI qg_jury 16 g_jury, rI cI qg_years 6 g_years, rI cI qg_states 6 g_states, rI cI qg_kept 290 g_kept] H → va_D A [(qg, .inr (7, [.ref qg_text, .int g_size, .int y1_0.2, .int g_begin, .int g_token, .int g_told, .ref qg_read, .ref qg_life, .int g_dones, .ref qg_done, .int g_undos, .ref qg_undone, .ref qg_selves, .ref qg_when, .ref qg_jury, .int g_seens, .ref qg_years, .ref qg_states, .long g_trace, .ref qg_kept])), rI cI qg_text 200 g_text, rI cI qg_read 55 g_read, rI cI qg_life 55 g_life, rI cI qg_done 16 g_done, rI cI qg_undone 130 g_undone, rI cI qg_selves 16 g_selves, rI cI qg_when 27 g_when, rI cI qg_jury 16 g_jury, rI cI qg_years 6 g_years, rI cI qg_states 6 g_states, rI cI qg_kept 290 g_kept] → va_S A s.heap H locs → lv_has ls 2 [(0, .ref qg), (1, .int y1_0.1)] → W p l e ({ frames := 2, cells := 0, slots := 0, locals := 45 } : Room) s m args below meth c H locs 0 0 Q (F0 m 103 ls [.ref qg]) := by
      intro x3 H locs ls hf hP hD hS hl
      replace hf := hk3 x3 hf
      refine lv_iconst (v := 4) hx hb dX7_readNumber_103 (by decide) ?_
      refine lv_goto (tgt := 108) hx hb dX7_readNumber_104 (by decide) ?_
      exact hj2 _ H locs ls hf hP hD hS hl
    refine lv_icmp_gt (tgt := 103) hx hb dX7_readNumber_73 (by decide) (fun c4 => ?_) (fun c4 => ?_)
    · replace hf := ite_t c4 hf
      exact hj3 _ H locs ls hf hP hD hS hl
    · replace hf := ite_f c4 hf
      refine lv_aload_n hx hb dX7_readNumber_76 rfl (lv_at hl 0 rfl) ?_
      refine k_get X hP 0 rfl rfl inX7 2 (by decide) fl_RX7_67 rfl rfl dX7_readNumber_77 ?_
      refine lv_aload_n hx hb dX7_readNumber_80 rfl (lv_at hl 0 rfl) ?_
      refine k_get X hP 0 rfl rfl inX7 3 (by decide) fl_RX7_77 rfl rfl dX7_readNumber_81 ?_
      refine lv_isub hx hb dX7_readNumber_84 ?_
      refine lv_iconst (v := 1) hx hb dX7_readNumber_85 (by decide) ?_
      refine jn_e hf (fun K5 hf hk5 => ?_)
      have hj5 : ∀ (x5 : Unit) (H : Heap) (locs : List Loc) (ls : Array Slot), K5 x5 = some o → va_P D vwCl [(qg, .inr (7, [.ref qg_text, .int g_size, .int y1_0.2, .int g_begin, .int g_token, .int g_told, .ref qg_read, .ref qg_life, .int g_dones, .ref qg_done, .int g_undos, .ref qg_undone, .ref qg_selves, .ref qg_when, .ref qg_jury, .int g_seens, .ref qg_years, .ref qg_states, .long g_trace, .ref qg_kept])), rI cI qg_text 200 g_text, rI cI qg_read 55 g_read, rI cI qg_life 55 g_life, rI cI qg_done 16 g_done, rI cI qg_undone 130 g_undone, rI cI qg_selves 16 g_selves, rI cI qg_when 27 g_when, rI cI qg_jury 16 g_jury, rI cI qg_years 6 g_years, rI cI qg_states 6 g_states, rI cI qg_kept 290 g_kept] H → va_D A [(qg, .inr (7, [.ref qg_text, .int g_size, .int y1_0.2, .int g_begin, .int g_token, .int g_told, .ref qg_read, .ref qg_life, .int g_dones, .ref qg_done, .int g_undos, .ref qg_undone, .ref qg_selves, .ref qg_when, .ref qg_jury, .int g_seens, .ref qg_years, .ref qg_states, .long g_trace, .ref qg_kept])), rI cI qg_text 200 g_text, rI cI qg_read 55 g_read, rI cI qg_life 55 g_life, rI cI qg_done 16 g_done, rI cI qg_undone 130 g_undone, rI cI qg_selves 16 g_selves, rI cI qg_when 27 g_when, rI cI qg_jury 16 g_jury, rI cI qg_years 6 g_years, rI cI qg_states 6 g_states, rI cI qg_kept 290 g_kept] → va_S A s.heap H locs → lv_has ls 2 [(0, .ref qg), (1, .int y1_0.1)] → W p l e ({ frames := 2, cells := 0, slots := 0, locals := 45 } : Room) s m args below meth c H locs 0 0 Q (F0 m 107 ls [.ref qg]) := by
        intro x5 H locs ls hf hP hD hS hl
        replace hf := hk5 x5 hf
        refine lv_iconst (v := 2) hx hb dX7_readNumber_107 (by decide) ?_
        exact hj2 _ H locs ls hf hP hD hS hl
      refine lv_icmp_le (tgt := 107) hx hb dX7_readNumber_86 (by decide) (fun c6 => ?_) (fun c6 => ?_)
      · replace hf := ite_t c6 hf
        exact hj5 _ H locs ls hf hP hD hS hl
      · replace hf := ite_f c6 hf
        refine lv_aload_n hx hb dX7_readNumber_89 rfl (lv_at hl 0 rfl) ?_
        refine k_get X hP 0 rfl rfl inX7 0 (by decide) fl_RX7_7 rfl rfl dX7_readNumber_90 ?_
        refine lv_aload_n hx hb dX7_readNumber_93 rfl (lv_at hl 0 rfl) ?_
        refine k_get X hP 0 rfl rfl inX7 3 (by decide) fl_RX7_77 rfl rfl dX7_readNumber_94 ?_
        obtain ⟨h7, hf⟩ := ck_t hf
        refine k_iald X hP 1 0 rfl rfl h7 dX7_readNumber_97 ?_
        refine lv_bipush (v := 48) hx hb dX7_readNumber_98 (by decide) ?_
        refine lv_icmp_ne (tgt := 107) hx hb dX7_readNumber_100 (by decide) (fun c8 => ?_) (fun c8 => ?_)
        · replace hf := ite_f c8 hf
          exact hj5 _ H locs ls hf hP hD hS hl
        · replace hf := ite_t c8 hf
          exact hj3 _ H locs ls hf hP hD hS hl
  refine lpd_ind (P := fun s1 => ∀ (H : Heap) (locs : List Loc) (ls : Array Slot), va_P D vwCl [(qg, .inr (7, [.ref qg_text, .int g_size, .int s1.2, .int g_begin, .int g_token, .int g_told, .ref qg_read, .ref qg_life, .int g_dones, .ref qg_done, .int g_undos, .ref qg_undone, .ref qg_selves, .ref qg_when, .ref qg_jury, .int g_seens, .ref qg_years, .ref qg_states, .long g_trace, .ref qg_kept])), rI cI qg_text 200 g_text, rI cI qg_read 55 g_read, rI cI qg_life 55 g_life, rI cI qg_done 16 g_done, rI cI qg_undone 130 g_undone, rI cI qg_selves 16 g_selves, rI cI qg_when 27 g_when, rI cI qg_jury 16 g_jury, rI cI qg_years 6 g_years, rI cI qg_states 6 g_states, rI cI qg_kept 290 g_kept] H → va_D A [(qg, .inr (7, [.ref qg_text, .int g_size, .int s1.2, .int g_begin, .int g_token, .int g_told, .ref qg_read, .ref qg_life, .int g_dones, .ref qg_done, .int g_undos, .ref qg_undone, .ref qg_selves, .ref qg_when, .ref qg_jury, .int g_seens, .ref qg_years, .ref qg_states, .long g_trace, .ref qg_kept])), rI cI qg_text 200 g_text, rI cI qg_read 55 g_read, rI cI qg_life 55 g_life, rI cI qg_done 16 g_done, rI cI qg_undone 130 g_undone, rI cI qg_selves 16 g_selves, rI cI qg_when 27 g_when, rI cI qg_jury 16 g_jury, rI cI qg_years 6 g_years, rI cI qg_states 6 g_states, rI cI qg_kept 290 g_kept] → va_S A s.heap H locs → lv_has ls 2 [(0, .ref qg), (1, .int s1.1)] → W p l e ({ frames := 2, cells := 0, slots := 0, locals := 45 } : Room) s m args below meth c H locs 0 0 Q (F0 m 2 ls [])) e1 ?_ _ _ he1 H locs ls hP hD hS (lv_sub hl [1, 0] rfl)
  intro s1 r1 hf ih1 hq1 H locs ls hP hD hS hl
  unfold sX7_readNumber_2 at hf
  refine lv_aload_n hx hb dX7_readNumber_2 rfl (lv_at hl 0 rfl) ?_
  refine k_get X hP 0 rfl rfl inX7 2 (by decide) fl_RX7_67 rfl rfl dX7_readNumber_3 ?_
  refine lv_aload_n hx hb dX7_readNumber_6 rfl (lv_at hl 0 rfl) ?_
  refine k_get X hP 0 rfl rfl inX7 1 (by decide) fl_RX7_55 rfl rfl dX7_readNumber_7 ?_
  refine lv_icmp_ge (tgt := 69) hx hb dX7_readNumber_10 (by decide) (fun c9 => ?_) (fun c9 => ?_)
  · replace hf := ite_t c9 hf
    exact hx1_0 _ (hq1 _ (Option.some.inj hf).symm) H locs ls hP hD hS hl
  · replace hf := ite_f c9 hf
    refine lv_aload_n hx hb dX7_readNumber_13 rfl (lv_at hl 0 rfl) ?_
    refine k_get X hP 0 rfl rfl inX7 0 (by decide) fl_RX7_7 rfl rfl dX7_readNumber_14 ?_
    refine lv_aload_n hx hb dX7_readNumber_17 rfl (lv_at hl 0 rfl) ?_
    refine k_get X hP 0 rfl rfl inX7 2 (by decide) fl_RX7_67 rfl rfl dX7_readNumber_18 ?_
    obtain ⟨h10, hf⟩ := ck_t hf
    refine k_iald X hP 1 0 rfl rfl h10 dX7_readNumber_21 ?_
    obtain ⟨r11, hr11, hf⟩ := bnd hf
    refine k_callS X hP hD hS [(qg, .inr (7, [.ref qg_text, .int g_size, .int s1.2, .int g_begin, .int g_token, .int g_told, .ref qg_read, .ref qg_life, .int g_dones, .ref qg_done, .int g_undos, .ref qg_undone, .ref qg_selves, .ref qg_when, .ref qg_jury, .int g_seens, .ref qg_years, .ref qg_states, .long g_trace, .ref qg_kept])), rI cI qg_text 200 g_text, rI cI qg_read 55 g_read, rI cI qg_life 55 g_life, rI cI qg_done 16 g_done, rI cI qg_undone 130 g_undone, rI cI qg_selves 16 g_selves, rI cI qg_when 27 g_when, rI cI qg_jury 16 g_jury, rI cI qg_years 6 g_years, rI cI qg_states 6 g_states, rI cI qg_kept 290 g_kept] (ctX7_isFigure l D cI cZ cD cH (g_text s1.2.toNatClampNeg) r11 hr11) ml_RX7_83 sm_yX7_isFigure in_RX7 cd_yX7_isFigure rfl rfl hd_yX7_isFigure ⟨by decide, by decide⟩ ⟨Nat.zero_le _, Nat.zero_le _⟩ [] [none, none, none, none, none, none, none, none, none, none, none, none] rfl (by decide +kernel) rfl (by decide +kernel) rfl rfl hl.1 rfl rfl (Nat.le_of_ble_eq_true rfl) rfl dX7_readNumber_22 (fun H locs hP hD hS => ?_)
    refine lv_if_eq (tgt := 69) hx hb dX7_readNumber_25 (by decide) (fun c12 => ?_) (fun c12 => ?_)
    · replace hf := ite_t c12 hf
      exact hx1_0 _ (hq1 _ (Option.some.inj hf).symm) H locs ls hP hD hS hl
    · replace hf := ite_f c12 hf
      refine lv_iload_n hx hb dX7_readNumber_28 rfl (lv_at hl 1 rfl) ?_
      refine lv_bipush (v := 99) hx hb dX7_readNumber_29 (by decide) ?_
      refine jn_e hf (fun K13 hf hk13 => ?_)
      have hj13 : ∀ (x13 : Int32) (H : Heap) (locs : List Loc) (ls : Array Slot), K13 x13 = some r1 → va_P D vwCl [(qg, .inr (7, [.ref qg_text, .int g_size, .int s1.2, .int g_begin, .int g_token, .int g_told, .ref qg_read, .ref qg_life, .int g_dones, .ref qg_done, .int g_undos, .ref qg_undone, .ref qg_selves, .ref qg_when, .ref qg_jury, .int g_seens, .ref qg_years, .ref qg_states, .long g_trace, .ref qg_kept])), rI cI qg_text 200 g_text, rI cI qg_read 55 g_read, rI cI qg_life 55 g_life, rI cI qg_done 16 g_done, rI cI qg_undone 130 g_undone, rI cI qg_selves 16 g_selves, rI cI qg_when 27 g_when, rI cI qg_jury 16 g_jury, rI cI qg_years 6 g_years, rI cI qg_states 6 g_states, rI cI qg_kept 290 g_kept] H → va_D A [(qg, .inr (7, [.ref qg_text, .int g_size, .int s1.2, .int g_begin, .int g_token, .int g_told, .ref qg_read, .ref qg_life, .int g_dones, .ref qg_done, .int g_undos, .ref qg_undone, .ref qg_selves, .ref qg_when, .ref qg_jury, .int g_seens, .ref qg_years, .ref qg_states, .long g_trace, .ref qg_kept])), rI cI qg_text 200 g_text, rI cI qg_read 55 g_read, rI cI qg_life 55 g_life, rI cI qg_done 16 g_done, rI cI qg_undone 130 g_undone, rI cI qg_selves 16 g_selves, rI cI qg_when 27 g_when, rI cI qg_jury 16 g_jury, rI cI qg_years 6 g_years, rI cI qg_states 6 g_states, rI cI qg_kept 290 g_kept] → va_S A s.heap H locs → lv_has ls 2 [(0, .ref qg)] → W p l e ({ frames := 2, cells := 0, slots := 0, locals := 45 } : Room) s m args below meth c H locs 0 0 Q (F0 m 55 ls [.int x13]) := by
        intro x13 H locs ls hf hP hD hS hl
        replace hf := hk13 x13 hf
        refine lv_istore_n (lv' := [(1, .int x13), (0, .ref qg)]) hx hb dX7_readNumber_55 rfl hl (by decide) rfl (fun ls hl => ?_)
        refine lv_aload_n hx hb dX7_readNumber_56 rfl (lv_at hl 1 rfl) ?_
        refine lv_dup hx hb dX7_readNumber_57 rfl ?_
        refine k_get X hP 0 rfl rfl inX7 2 (by decide) fl_RX7_67 rfl rfl dX7_readNumber_58 ?_
        refine lv_iconst (v := 1) hx hb dX7_readNumber_61 (by decide) ?_
        refine lv_iadd hx hb dX7_readNumber_62 ?_
        refine k_put X hP hD hS [(qg, .inr (7, [.ref qg_text, .int g_size, .int (s1.2 + 1), .int g_begin, .int g_token, .int g_told, .ref qg_read, .ref qg_life, .int g_dones, .ref qg_done, .int g_undos, .ref qg_undone, .ref qg_selves, .ref qg_when, .ref qg_jury, .int g_seens, .ref qg_years, .ref qg_states, .long g_trace, .ref qg_kept])), rI cI qg_text 200 g_text, rI cI qg_read 55 g_read, rI cI qg_life 55 g_life, rI cI qg_done 16 g_done, rI cI qg_undone 130 g_undone, rI cI qg_selves 16 g_selves, rI cI qg_when 27 g_when, rI cI qg_jury 16 g_jury, rI cI qg_years 6 g_years, rI cI qg_states 6 g_states, rI cI qg_kept 290 g_kept] 0 rfl rfl inX7 tyX7_ok nmX7 2 (by decide) fl_RX7_67 rfl rfl rfl rfl (Nat.le_of_ble_eq_true rfl) rfl dX7_readNumber_63 (fun H locs hP hD hS => ?_)
        refine lv_goto (tgt := 2) hx hb dX7_readNumber_66 (by decide) ?_
        exact ih1 _ (Option.some.inj hf).symm H locs ls hP hD hS (lv_sub hl [1, 0] rfl)
      refine lv_icmp_le (tgt := 38) hx hb dX7_readNumber_31 (by decide) (fun c14 => ?_) (fun c14 => ?_)
      · replace hf := ite_t c14 hf
        refine lv_bipush (v := 10) hx hb dX7_readNumber_38 (by decide) ?_
        refine lv_iload_n hx hb dX7_readNumber_40 rfl (lv_at hl 1 rfl) ?_
        refine lv_imul hx hb dX7_readNumber_41 ?_
        refine lv_aload_n hx hb dX7_readNumber_42 rfl (lv_at hl 0 rfl) ?_
        refine k_get X hP 0 rfl rfl inX7 0 (by decide) fl_RX7_7 rfl rfl dX7_readNumber_43 ?_
        refine lv_aload_n hx hb dX7_readNumber_46 rfl (lv_at hl 0 rfl) ?_
        refine k_get X hP 0 rfl rfl inX7 2 (by decide) fl_RX7_67 rfl rfl dX7_readNumber_47 ?_
        obtain ⟨h15, hf⟩ := ck_t hf
        refine k_iald X hP 1 0 rfl rfl h15 dX7_readNumber_50 ?_
        refine lv_iadd hx hb dX7_readNumber_51 ?_
        refine lv_bipush (v := 48) hx hb dX7_readNumber_52 (by decide) ?_
        refine lv_isub hx hb dX7_readNumber_54 ?_
        exact hj13 _ H locs ls hf hP hD hS (lv_sub hl [0] rfl)
      · replace hf := ite_f c14 hf
        refine lv_iload_n hx hb dX7_readNumber_34 rfl (lv_at hl 1 rfl) ?_
        refine lv_goto (tgt := 55) hx hb dX7_readNumber_35 (by decide) ?_
        exact hj13 _ H locs ls hf hP hD hS (lv_sub hl [0] rfl)

def sX7_reads_0 (g_size : Int32) (g_text : Nat → Int32) (g_at : Int32) : Option ((Int32) ⊕ ((Int32))) :=
  if g_size ≤ g_at then some (.inr g_at) else if inb g_at 200 = true then if (g_text g_at.toNatClampNeg) = 32 then some (.inl (g_at + 1)) else some (.inr g_at) else none
def fX7_reads (g_size : Int32) (g_at : Int32) (g_told : Int32) (g_text : Nat → Int32) : Option (Int32 × Int32 × Int32 × Int32) :=
  (lpd (fun s1 => sX7_reads_0 g_size g_text s1) FU g_at).bind (fun (y1_0 : Int32) => if y1_0 = g_size then some (y1_0, y1_0, 0, g_told) else if inb y1_0 200 = true then (fX7_isLetter (g_text y1_0.toNatClampNeg)).bind (fun r4 => if (bI r4) = 0 then if inb y1_0 200 = true then (fX7_isFigure (g_text y1_0.toNatClampNeg)).bind (fun r7 => if (bI r7) = 0 then if inb y1_0 200 = true then jn (fun (x10 : Int32) => jn (fun (x11 : Int32) => some (y1_0 + x11, y1_0, x10, g_told)) (fun K11 => if x10 = 3 then K11 1 else K11 0)) (fun K10 => if (g_text y1_0.toNatClampNeg) = 59 then K10 3 else K10 4) else none else (fX7_readNumber g_size y1_0 y1_0 g_text).bind (fun r14 => some (r14.1, y1_0, r14.2.1, r14.2.2))) else none else (fX7_readLetters g_size y1_0 y1_0 g_text).bind (fun r15 => some (r15.1, y1_0, r15.2.1, r15.2.2))) else none)
set_option maxHeartbeats 4000000 in
set_option maxRecDepth 100000 in
theorem ctX7_reads (l : Launch) (D : va_G) (cI cZ cD cH : ClassId) (qg : Nat) (qg_text : Nat) (qg_read : Nat) (qg_life : Nat) (qg_done : Nat) (qg_undone : Nat) (qg_selves : Nat) (qg_when : Nat) (qg_jury : Nat) (qg_years : Nat) (qg_states : Nat) (qg_kept : Nat) (g_size : Int32) (g_at : Int32) (g_begin : Int32) (g_token : Int32) (g_told : Int32) (g_dones : Int32) (g_undos : Int32) (g_seens : Int32) (g_trace : Int64) (g_text : Nat → Int32) (g_read : Nat → Int32) (g_life : Nat → Int32) (g_done : Nat → Int32) (g_undone : Nat → Int32) (g_selves : Nat → Int32) (g_when : Nat → Int32) (g_jury : Nat → Int32) (g_years : Nat → Int32) (g_states : Nat → Int32) (g_kept : Nat → Int32) (o : Int32 × Int32 × Int32 × Int32) (hf : fX7_reads g_size g_at g_told g_text = some o) : Ct l yX7_reads cX7_reads 1 none { frames := 3, cells := 0, slots := 0, locals := 66 } D (Tys cI cZ cD cH) [.ref qg] [(qg, .inr (7, [.ref qg_text, .int g_size, .int g_at, .int g_begin, .int g_token, .int g_told, .ref qg_read, .ref qg_life, .int g_dones, .ref qg_done, .int g_undos, .ref qg_undone, .ref qg_selves, .ref qg_when, .ref qg_jury, .int g_seens, .ref qg_years, .ref qg_states, .long g_trace, .ref qg_kept])), rI cI qg_text 200 g_text, rI cI qg_read 55 g_read, rI cI qg_life 55 g_life, rI cI qg_done 16 g_done, rI cI qg_undone 130 g_undone, rI cI qg_selves 16 g_selves, rI cI qg_when 27 g_when, rI cI qg_jury 16 g_jury, rI cI qg_years 6 g_years, rI cI qg_states 6 g_states, rI cI qg_kept 290 g_kept] [(qg, .inr (7, [.ref qg_text, .int g_size, .int o.1, .int o.2.1, .int o.2.2.1, .int o.2.2.2, .ref qg_read, .ref qg_life, .int g_dones, .ref qg_done, .int g_undos, .ref qg_undone, .ref qg_selves, .ref qg_when, .ref qg_jury, .int g_seens, .ref qg_years, .ref qg_states, .long g_trace, .ref qg_kept])), rI cI qg_text 200 g_text, rI cI qg_read 55 g_read, rI cI qg_life 55 g_life, rI cI qg_done 16 g_done, rI cI qg_undone 130 g_undone, rI cI qg_selves 16 g_selves, rI cI qg_when 27 g_when, rI cI qg_jury 16 g_jury, rI cI qg_years 6 g_years, rI cI qg_states 6 g_states, rI cI qg_kept 290 g_kept] none 0 0 := by
  refine mkV (by decide) (Nat.le_of_ble_eq_true rfl) ?_
  intro p e s m args below meth c A Q X hnm hret ls hl H locs hP hD hS
  replace X : Cx p s m args c D (Tys cI cZ cD cH) A cX7_reads RX7 1 := X
  obtain ⟨hx, hb, hml, hown, hts, hK, hZ, hA⟩ := id X
  have hl : lv_has ls 1 [(0, .ref qg)] := hl
  unfold fX7_reads at hf
  obtain ⟨e1, he1, hf⟩ := bnd hf
  have hx1_0 : ∀ (y1_0 : Int32), y1_0 = e1 → ∀ (H : Heap) (locs : List Loc) (ls : Array Slot), va_P D vwCl [(qg, .inr (7, [.ref qg_text, .int g_size, .int y1_0, .int g_begin, .int g_token, .int g_told, .ref qg_read, .ref qg_life, .int g_dones, .ref qg_done, .int g_undos, .ref qg_undone, .ref qg_selves, .ref qg_when, .ref qg_jury, .int g_seens, .ref qg_years, .ref qg_states, .long g_trace, .ref qg_kept])), rI cI qg_text 200 g_text, rI cI qg_read 55 g_read, rI cI qg_life 55 g_life, rI cI qg_done 16 g_done, rI cI qg_undone 130 g_undone, rI cI qg_selves 16 g_selves, rI cI qg_when 27 g_when, rI cI qg_jury 16 g_jury, rI cI qg_years 6 g_years, rI cI qg_states 6 g_states, rI cI qg_kept 290 g_kept] H → va_D A [(qg, .inr (7, [.ref qg_text, .int g_size, .int y1_0, .int g_begin, .int g_token, .int g_told, .ref qg_read, .ref qg_life, .int g_dones, .ref qg_done, .int g_undos, .ref qg_undone, .ref qg_selves, .ref qg_when, .ref qg_jury, .int g_seens, .ref qg_years, .ref qg_states, .long g_trace, .ref qg_kept])), rI cI qg_text 200 g_text, rI cI qg_read 55 g_read, rI cI qg_life 55 g_life, rI cI qg_done 16 g_done, rI cI qg_undone 130 g_undone, rI cI qg_selves 16 g_selves, rI cI qg_when 27 g_when, rI cI qg_jury 16 g_jury, rI cI qg_years 6 g_years, rI cI qg_states 6 g_states, rI cI qg_kept 290 g_kept] → va_S A s.heap H locs → lv_has ls 1 [(0, .ref qg)] → W p l e ({ frames := 3, cells := 0, slots := 0, locals := 66 } : Room) s m args below meth c H locs 0 0 Q (F0 m 38 ls []) := by
    intro y1_0 heq H locs ls hP hD hS hl
    subst heq
    refine lv_aload_n hx hb dX7_reads_38 rfl (lv_at hl 0 rfl) ?_
    refine lv_aload_n hx hb dX7_reads_39 rfl (lv_at hl 0 rfl) ?_
    refine k_get X hP 0 rfl rfl inX7 2 (by decide) fl_RX7_67 rfl rfl dX7_reads_40 ?_
    refine k_put X hP hD hS [(qg, .inr (7, [.ref qg_text, .int g_size, .int y1_0, .int y1_0, .int g_token, .int g_told, .ref qg_read, .ref qg_life, .int g_dones, .ref qg_done, .int g_undos, .ref qg_undone, .ref qg_selves, .ref qg_when, .ref qg_jury, .int g_seens, .ref qg_years, .ref qg_states, .long g_trace, .ref qg_kept])), rI cI qg_text 200 g_text, rI cI qg_read 55 g_read, rI cI qg_life 55 g_life, rI cI qg_done 16 g_done, rI cI qg_undone 130 g_undone, rI cI qg_selves 16 g_selves, rI cI qg_when 27 g_when, rI cI qg_jury 16 g_jury, rI cI qg_years 6 g_years, rI cI qg_states 6 g_states, rI cI qg_kept 290 g_kept] 0 rfl rfl inX7 tyX7_ok nmX7 3 (by decide) fl_RX7_77 rfl rfl rfl rfl (Nat.le_of_ble_eq_true rfl) rfl dX7_reads_43 (fun H locs hP hD hS => ?_)
    refine lv_aload_n hx hb dX7_reads_46 rfl (lv_at hl 0 rfl) ?_
    refine k_get X hP 0 rfl rfl inX7 2 (by decide) fl_RX7_67 rfl rfl dX7_reads_47 ?_
    refine lv_aload_n hx hb dX7_reads_50 rfl (lv_at hl 0 rfl) ?_
    refine k_get X hP 0 rfl rfl inX7 1 (by decide) fl_RX7_55 rfl rfl dX7_reads_51 ?_
    refine lv_icmp_ne (tgt := 65) hx hb dX7_reads_54 (by decide) (fun c2 => ?_) (fun c2 => ?_)
    · replace hf := ite_f c2 hf
      refine lv_aload_n hx hb dX7_reads_65 rfl (lv_at hl 0 rfl) ?_
      refine k_get X hP 0 rfl rfl inX7 0 (by decide) fl_RX7_7 rfl rfl dX7_reads_66 ?_
      refine lv_aload_n hx hb dX7_reads_69 rfl (lv_at hl 0 rfl) ?_
      refine k_get X hP 0 rfl rfl inX7 2 (by decide) fl_RX7_67 rfl rfl dX7_reads_70 ?_
      obtain ⟨h3, hf⟩ := ck_t hf
      refine k_iald X hP 1 0 rfl rfl h3 dX7_reads_73 ?_
      obtain ⟨r4, hr4, hf⟩ := bnd hf
      refine k_callS X hP hD hS [(qg, .inr (7, [.ref qg_text, .int g_size, .int y1_0, .int y1_0, .int g_token, .int g_told, .ref qg_read, .ref qg_life, .int g_dones, .ref qg_done, .int g_undos, .ref qg_undone, .ref qg_selves, .ref qg_when, .ref qg_jury, .int g_seens, .ref qg_years, .ref qg_states, .long g_trace, .ref qg_kept])), rI cI qg_text 200 g_text, rI cI qg_read 55 g_read, rI cI qg_life 55 g_life, rI cI qg_done 16 g_done, rI cI qg_undone 130 g_undone, rI cI qg_selves 16 g_selves, rI cI qg_when 27 g_when, rI cI qg_jury 16 g_jury, rI cI qg_years 6 g_years, rI cI qg_states 6 g_states, rI cI qg_kept 290 g_kept] (ctX7_isLetter l D cI cZ cD cH (g_text y1_0.toNatClampNeg) r4 hr4) ml_RX7_73 sm_yX7_isLetter in_RX7 cd_yX7_isLetter rfl rfl hd_yX7_isLetter ⟨by decide, by decide⟩ ⟨Nat.zero_le _, Nat.zero_le _⟩ [] [none, none, none, none, none, none, none, none, none, none, none, none] rfl (by decide +kernel) rfl (by decide +kernel) rfl rfl hl.1 rfl rfl (Nat.le_of_ble_eq_true rfl) rfl dX7_reads_74 (fun H locs hP hD hS => ?_)
      refine lv_if_eq (tgt := 87) hx hb dX7_reads_77 (by decide) (fun c5 => ?_) (fun c5 => ?_)
      · replace hf := ite_t c5 hf
        refine lv_aload_n hx hb dX7_reads_87 rfl (lv_at hl 0 rfl) ?_
        refine k_get X hP 0 rfl rfl inX7 0 (by decide) fl_RX7_7 rfl rfl dX7_reads_88 ?_
        refine lv_aload_n hx hb dX7_reads_91 rfl (lv_at hl 0 rfl) ?_
        refine k_get X hP 0 rfl rfl inX7 2 (by decide) fl_RX7_67 rfl rfl dX7_reads_92 ?_
        obtain ⟨h6, hf⟩ := ck_t hf
        refine k_iald X hP 1 0 rfl rfl h6 dX7_reads_95 ?_
        obtain ⟨r7, hr7, hf⟩ := bnd hf
        refine k_callS X hP hD hS [(qg, .inr (7, [.ref qg_text, .int g_size, .int y1_0, .int y1_0, .int g_token, .int g_told, .ref qg_read, .ref qg_life, .int g_dones, .ref qg_done, .int g_undos, .ref qg_undone, .ref qg_selves, .ref qg_when, .ref qg_jury, .int g_seens, .ref qg_years, .ref qg_states, .long g_trace, .ref qg_kept])), rI cI qg_text 200 g_text, rI cI qg_read 55 g_read, rI cI qg_life 55 g_life, rI cI qg_done 16 g_done, rI cI qg_undone 130 g_undone, rI cI qg_selves 16 g_selves, rI cI qg_when 27 g_when, rI cI qg_jury 16 g_jury, rI cI qg_years 6 g_years, rI cI qg_states 6 g_states, rI cI qg_kept 290 g_kept] (ctX7_isFigure l D cI cZ cD cH (g_text y1_0.toNatClampNeg) r7 hr7) ml_RX7_83 sm_yX7_isFigure in_RX7 cd_yX7_isFigure rfl rfl hd_yX7_isFigure ⟨by decide, by decide⟩ ⟨Nat.zero_le _, Nat.zero_le _⟩ [] [none, none, none, none, none, none, none, none, none, none, none, none] rfl (by decide +kernel) rfl (by decide +kernel) rfl rfl hl.1 rfl rfl (Nat.le_of_ble_eq_true rfl) rfl dX7_reads_96 (fun H locs hP hD hS => ?_)
        refine lv_if_eq (tgt := 109) hx hb dX7_reads_99 (by decide) (fun c8 => ?_) (fun c8 => ?_)
        · replace hf := ite_t c8 hf
          refine lv_aload_n hx hb dX7_reads_109 rfl (lv_at hl 0 rfl) ?_
          refine lv_aload_n hx hb dX7_reads_110 rfl (lv_at hl 0 rfl) ?_
          refine k_get X hP 0 rfl rfl inX7 0 (by decide) fl_RX7_7 rfl rfl dX7_reads_111 ?_
          refine lv_aload_n hx hb dX7_reads_114 rfl (lv_at hl 0 rfl) ?_
          refine k_get X hP 0 rfl rfl inX7 2 (by decide) fl_RX7_67 rfl rfl dX7_reads_115 ?_
          obtain ⟨h9, hf⟩ := ck_t hf
          refine k_iald X hP 1 0 rfl rfl h9 dX7_reads_118 ?_
          refine lv_bipush (v := 59) hx hb dX7_reads_119 (by decide) ?_
          refine jn_e hf (fun K10 hf hk10 => ?_)
          have hj10 : ∀ (x10 : Int32) (H : Heap) (locs : List Loc) (ls : Array Slot), K10 x10 = some o → va_P D vwCl [(qg, .inr (7, [.ref qg_text, .int g_size, .int y1_0, .int y1_0, .int g_token, .int g_told, .ref qg_read, .ref qg_life, .int g_dones, .ref qg_done, .int g_undos, .ref qg_undone, .ref qg_selves, .ref qg_when, .ref qg_jury, .int g_seens, .ref qg_years, .ref qg_states, .long g_trace, .ref qg_kept])), rI cI qg_text 200 g_text, rI cI qg_read 55 g_read, rI cI qg_life 55 g_life, rI cI qg_done 16 g_done, rI cI qg_undone 130 g_undone, rI cI qg_selves 16 g_selves, rI cI qg_when 27 g_when, rI cI qg_jury 16 g_jury, rI cI qg_years 6 g_years, rI cI qg_states 6 g_states, rI cI qg_kept 290 g_kept] H → va_D A [(qg, .inr (7, [.ref qg_text, .int g_size, .int y1_0, .int y1_0, .int g_token, .int g_told, .ref qg_read, .ref qg_life, .int g_dones, .ref qg_done, .int g_undos, .ref qg_undone, .ref qg_selves, .ref qg_when, .ref qg_jury, .int g_seens, .ref qg_years, .ref qg_states, .long g_trace, .ref qg_kept])), rI cI qg_text 200 g_text, rI cI qg_read 55 g_read, rI cI qg_life 55 g_life, rI cI qg_done 16 g_done, rI cI qg_undone 130 g_undone, rI cI qg_selves 16 g_selves, rI cI qg_when 27 g_when, rI cI qg_jury 16 g_jury, rI cI qg_years 6 g_years, rI cI qg_states 6 g_states, rI cI qg_kept 290 g_kept] → va_S A s.heap H locs → lv_has ls 1 [(0, .ref qg)] → W p l e ({ frames := 3, cells := 0, slots := 0, locals := 66 } : Room) s m args below meth c H locs 0 0 Q (F0 m 129 ls [.int x10, .ref qg]) := by
            intro x10 H locs ls hf hP hD hS hl
            replace hf := hk10 x10 hf
            refine k_put X hP hD hS [(qg, .inr (7, [.ref qg_text, .int g_size, .int y1_0, .int y1_0, .int x10, .int g_told, .ref qg_read, .ref qg_life, .int g_dones, .ref qg_done, .int g_undos, .ref qg_undone, .ref qg_selves, .ref qg_when, .ref qg_jury, .int g_seens, .ref qg_years, .ref qg_states, .long g_trace, .ref qg_kept])), rI cI qg_text 200 g_text, rI cI qg_read 55 g_read, rI cI qg_life 55 g_life, rI cI qg_done 16 g_done, rI cI qg_undone 130 g_undone, rI cI qg_selves 16 g_selves, rI cI qg_when 27 g_when, rI cI qg_jury 16 g_jury, rI cI qg_years 6 g_years, rI cI qg_states 6 g_states, rI cI qg_kept 290 g_kept] 0 rfl rfl inX7 tyX7_ok nmX7 4 (by decide) fl_RX7_80 rfl rfl rfl rfl (Nat.le_of_ble_eq_true rfl) rfl dX7_reads_129 (fun H locs hP hD hS => ?_)
            refine lv_aload_n hx hb dX7_reads_132 rfl (lv_at hl 0 rfl) ?_
            refine lv_dup hx hb dX7_reads_133 rfl ?_
            refine k_get X hP 0 rfl rfl inX7 2 (by decide) fl_RX7_67 rfl rfl dX7_reads_134 ?_
            refine lv_aload_n hx hb dX7_reads_137 rfl (lv_at hl 0 rfl) ?_
            refine k_get X hP 0 rfl rfl inX7 4 (by decide) fl_RX7_80 rfl rfl dX7_reads_138 ?_
            refine lv_iconst (v := 3) hx hb dX7_reads_141 (by decide) ?_
            refine jn_e hf (fun K11 hf hk11 => ?_)
            have hj11 : ∀ (x11 : Int32) (H : Heap) (locs : List Loc) (ls : Array Slot), K11 x11 = some o → va_P D vwCl [(qg, .inr (7, [.ref qg_text, .int g_size, .int y1_0, .int y1_0, .int x10, .int g_told, .ref qg_read, .ref qg_life, .int g_dones, .ref qg_done, .int g_undos, .ref qg_undone, .ref qg_selves, .ref qg_when, .ref qg_jury, .int g_seens, .ref qg_years, .ref qg_states, .long g_trace, .ref qg_kept])), rI cI qg_text 200 g_text, rI cI qg_read 55 g_read, rI cI qg_life 55 g_life, rI cI qg_done 16 g_done, rI cI qg_undone 130 g_undone, rI cI qg_selves 16 g_selves, rI cI qg_when 27 g_when, rI cI qg_jury 16 g_jury, rI cI qg_years 6 g_years, rI cI qg_states 6 g_states, rI cI qg_kept 290 g_kept] H → va_D A [(qg, .inr (7, [.ref qg_text, .int g_size, .int y1_0, .int y1_0, .int x10, .int g_told, .ref qg_read, .ref qg_life, .int g_dones, .ref qg_done, .int g_undos, .ref qg_undone, .ref qg_selves, .ref qg_when, .ref qg_jury, .int g_seens, .ref qg_years, .ref qg_states, .long g_trace, .ref qg_kept])), rI cI qg_text 200 g_text, rI cI qg_read 55 g_read, rI cI qg_life 55 g_life, rI cI qg_done 16 g_done, rI cI qg_undone 130 g_undone, rI cI qg_selves 16 g_selves, rI cI qg_when 27 g_when, rI cI qg_jury 16 g_jury, rI cI qg_years 6 g_years, rI cI qg_states 6 g_states, rI cI qg_kept 290 g_kept] → va_S A s.heap H locs → lv_has ls 1 [] → W p l e ({ frames := 3, cells := 0, slots := 0, locals := 66 } : Room) s m args below meth c H locs 0 0 Q (F0 m 150 ls [.int x11, .int y1_0, .ref qg]) := by
              intro x11 H locs ls hf hP hD hS hl
              replace hf := hk11 x11 hf
              refine lv_iadd hx hb dX7_reads_150 ?_
              refine k_put X hP hD hS [(qg, .inr (7, [.ref qg_text, .int g_size, .int (y1_0 + x11), .int y1_0, .int x10, .int g_told, .ref qg_read, .ref qg_life, .int g_dones, .ref qg_done, .int g_undos, .ref qg_undone, .ref qg_selves, .ref qg_when, .ref qg_jury, .int g_seens, .ref qg_years, .ref qg_states, .long g_trace, .ref qg_kept])), rI cI qg_text 200 g_text, rI cI qg_read 55 g_read, rI cI qg_life 55 g_life, rI cI qg_done 16 g_done, rI cI qg_undone 130 g_undone, rI cI qg_selves 16 g_selves, rI cI qg_when 27 g_when, rI cI qg_jury 16 g_jury, rI cI qg_years 6 g_years, rI cI qg_states 6 g_states, rI cI qg_kept 290 g_kept] 0 rfl rfl inX7 tyX7_ok nmX7 2 (by decide) fl_RX7_67 rfl rfl rfl rfl (Nat.le_of_ble_eq_true rfl) rfl dX7_reads_151 (fun H locs hP hD hS => ?_)
              replace hf := Option.some.inj hf
              subst hf
              exact hret H locs _ ls dX7_reads_154 hP hD hS
            refine lv_icmp_ne (tgt := 149) hx hb dX7_reads_142 (by decide) (fun c12 => ?_) (fun c12 => ?_)
            · replace hf := ite_f c12 hf
              refine lv_iconst (v := 0) hx hb dX7_reads_149 (by decide) ?_
              exact hj11 _ H locs ls hf hP hD hS (lv_sub hl [] rfl)
            · replace hf := ite_t c12 hf
              refine lv_iconst (v := 1) hx hb dX7_reads_145 (by decide) ?_
              refine lv_goto (tgt := 150) hx hb dX7_reads_146 (by decide) ?_
              exact hj11 _ H locs ls hf hP hD hS (lv_sub hl [] rfl)
          refine lv_icmp_ne (tgt := 128) hx hb dX7_reads_121 (by decide) (fun c13 => ?_) (fun c13 => ?_)
          · replace hf := ite_f c13 hf
            refine lv_iconst (v := 4) hx hb dX7_reads_128 (by decide) ?_
            exact hj10 _ H locs ls hf hP hD hS hl
          · replace hf := ite_t c13 hf
            refine lv_iconst (v := 3) hx hb dX7_reads_124 (by decide) ?_
            refine lv_goto (tgt := 129) hx hb dX7_reads_125 (by decide) ?_
            exact hj10 _ H locs ls hf hP hD hS hl
        · replace hf := ite_f c8 hf
          refine lv_aload_n hx hb dX7_reads_102 rfl (lv_at hl 0 rfl) ?_
          obtain ⟨r14, hr14, hf⟩ := bnd hf
          refine k_callV X hP hD hS [(qg, .inr (7, [.ref qg_text, .int g_size, .int r14.1, .int y1_0, .int r14.2.1, .int r14.2.2, .ref qg_read, .ref qg_life, .int g_dones, .ref qg_done, .int g_undos, .ref qg_undone, .ref qg_selves, .ref qg_when, .ref qg_jury, .int g_seens, .ref qg_years, .ref qg_states, .long g_trace, .ref qg_kept])), rI cI qg_text 200 g_text, rI cI qg_read 55 g_read, rI cI qg_life 55 g_life, rI cI qg_done 16 g_done, rI cI qg_undone 130 g_undone, rI cI qg_selves 16 g_selves, rI cI qg_when 27 g_when, rI cI qg_jury 16 g_jury, rI cI qg_years 6 g_years, rI cI qg_states 6 g_states, rI cI qg_kept 290 g_kept] (ctX7_readNumber l D cI cZ cD cH qg qg_text qg_read qg_life qg_done qg_undone qg_selves qg_when qg_jury qg_years qg_states qg_kept g_size y1_0 y1_0 g_token g_told g_dones g_undos g_seens g_trace g_text g_read g_life g_done g_undone g_selves g_when g_jury g_years g_states g_kept r14 hr14) ml_RX7_89 im_yX7_readNumber se_yX7_readNumber in_RX7 cd_yX7_readNumber rfl rfl hd_yX7_readNumber ⟨by decide, by decide⟩ ⟨Nat.zero_le _, Nat.zero_le _⟩ [0, 1, 2, 3, 4, 5, 6, 7, 8, 9, 10, 11] [some 0, some 1, some 2, some 3, some 4, some 5, some 6, some 7, some 8, some 9, some 10, some 11] rfl (by decide +kernel) rfl (by decide +kernel) rfl rfl (q0 := 0) rfl rfl rfl hl.1 rfl rfl (Nat.le_of_ble_eq_true rfl) rfl dX7_reads_103 (fun H locs hP hD hS => ?_)
          refine lv_goto (tgt := 154) hx hb dX7_reads_106 (by decide) ?_
          replace hf := Option.some.inj hf
          subst hf
          exact hret H locs _ ls dX7_reads_154 hP hD hS
      · replace hf := ite_f c5 hf
        refine lv_aload_n hx hb dX7_reads_80 rfl (lv_at hl 0 rfl) ?_
        obtain ⟨r15, hr15, hf⟩ := bnd hf
        refine k_callV X hP hD hS [(qg, .inr (7, [.ref qg_text, .int g_size, .int r15.1, .int y1_0, .int r15.2.1, .int r15.2.2, .ref qg_read, .ref qg_life, .int g_dones, .ref qg_done, .int g_undos, .ref qg_undone, .ref qg_selves, .ref qg_when, .ref qg_jury, .int g_seens, .ref qg_years, .ref qg_states, .long g_trace, .ref qg_kept])), rI cI qg_text 200 g_text, rI cI qg_read 55 g_read, rI cI qg_life 55 g_life, rI cI qg_done 16 g_done, rI cI qg_undone 130 g_undone, rI cI qg_selves 16 g_selves, rI cI qg_when 27 g_when, rI cI qg_jury 16 g_jury, rI cI qg_years 6 g_years, rI cI qg_states 6 g_states, rI cI qg_kept 290 g_kept] (ctX7_readLetters l D cI cZ cD cH qg qg_text qg_read qg_life qg_done qg_undone qg_selves qg_when qg_jury qg_years qg_states qg_kept g_size y1_0 y1_0 g_token g_told g_dones g_undos g_seens g_trace g_text g_read g_life g_done g_undone g_selves g_when g_jury g_years g_states g_kept r15 hr15) ml_RX7_86 im_yX7_readLetters se_yX7_readLetters in_RX7 cd_yX7_readLetters rfl rfl hd_yX7_readLetters ⟨by decide, by decide⟩ ⟨Nat.zero_le _, Nat.zero_le _⟩ [0, 1, 2, 3, 4, 5, 6, 7, 8, 9, 10, 11] [some 0, some 1, some 2, some 3, some 4, some 5, some 6, some 7, some 8, some 9, some 10, some 11] rfl (by decide +kernel) rfl (by decide +kernel) rfl rfl (q0 := 0) rfl rfl rfl hl.1 rfl rfl (Nat.le_of_ble_eq_true rfl) rfl dX7_reads_81 (fun H locs hP hD hS => ?_)
        refine lv_goto (tgt := 154) hx hb dX7_reads_84 (by decide) ?_
        replace hf := Option.some.inj hf
        subst hf
        exact hret H locs _ ls dX7_reads_154 hP hD hS
    · replace hf := ite_t c2 hf
      refine lv_aload_n hx hb dX7_reads_57 rfl (lv_at hl 0 rfl) ?_
      refine lv_iconst (v := 0) hx hb dX7_reads_58 (by decide) ?_
      refine k_put X hP hD hS [(qg, .inr (7, [.ref qg_text, .int g_size, .int y1_0, .int y1_0, .int 0, .int g_told, .ref qg_read, .ref qg_life, .int g_dones, .ref qg_done, .int g_undos, .ref qg_undone, .ref qg_selves, .ref qg_when, .ref qg_jury, .int g_seens, .ref qg_years, .ref qg_states, .long g_trace, .ref qg_kept])), rI cI qg_text 200 g_text, rI cI qg_read 55 g_read, rI cI qg_life 55 g_life, rI cI qg_done 16 g_done, rI cI qg_undone 130 g_undone, rI cI qg_selves 16 g_selves, rI cI qg_when 27 g_when, rI cI qg_jury 16 g_jury, rI cI qg_years 6 g_years, rI cI qg_states 6 g_states, rI cI qg_kept 290 g_kept] 0 rfl rfl inX7 tyX7_ok nmX7 4 (by decide) fl_RX7_80 rfl rfl rfl rfl (Nat.le_of_ble_eq_true rfl) rfl dX7_reads_59 (fun H locs hP hD hS => ?_)
      refine lv_goto (tgt := 154) hx hb dX7_reads_62 (by decide) ?_
      replace hf := Option.some.inj hf
      subst hf
      exact hret H locs _ ls dX7_reads_154 hP hD hS
  refine lpd_ind (P := fun s1 => ∀ (H : Heap) (locs : List Loc) (ls : Array Slot), va_P D vwCl [(qg, .inr (7, [.ref qg_text, .int g_size, .int s1, .int g_begin, .int g_token, .int g_told, .ref qg_read, .ref qg_life, .int g_dones, .ref qg_done, .int g_undos, .ref qg_undone, .ref qg_selves, .ref qg_when, .ref qg_jury, .int g_seens, .ref qg_years, .ref qg_states, .long g_trace, .ref qg_kept])), rI cI qg_text 200 g_text, rI cI qg_read 55 g_read, rI cI qg_life 55 g_life, rI cI qg_done 16 g_done, rI cI qg_undone 130 g_undone, rI cI qg_selves 16 g_selves, rI cI qg_when 27 g_when, rI cI qg_jury 16 g_jury, rI cI qg_years 6 g_years, rI cI qg_states 6 g_states, rI cI qg_kept 290 g_kept] H → va_D A [(qg, .inr (7, [.ref qg_text, .int g_size, .int s1, .int g_begin, .int g_token, .int g_told, .ref qg_read, .ref qg_life, .int g_dones, .ref qg_done, .int g_undos, .ref qg_undone, .ref qg_selves, .ref qg_when, .ref qg_jury, .int g_seens, .ref qg_years, .ref qg_states, .long g_trace, .ref qg_kept])), rI cI qg_text 200 g_text, rI cI qg_read 55 g_read, rI cI qg_life 55 g_life, rI cI qg_done 16 g_done, rI cI qg_undone 130 g_undone, rI cI qg_selves 16 g_selves, rI cI qg_when 27 g_when, rI cI qg_jury 16 g_jury, rI cI qg_years 6 g_years, rI cI qg_states 6 g_states, rI cI qg_kept 290 g_kept] → va_S A s.heap H locs → lv_has ls 1 [(0, .ref qg)] → W p l e ({ frames := 3, cells := 0, slots := 0, locals := 66 } : Room) s m args below meth c H locs 0 0 Q (F0 m 0 ls [])) e1 ?_ _ _ he1 H locs ls hP hD hS hl
  intro s1 r1 hf ih1 hq1 H locs ls hP hD hS hl
  unfold sX7_reads_0 at hf
  refine lv_aload_n hx hb dX7_reads_0 rfl (lv_at hl 0 rfl) ?_
  refine k_get X hP 0 rfl rfl inX7 2 (by decide) fl_RX7_67 rfl rfl dX7_reads_1 ?_
  refine lv_aload_n hx hb dX7_reads_4 rfl (lv_at hl 0 rfl) ?_
  refine k_get X hP 0 rfl rfl inX7 1 (by decide) fl_RX7_55 rfl rfl dX7_reads_5 ?_
  refine lv_icmp_ge (tgt := 38) hx hb dX7_reads_8 (by decide) (fun c16 => ?_) (fun c16 => ?_)
  · replace hf := ite_t c16 hf
    exact hx1_0 _ (hq1 _ (Option.some.inj hf).symm) H locs ls hP hD hS hl
  · replace hf := ite_f c16 hf
    refine lv_aload_n hx hb dX7_reads_11 rfl (lv_at hl 0 rfl) ?_
    refine k_get X hP 0 rfl rfl inX7 0 (by decide) fl_RX7_7 rfl rfl dX7_reads_12 ?_
    refine lv_aload_n hx hb dX7_reads_15 rfl (lv_at hl 0 rfl) ?_
    refine k_get X hP 0 rfl rfl inX7 2 (by decide) fl_RX7_67 rfl rfl dX7_reads_16 ?_
    obtain ⟨h17, hf⟩ := ck_t hf
    refine k_iald X hP 1 0 rfl rfl h17 dX7_reads_19 ?_
    refine lv_bipush (v := 32) hx hb dX7_reads_20 (by decide) ?_
    refine lv_icmp_ne (tgt := 38) hx hb dX7_reads_22 (by decide) (fun c18 => ?_) (fun c18 => ?_)
    · replace hf := ite_f c18 hf
      exact hx1_0 _ (hq1 _ (Option.some.inj hf).symm) H locs ls hP hD hS hl
    · replace hf := ite_t c18 hf
      refine lv_aload_n hx hb dX7_reads_25 rfl (lv_at hl 0 rfl) ?_
      refine lv_dup hx hb dX7_reads_26 rfl ?_
      refine k_get X hP 0 rfl rfl inX7 2 (by decide) fl_RX7_67 rfl rfl dX7_reads_27 ?_
      refine lv_iconst (v := 1) hx hb dX7_reads_30 (by decide) ?_
      refine lv_iadd hx hb dX7_reads_31 ?_
      refine k_put X hP hD hS [(qg, .inr (7, [.ref qg_text, .int g_size, .int (s1 + 1), .int g_begin, .int g_token, .int g_told, .ref qg_read, .ref qg_life, .int g_dones, .ref qg_done, .int g_undos, .ref qg_undone, .ref qg_selves, .ref qg_when, .ref qg_jury, .int g_seens, .ref qg_years, .ref qg_states, .long g_trace, .ref qg_kept])), rI cI qg_text 200 g_text, rI cI qg_read 55 g_read, rI cI qg_life 55 g_life, rI cI qg_done 16 g_done, rI cI qg_undone 130 g_undone, rI cI qg_selves 16 g_selves, rI cI qg_when 27 g_when, rI cI qg_jury 16 g_jury, rI cI qg_years 6 g_years, rI cI qg_states 6 g_states, rI cI qg_kept 290 g_kept] 0 rfl rfl inX7 tyX7_ok nmX7 2 (by decide) fl_RX7_67 rfl rfl rfl rfl (Nat.le_of_ble_eq_true rfl) rfl dX7_reads_32 (fun H locs hP hD hS => ?_)
      refine lv_goto (tgt := 0) hx hb dX7_reads_35 (by decide) ?_
      exact ih1 _ (Option.some.inj hf).symm H locs ls hP hD hS hl
