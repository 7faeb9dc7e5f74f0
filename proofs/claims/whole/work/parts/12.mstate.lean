def fX7_isState (a1 : Int32) (g_life : Nat → Int32) : Option (Bool) :=
  if inb 1 55 = true then (fX7_in a1.toInt64 0 (((g_life (1 : Int32).toNatClampNeg) - 1).toInt64)).bind (fun r2 => some r2) else none
set_option maxHeartbeats 4000000 in
set_option maxRecDepth 100000 in
theorem ctX7_isState (l : Launch) (D : va_G) (cI cZ cD cH : ClassId) (qg : Nat) (qg_text : Nat) (qg_read : Nat) (qg_life : Nat) (qg_done : Nat) (qg_undone : Nat) (qg_selves : Nat) (qg_when : Nat) (qg_jury : Nat) (qg_years : Nat) (qg_states : Nat) (qg_kept : Nat) (a1 : Int32) (g_size : Int32) (g_at : Int32) (g_begin : Int32) (g_token : Int32) (g_told : Int32) (g_dones : Int32) (g_undos : Int32) (g_seens : Int32) (g_trace : Int64) (g_text : Nat → Int32) (g_read : Nat → Int32) (g_life : Nat → Int32) (g_done : Nat → Int32) (g_undone : Nat → Int32) (g_selves : Nat → Int32) (g_when : Nat → Int32) (g_jury : Nat → Int32) (g_years : Nat → Int32) (g_states : Nat → Int32) (g_kept : Nat → Int32) (o : Bool) (hf : fX7_isState a1 g_life = some o) : Ct l yX7_isState cX7_isState 2 (some .boolean) { frames := 1, cells := 0, slots := 0, locals := 25 } D (Tys cI cZ cD cH) [.ref qg, .int a1] [(qg, .inr (7, [.ref qg_text, .int g_size, .int g_at, .int g_begin, .int g_token, .int g_told, .ref qg_read, .ref qg_life, .int g_dones, .ref qg_done, .int g_undos, .ref qg_undone, .ref qg_selves, .ref qg_when, .ref qg_jury, .int g_seens, .ref qg_years, .ref qg_states, .long g_trace, .ref qg_kept])), rI cI qg_text 200 g_text, rI cI qg_read 55 g_read, rI cI qg_life 55 g_life, rI cI qg_done 16 g_done, rI cI qg_undone 130 g_undone, rI cI qg_selves 16 g_selves, rI cI qg_when 27 g_when, rI cI qg_jury 16 g_jury, rI cI qg_years 6 g_years, rI cI qg_states 6 g_states, rI cI qg_kept 290 g_kept] [(qg, .inr (7, [.ref qg_text, .int g_size, .int g_at, .int g_begin, .int g_token, .int g_told, .ref qg_read, .ref qg_life, .int g_dones, .ref qg_done, .int g_undos, .ref qg_undone, .ref qg_selves, .ref qg_when, .ref qg_jury, .int g_seens, .ref qg_years, .ref qg_states, .long g_trace, .ref qg_kept])), rI cI qg_text 200 g_text, rI cI qg_read 55 g_read, rI cI qg_life 55 g_life, rI cI qg_done 16 g_done, rI cI qg_undone 130 g_undone, rI cI qg_selves 16 g_selves, rI cI qg_when 27 g_when, rI cI qg_jury 16 g_jury, rI cI qg_years 6 g_years, rI cI qg_states 6 g_states, rI cI qg_kept 290 g_kept] (some (.int (bI o))) 0 0 := by
  refine mkZ (by decide) (Nat.le_of_ble_eq_true rfl) ?_
  intro p e s m args below meth c A Q X hret ls hl H locs hP hD hS
  replace X : Cx p s m args c D (Tys cI cZ cD cH) A cX7_isState RX7 2 := X
  obtain ⟨hx, hb, hml, hown, hts, hK, hZ, hA⟩ := id X
  have hl : lv_has ls 2 [(0, .ref qg), (1, .int a1)] := hl
  unfold fX7_isState at hf
  refine lv_iload_n hx hb dX7_isState_0 rfl (lv_at hl 1 rfl) ?_
  refine lv_i2l (v := a1.toInt64) hx hb dX7_isState_1 rfl ?_
  refine lv_lconst (v := 0) hx hb dX7_isState_2 (by decide) ?_
  refine lv_aload_n hx hb dX7_isState_3 rfl (lv_at hl 0 rfl) ?_
  refine k_get X hP 0 rfl rfl inX7 7 (by decide) fl_RX7_16 rfl rfl dX7_isState_4 ?_
  refine lv_iconst (v := 1) hx hb dX7_isState_7 (by decide) ?_
  obtain ⟨h1, hf⟩ := ck_t hf
  refine k_iald X hP 3 0 rfl rfl h1 dX7_isState_8 ?_
  refine lv_iconst (v := 1) hx hb dX7_isState_9 (by decide) ?_
  refine lv_isub hx hb dX7_isState_10 ?_
  refine lv_i2l (v := ((g_life (1 : Int32).toNatClampNeg) - 1).toInt64) hx hb dX7_isState_11 rfl ?_
  obtain ⟨r2, hr2, hf⟩ := bnd hf
  refine k_callS X hP hD hS [(qg, .inr (7, [.ref qg_text, .int g_size, .int g_at, .int g_begin, .int g_token, .int g_told, .ref qg_read, .ref qg_life, .int g_dones, .ref qg_done, .int g_undos, .ref qg_undone, .ref qg_selves, .ref qg_when, .ref qg_jury, .int g_seens, .ref qg_years, .ref qg_states, .long g_trace, .ref qg_kept])), rI cI qg_text 200 g_text, rI cI qg_read 55 g_read, rI cI qg_life 55 g_life, rI cI qg_done 16 g_done, rI cI qg_undone 130 g_undone, rI cI qg_selves 16 g_selves, rI cI qg_when 27 g_when, rI cI qg_jury 16 g_jury, rI cI qg_years 6 g_years, rI cI qg_states 6 g_states, rI cI qg_kept 290 g_kept] (ctX7_in l D cI cZ cD cH a1.toInt64 0 (((g_life (1 : Int32).toNatClampNeg) - 1).toInt64) r2 hr2) ml_RX7_51 sm_yX7_in in_RX7 cd_yX7_in rfl rfl hd_yX7_in ⟨by decide, by decide⟩ ⟨Nat.zero_le _, Nat.zero_le _⟩ [] [none, none, none, none, none, none, none, none, none, none, none, none] rfl (by decide +kernel) rfl (by decide +kernel) rfl rfl hl.1 rfl rfl (Nat.le_of_ble_eq_true rfl) rfl dX7_isState_12 (fun H locs hP hD hS => ?_)
  replace hf := Option.some.inj hf
  subst hf
  exact hret H locs _ ls dX7_isState_15 hP hD hS

def fX7_isTrial (a1 : Int32) (g_life : Nat → Int32) : Option (Bool) :=
  if inb 3 55 = true then (fX7_in a1.toInt64 0 (((g_life (3 : Int32).toNatClampNeg) - 1).toInt64)).bind (fun r2 => some r2) else none
set_option maxHeartbeats 4000000 in
set_option maxRecDepth 100000 in
theorem ctX7_isTrial (l : Launch) (D : va_G) (cI cZ cD cH : ClassId) (qg : Nat) (qg_text : Nat) (qg_read : Nat) (qg_life : Nat) (qg_done : Nat) (qg_undone : Nat) (qg_selves : Nat) (qg_when : Nat) (qg_jury : Nat) (qg_years : Nat) (qg_states : Nat) (qg_kept : Nat) (a1 : Int32) (g_size : Int32) (g_at : Int32) (g_begin : Int32) (g_token : Int32) (g_told : Int32) (g_dones : Int32) (g_undos : Int32) (g_seens : Int32) (g_trace : Int64) (g_text : Nat → Int32) (g_read : Nat → Int32) (g_life : Nat → Int32) (g_done : Nat → Int32) (g_undone : Nat → Int32) (g_selves : Nat → Int32) (g_when : Nat → Int32) (g_jury : Nat → Int32) (g_years : Nat → Int32) (g_states : Nat → Int32) (g_kept : Nat → Int32) (o : Bool) (hf : fX7_isTrial a1 g_life = some o) : Ct l yX7_isTrial cX7_isTrial 2 (some .boolean) { frames := 1, cells := 0, slots := 0, locals := 25 } D (Tys cI cZ cD cH) [.ref qg, .int a1] [(qg, .inr (7, [.ref qg_text, .int g_size, .int g_at, .int g_begin, .int g_token, .int g_told, .ref qg_read, .ref qg_life, .int g_dones, .ref qg_done, .int g_undos, .ref qg_undone, .ref qg_selves, .ref qg_when, .ref qg_jury, .int g_seens, .ref qg_years, .ref qg_states, .long g_trace, .ref qg_kept])), rI cI qg_text 200 g_text, rI cI qg_read 55 g_read, rI cI qg_life 55 g_life, rI cI qg_done 16 g_done, rI cI qg_undone 130 g_undone, rI cI qg_selves 16 g_selves, rI cI qg_when 27 g_when, rI cI qg_jury 16 g_jury, rI cI qg_years 6 g_years, rI cI qg_states 6 g_states, rI cI qg_kept 290 g_kept] [(qg, .inr (7, [.ref qg_text, .int g_size, .int g_at, .int g_begin, .int g_token, .int g_told, .ref qg_read, .ref qg_life, .int g_dones, .ref qg_done, .int g_undos, .ref qg_undone, .ref qg_selves, .ref qg_when, .ref qg_jury, .int g_seens, .ref qg_years, .ref qg_states, .long g_trace, .ref qg_kept])), rI cI qg_text 200 g_text, rI cI qg_read 55 g_read, rI cI qg_life 55 g_life, rI cI qg_done 16 g_done, rI cI qg_undone 130 g_undone, rI cI qg_selves 16 g_selves, rI cI qg_when 27 g_when, rI cI qg_jury 16 g_jury, rI cI qg_years 6 g_years, rI cI qg_states 6 g_states, rI cI qg_kept 290 g_kept] (some (.int (bI o))) 0 0 := by
  refine mkZ (by decide) (Nat.le_of_ble_eq_true rfl) ?_
  intro p e s m args below meth c A Q X hret ls hl H locs hP hD hS
  replace X : Cx p s m args c D (Tys cI cZ cD cH) A cX7_isTrial RX7 2 := X
  obtain ⟨hx, hb, hml, hown, hts, hK, hZ, hA⟩ := id X
  have hl : lv_has ls 2 [(0, .ref qg), (1, .int a1)] := hl
  unfold fX7_isTrial at hf
  refine lv_iload_n hx hb dX7_isTrial_0 rfl (lv_at hl 1 rfl) ?_
  refine lv_i2l (v := a1.toInt64) hx hb dX7_isTrial_1 rfl ?_
  refine lv_lconst (v := 0) hx hb dX7_isTrial_2 (by decide) ?_
  refine lv_aload_n hx hb dX7_isTrial_3 rfl (lv_at hl 0 rfl) ?_
  refine k_get X hP 0 rfl rfl inX7 7 (by decide) fl_RX7_16 rfl rfl dX7_isTrial_4 ?_
  refine lv_iconst (v := 3) hx hb dX7_isTrial_7 (by decide) ?_
  obtain ⟨h1, hf⟩ := ck_t hf
  refine k_iald X hP 3 0 rfl rfl h1 dX7_isTrial_8 ?_
  refine lv_iconst (v := 1) hx hb dX7_isTrial_9 (by decide) ?_
  refine lv_isub hx hb dX7_isTrial_10 ?_
  refine lv_i2l (v := ((g_life (3 : Int32).toNatClampNeg) - 1).toInt64) hx hb dX7_isTrial_11 rfl ?_
  obtain ⟨r2, hr2, hf⟩ := bnd hf
  refine k_callS X hP hD hS [(qg, .inr (7, [.ref qg_text, .int g_size, .int g_at, .int g_begin, .int g_token, .int g_told, .ref qg_read, .ref qg_life, .int g_dones, .ref qg_done, .int g_undos, .ref qg_undone, .ref qg_selves, .ref qg_when, .ref qg_jury, .int g_seens, .ref qg_years, .ref qg_states, .long g_trace, .ref qg_kept])), rI cI qg_text 200 g_text, rI cI qg_read 55 g_read, rI cI qg_life 55 g_life, rI cI qg_done 16 g_done, rI cI qg_undone 130 g_undone, rI cI qg_selves 16 g_selves, rI cI qg_when 27 g_when, rI cI qg_jury 16 g_jury, rI cI qg_years 6 g_years, rI cI qg_states 6 g_states, rI cI qg_kept 290 g_kept] (ctX7_in l D cI cZ cD cH a1.toInt64 0 (((g_life (3 : Int32).toNatClampNeg) - 1).toInt64) r2 hr2) ml_RX7_51 sm_yX7_in in_RX7 cd_yX7_in rfl rfl hd_yX7_in ⟨by decide, by decide⟩ ⟨Nat.zero_le _, Nat.zero_le _⟩ [] [none, none, none, none, none, none, none, none, none, none, none, none] rfl (by decide +kernel) rfl (by decide +kernel) rfl rfl hl.1 rfl rfl (Nat.le_of_ble_eq_true rfl) rfl dX7_isTrial_12 (fun H locs hP hD hS => ?_)
  replace hf := Option.some.inj hf
  subst hf
  exact hret H locs _ ls dX7_isTrial_15 hP hD hS

def fX7_isYear (a1 : Int32) (g_life : Nat → Int32) : Option (Bool) :=
  if inb 0 55 = true then (fX7_in a1.toInt64 0 (((g_life (0 : Int32).toNatClampNeg) - 1).toInt64)).bind (fun r2 => some r2) else none
set_option maxHeartbeats 4000000 in
set_option maxRecDepth 100000 in
theorem ctX7_isYear (l : Launch) (D : va_G) (cI cZ cD cH : ClassId) (qg : Nat) (qg_text : Nat) (qg_read : Nat) (qg_life : Nat) (qg_done : Nat) (qg_undone : Nat) (qg_selves : Nat) (qg_when : Nat) (qg_jury : Nat) (qg_years : Nat) (qg_states : Nat) (qg_kept : Nat) (a1 : Int32) (g_size : Int32) (g_at : Int32) (g_begin : Int32) (g_token : Int32) (g_told : Int32) (g_dones : Int32) (g_undos : Int32) (g_seens : Int32) (g_trace : Int64) (g_text : Nat → Int32) (g_read : Nat → Int32) (g_life : Nat → Int32) (g_done : Nat → Int32) (g_undone : Nat → Int32) (g_selves : Nat → Int32) (g_when : Nat → Int32) (g_jury : Nat → Int32) (g_years : Nat → Int32) (g_states : Nat → Int32) (g_kept : Nat → Int32) (o : Bool) (hf : fX7_isYear a1 g_life = some o) : Ct l yX7_isYear cX7_isYear 2 (some .boolean) { frames := 1, cells := 0, slots := 0, locals := 25 } D (Tys cI cZ cD cH) [.ref qg, .int a1] [(qg, .inr (7, [.ref qg_text, .int g_size, .int g_at, .int g_begin, .int g_token, .int g_told, .ref qg_read, .ref qg_life, .int g_dones, .ref qg_done, .int g_undos, .ref qg_undone, .ref qg_selves, .ref qg_when, .ref qg_jury, .int g_seens, .ref qg_years, .ref qg_states, .long g_trace, .ref qg_kept])), rI cI qg_text 200 g_text, rI cI qg_read 55 g_read, rI cI qg_life 55 g_life, rI cI qg_done 16 g_done, rI cI qg_undone 130 g_undone, rI cI qg_selves 16 g_selves, rI cI qg_when 27 g_when, rI cI qg_jury 16 g_jury, rI cI qg_years 6 g_years, rI cI qg_states 6 g_states, rI cI qg_kept 290 g_kept] [(qg, .inr (7, [.ref qg_text, .int g_size, .int g_at, .int g_begin, .int g_token, .int g_told, .ref qg_read, .ref qg_life, .int g_dones, .ref qg_done, .int g_undos, .ref qg_undone, .ref qg_selves, .ref qg_when, .ref qg_jury, .int g_seens, .ref qg_years, .ref qg_states, .long g_trace, .ref qg_kept])), rI cI qg_text 200 g_text, rI cI qg_read 55 g_read, rI cI qg_life 55 g_life, rI cI qg_done 16 g_done, rI cI qg_undone 130 g_undone, rI cI qg_selves 16 g_selves, rI cI qg_when 27 g_when, rI cI qg_jury 16 g_jury, rI cI qg_years 6 g_years, rI cI qg_states 6 g_states, rI cI qg_kept 290 g_kept] (some (.int (bI o))) 0 0 := by
  refine mkZ (by decide) (Nat.le_of_ble_eq_true rfl) ?_
  intro p e s m args below meth c A Q X hret ls hl H locs hP hD hS
  replace X : Cx p s m args c D (Tys cI cZ cD cH) A cX7_isYear RX7 2 := X
  obtain ⟨hx, hb, hml, hown, hts, hK, hZ, hA⟩ := id X
  have hl : lv_has ls 2 [(0, .ref qg), (1, .int a1)] := hl
  unfold fX7_isYear at hf
  refine lv_iload_n hx hb dX7_isYear_0 rfl (lv_at hl 1 rfl) ?_
  refine lv_i2l (v := a1.toInt64) hx hb dX7_isYear_1 rfl ?_
  refine lv_lconst (v := 0) hx hb dX7_isYear_2 (by decide) ?_
  refine lv_aload_n hx hb dX7_isYear_3 rfl (lv_at hl 0 rfl) ?_
  refine k_get X hP 0 rfl rfl inX7 7 (by decide) fl_RX7_16 rfl rfl dX7_isYear_4 ?_
  refine lv_iconst (v := 0) hx hb dX7_isYear_7 (by decide) ?_
  obtain ⟨h1, hf⟩ := ck_t hf
  refine k_iald X hP 3 0 rfl rfl h1 dX7_isYear_8 ?_
  refine lv_iconst (v := 1) hx hb dX7_isYear_9 (by decide) ?_
  refine lv_isub hx hb dX7_isYear_10 ?_
  refine lv_i2l (v := ((g_life (0 : Int32).toNatClampNeg) - 1).toInt64) hx hb dX7_isYear_11 rfl ?_
  obtain ⟨r2, hr2, hf⟩ := bnd hf
  refine k_callS X hP hD hS [(qg, .inr (7, [.ref qg_text, .int g_size, .int g_at, .int g_begin, .int g_token, .int g_told, .ref qg_read, .ref qg_life, .int g_dones, .ref qg_done, .int g_undos, .ref qg_undone, .ref qg_selves, .ref qg_when, .ref qg_jury, .int g_seens, .ref qg_years, .ref qg_states, .long g_trace, .ref qg_kept])), rI cI qg_text 200 g_text, rI cI qg_read 55 g_read, rI cI qg_life 55 g_life, rI cI qg_done 16 g_done, rI cI qg_undone 130 g_undone, rI cI qg_selves 16 g_selves, rI cI qg_when 27 g_when, rI cI qg_jury 16 g_jury, rI cI qg_years 6 g_years, rI cI qg_states 6 g_states, rI cI qg_kept 290 g_kept] (ctX7_in l D cI cZ cD cH a1.toInt64 0 (((g_life (0 : Int32).toNatClampNeg) - 1).toInt64) r2 hr2) ml_RX7_51 sm_yX7_in in_RX7 cd_yX7_in rfl rfl hd_yX7_in ⟨by decide, by decide⟩ ⟨Nat.zero_le _, Nat.zero_le _⟩ [] [none, none, none, none, none, none, none, none, none, none, none, none] rfl (by decide +kernel) rfl (by decide +kernel) rfl rfl hl.1 rfl rfl (Nat.le_of_ble_eq_true rfl) rfl dX7_isYear_12 (fun H locs hP hD hS => ?_)
  replace hf := Option.some.inj hf
  subst hf
  exact hret H locs _ ls dX7_isYear_15 hP hD hS

def fX7_of (a1 : Int32) (a2 : Int32) (g_life : Nat → Int32) : Option (Int32) :=
  if inb ((8 + (5 * a1)) + a2) 55 = true then some (g_life ((8 + (5 * a1)) + a2).toNatClampNeg) else none
set_option maxHeartbeats 4000000 in
set_option maxRecDepth 100000 in
theorem ctX7_of (l : Launch) (D : va_G) (cI cZ cD cH : ClassId) (qg : Nat) (qg_text : Nat) (qg_read : Nat) (qg_life : Nat) (qg_done : Nat) (qg_undone : Nat) (qg_selves : Nat) (qg_when : Nat) (qg_jury : Nat) (qg_years : Nat) (qg_states : Nat) (qg_kept : Nat) (a1 : Int32) (a2 : Int32) (g_size : Int32) (g_at : Int32) (g_begin : Int32) (g_token : Int32) (g_told : Int32) (g_dones : Int32) (g_undos : Int32) (g_seens : Int32) (g_trace : Int64) (g_text : Nat → Int32) (g_read : Nat → Int32) (g_life : Nat → Int32) (g_done : Nat → Int32) (g_undone : Nat → Int32) (g_selves : Nat → Int32) (g_when : Nat → Int32) (g_jury : Nat → Int32) (g_years : Nat → Int32) (g_states : Nat → Int32) (g_kept : Nat → Int32) (o : Int32) (hf : fX7_of a1 a2 g_life = some o) : Ct l yX7_of cX7_of 3 (some .int) { frames := 0, cells := 0, slots := 0, locals := 0 } D (Tys cI cZ cD cH) [.ref qg, .int a1, .int a2] [(qg, .inr (7, [.ref qg_text, .int g_size, .int g_at, .int g_begin, .int g_token, .int g_told, .ref qg_read, .ref qg_life, .int g_dones, .ref qg_done, .int g_undos, .ref qg_undone, .ref qg_selves, .ref qg_when, .ref qg_jury, .int g_seens, .ref qg_years, .ref qg_states, .long g_trace, .ref qg_kept])), rI cI qg_text 200 g_text, rI cI qg_read 55 g_read, rI cI qg_life 55 g_life, rI cI qg_done 16 g_done, rI cI qg_undone 130 g_undone, rI cI qg_selves 16 g_selves, rI cI qg_when 27 g_when, rI cI qg_jury 16 g_jury, rI cI qg_years 6 g_years, rI cI qg_states 6 g_states, rI cI qg_kept 290 g_kept] [(qg, .inr (7, [.ref qg_text, .int g_size, .int g_at, .int g_begin, .int g_token, .int g_told, .ref qg_read, .ref qg_life, .int g_dones, .ref qg_done, .int g_undos, .ref qg_undone, .ref qg_selves, .ref qg_when, .ref qg_jury, .int g_seens, .ref qg_years, .ref qg_states, .long g_trace, .ref qg_kept])), rI cI qg_text 200 g_text, rI cI qg_read 55 g_read, rI cI qg_life 55 g_life, rI cI qg_done 16 g_done, rI cI qg_undone 130 g_undone, rI cI qg_selves 16 g_selves, rI cI qg_when 27 g_when, rI cI qg_jury 16 g_jury, rI cI qg_years 6 g_years, rI cI qg_states 6 g_states, rI cI qg_kept 290 g_kept] (some (.int o)) 0 0 := by
  refine mkI (by decide) (Nat.le_of_ble_eq_true rfl) ?_
  intro p e s m args below meth c A Q X hret ls hl H locs hP hD hS
  replace X : Cx p s m args c D (Tys cI cZ cD cH) A cX7_of RX7 3 := X
  obtain ⟨hx, hb, hml, hown, hts, hK, hZ, hA⟩ := id X
  have hl : lv_has ls 3 [(0, .ref qg), (1, .int a1), (2, .int a2)] := hl
  unfold fX7_of at hf
  refine lv_aload_n hx hb dX7_of_0 rfl (lv_at hl 0 rfl) ?_
  refine k_get X hP 0 rfl rfl inX7 7 (by decide) fl_RX7_16 rfl rfl dX7_of_1 ?_
  refine lv_bipush (v := 8) hx hb dX7_of_4 (by decide) ?_
  refine lv_iconst (v := 5) hx hb dX7_of_6 (by decide) ?_
  refine lv_iload_n hx hb dX7_of_7 rfl (lv_at hl 1 rfl) ?_
  refine lv_imul hx hb dX7_of_8 ?_
  refine lv_iadd hx hb dX7_of_9 ?_
  refine lv_iload_n hx hb dX7_of_10 rfl (lv_at hl 2 rfl) ?_
  refine lv_iadd hx hb dX7_of_11 ?_
  obtain ⟨h1, hf⟩ := ck_t hf
  refine k_iald X hP 3 0 rfl rfl h1 dX7_of_12 ?_
  replace hf := Option.some.inj hf
  subst hf
  exact hret H locs _ ls dX7_of_13 hP hD hS

def fX7_lean (a1 : Int32) (g_life : Nat → Int32) : Option (Int32) :=
  (fX7_of a1 0 g_life).bind (fun r1 => some (r1 - 9))
set_option maxHeartbeats 4000000 in
set_option maxRecDepth 100000 in
theorem ctX7_lean (l : Launch) (D : va_G) (cI cZ cD cH : ClassId) (qg : Nat) (qg_text : Nat) (qg_read : Nat) (qg_life : Nat) (qg_done : Nat) (qg_undone : Nat) (qg_selves : Nat) (qg_when : Nat) (qg_jury : Nat) (qg_years : Nat) (qg_states : Nat) (qg_kept : Nat) (a1 : Int32) (g_size : Int32) (g_at : Int32) (g_begin : Int32) (g_token : Int32) (g_told : Int32) (g_dones : Int32) (g_undos : Int32) (g_seens : Int32) (g_trace : Int64) (g_text : Nat → Int32) (g_read : Nat → Int32) (g_life : Nat → Int32) (g_done : Nat → Int32) (g_undone : Nat → Int32) (g_selves : Nat → Int32) (g_when : Nat → Int32) (g_jury : Nat → Int32) (g_years : Nat → Int32) (g_states : Nat → Int32) (g_kept : Nat → Int32) (o : Int32) (hf : fX7_lean a1 g_life = some o) : Ct l yX7_lean cX7_lean 2 (some .int) { frames := 1, cells := 0, slots := 0, locals := 22 } D (Tys cI cZ cD cH) [.ref qg, .int a1] [(qg, .inr (7, [.ref qg_text, .int g_size, .int g_at, .int g_begin, .int g_token, .int g_told, .ref qg_read, .ref qg_life, .int g_dones, .ref qg_done, .int g_undos, .ref qg_undone, .ref qg_selves, .ref qg_when, .ref qg_jury, .int g_seens, .ref qg_years, .ref qg_states, .long g_trace, .ref qg_kept])), rI cI qg_text 200 g_text, rI cI qg_read 55 g_read, rI cI qg_life 55 g_life, rI cI qg_done 16 g_done, rI cI qg_undone 130 g_undone, rI cI qg_selves 16 g_selves, rI cI qg_when 27 g_when, rI cI qg_jury 16 g_jury, rI cI qg_years 6 g_years, rI cI qg_states 6 g_states, rI cI qg_kept 290 g_kept] [(qg, .inr (7, [.ref qg_text, .int g_size, .int g_at, .int g_begin, .int g_token, .int g_told, .ref qg_read, .ref qg_life, .int g_dones, .ref qg_done, .int g_undos, .ref qg_undone, .ref qg_selves, .ref qg_when, .ref qg_jury, .int g_seens, .ref qg_years, .ref qg_states, .long g_trace, .ref qg_kept])), rI cI qg_text 200 g_text, rI cI qg_read 55 g_read, rI cI qg_life 55 g_life, rI cI qg_done 16 g_done, rI cI qg_undone 130 g_undone, rI cI qg_selves 16 g_selves, rI cI qg_when 27 g_when, rI cI qg_jury 16 g_jury, rI cI qg_years 6 g_years, rI cI qg_states 6 g_states, rI cI qg_kept 290 g_kept] (some (.int o)) 0 0 := by
  refine mkI (by decide) (Nat.le_of_ble_eq_true rfl) ?_
  intro p e s m args below meth c A Q X hret ls hl H locs hP hD hS
  replace X : Cx p s m args c D (Tys cI cZ cD cH) A cX7_lean RX7 2 := X
  obtain ⟨hx, hb, hml, hown, hts, hK, hZ, hA⟩ := id X
  have hl : lv_has ls 2 [(0, .ref qg), (1, .int a1)] := hl
  unfold fX7_lean at hf
  refine lv_aload_n hx hb dX7_lean_0 rfl (lv_at hl 0 rfl) ?_
  refine lv_iload_n hx hb dX7_lean_1 rfl (lv_at hl 1 rfl) ?_
  refine lv_iconst (v := 0) hx hb dX7_lean_2 (by decide) ?_
  obtain ⟨r1, hr1, hf⟩ := bnd hf
  refine k_callV X hP hD hS [(qg, .inr (7, [.ref qg_text, .int g_size, .int g_at, .int g_begin, .int g_token, .int g_told, .ref qg_read, .ref qg_life, .int g_dones, .ref qg_done, .int g_undos, .ref qg_undone, .ref qg_selves, .ref qg_when, .ref qg_jury, .int g_seens, .ref qg_years, .ref qg_states, .long g_trace, .ref qg_kept])), rI cI qg_text 200 g_text, rI cI qg_read 55 g_read, rI cI qg_life 55 g_life, rI cI qg_done 16 g_done, rI cI qg_undone 130 g_undone, rI cI qg_selves 16 g_selves, rI cI qg_when 27 g_when, rI cI qg_jury 16 g_jury, rI cI qg_years 6 g_years, rI cI qg_states 6 g_states, rI cI qg_kept 290 g_kept] (ctX7_of l D cI cZ cD cH qg qg_text qg_read qg_life qg_done qg_undone qg_selves qg_when qg_jury qg_years qg_states qg_kept a1 0 g_size g_at g_begin g_token g_told g_dones g_undos g_seens g_trace g_text g_read g_life g_done g_undone g_selves g_when g_jury g_years g_states g_kept r1 hr1) ml_RX7_128 im_yX7_of se_yX7_of in_RX7 cd_yX7_of rfl rfl hd_yX7_of ⟨by decide, by decide⟩ ⟨Nat.zero_le _, Nat.zero_le _⟩ [0, 1, 2, 3, 4, 5, 6, 7, 8, 9, 10, 11] [some 0, some 1, some 2, some 3, some 4, some 5, some 6, some 7, some 8, some 9, some 10, some 11] rfl (by decide +kernel) rfl (by decide +kernel) rfl rfl (q0 := 0) rfl rfl rfl hl.1 rfl rfl (Nat.le_of_ble_eq_true rfl) rfl dX7_lean_3 (fun H locs hP hD hS => ?_)
  refine lv_bipush (v := 9) hx hb dX7_lean_6 (by decide) ?_
  refine lv_isub hx hb dX7_lean_8 ?_
  replace hf := Option.some.inj hf
  subst hf
  exact hret H locs _ ls dX7_lean_9 hP hD hS

def fX7_state (a1 : Int32) (a2 : Int32) (g_life : Nat → Int32) : Option (Int32) :=
  (fX7_isState a1 g_life).bind (fun r1 => if (bI r1) = 0 then some (-1000000) else (fX7_in a2.toInt64 0 4).bind (fun r3 => if (bI r3) = 0 then some (-1000000) else if a2 = 0 then (fX7_lean a1 g_life).bind (fun r7 => some r7) else (fX7_of a1 a2 g_life).bind (fun r6 => some r6)))
set_option maxHeartbeats 4000000 in
set_option maxRecDepth 100000 in
theorem ctX7_state (l : Launch) (D : va_G) (cI cZ cD cH : ClassId) (qg : Nat) (qg_text : Nat) (qg_read : Nat) (qg_life : Nat) (qg_done : Nat) (qg_undone : Nat) (qg_selves : Nat) (qg_when : Nat) (qg_jury : Nat) (qg_years : Nat) (qg_states : Nat) (qg_kept : Nat) (a1 : Int32) (a2 : Int32) (g_size : Int32) (g_at : Int32) (g_begin : Int32) (g_token : Int32) (g_told : Int32) (g_dones : Int32) (g_undos : Int32) (g_seens : Int32) (g_trace : Int64) (g_text : Nat → Int32) (g_read : Nat → Int32) (g_life : Nat → Int32) (g_done : Nat → Int32) (g_undone : Nat → Int32) (g_selves : Nat → Int32) (g_when : Nat → Int32) (g_jury : Nat → Int32) (g_years : Nat → Int32) (g_states : Nat → Int32) (g_kept : Nat → Int32) (o : Int32) (hf : fX7_state a1 a2 g_life = some o) : Ct l yX7_state cX7_state 3 (some .int) { frames := 2, cells := 0, slots := 0, locals := 46 } D (Tys cI cZ cD cH) [.ref qg, .int a1, .int a2] [(qg, .inr (7, [.ref qg_text, .int g_size, .int g_at, .int g_begin, .int g_token, .int g_told, .ref qg_read, .ref qg_life, .int g_dones, .ref qg_done, .int g_undos, .ref qg_undone, .ref qg_selves, .ref qg_when, .ref qg_jury, .int g_seens, .ref qg_years, .ref qg_states, .long g_trace, .ref qg_kept])), rI cI qg_text 200 g_text, rI cI qg_read 55 g_read, rI cI qg_life 55 g_life, rI cI qg_done 16 g_done, rI cI qg_undone 130 g_undone, rI cI qg_selves 16 g_selves, rI cI qg_when 27 g_when, rI cI qg_jury 16 g_jury, rI cI qg_years 6 g_years, rI cI qg_states 6 g_states, rI cI qg_kept 290 g_kept] [(qg, .inr (7, [.ref qg_text, .int g_size, .int g_at, .int g_begin, .int g_token, .int g_told, .ref qg_read, .ref qg_life, .int g_dones, .ref qg_done, .int g_undos, .ref qg_undone, .ref qg_selves, .ref qg_when, .ref qg_jury, .int g_seens, .ref qg_years, .ref qg_states, .long g_trace, .ref qg_kept])), rI cI qg_text 200 g_text, rI cI qg_read 55 g_read, rI cI qg_life 55 g_life, rI cI qg_done 16 g_done, rI cI qg_undone 130 g_undone, rI cI qg_selves 16 g_selves, rI cI qg_when 27 g_when, rI cI qg_jury 16 g_jury, rI cI qg_years 6 g_years, rI cI qg_states 6 g_states, rI cI qg_kept 290 g_kept] (some (.int o)) 0 0 := by
  refine mkI (by decide) (Nat.le_of_ble_eq_true rfl) ?_
  intro p e s m args below meth c A Q X hret ls hl H locs hP hD hS
  replace X : Cx p s m args c D (Tys cI cZ cD cH) A cX7_state RX7 3 := X
  obtain ⟨hx, hb, hml, hown, hts, hK, hZ, hA⟩ := id X
  have hl : lv_has ls 3 [(0, .ref qg), (1, .int a1), (2, .int a2)] := hl
  unfold fX7_state at hf
  refine lv_aload_n hx hb dX7_state_0 rfl (lv_at hl 0 rfl) ?_
  refine lv_iload_n hx hb dX7_state_1 rfl (lv_at hl 1 rfl) ?_
  obtain ⟨r1, hr1, hf⟩ := bnd hf
  refine k_callV X hP hD hS [(qg, .inr (7, [.ref qg_text, .int g_size, .int g_at, .int g_begin, .int g_token, .int g_told, .ref qg_read, .ref qg_life, .int g_dones, .ref qg_done, .int g_undos, .ref qg_undone, .ref qg_selves, .ref qg_when, .ref qg_jury, .int g_seens, .ref qg_years, .ref qg_states, .long g_trace, .ref qg_kept])), rI cI qg_text 200 g_text, rI cI qg_read 55 g_read, rI cI qg_life 55 g_life, rI cI qg_done 16 g_done, rI cI qg_undone 130 g_undone, rI cI qg_selves 16 g_selves, rI cI qg_when 27 g_when, rI cI qg_jury 16 g_jury, rI cI qg_years 6 g_years, rI cI qg_states 6 g_states, rI cI qg_kept 290 g_kept] (ctX7_isState l D cI cZ cD cH qg qg_text qg_read qg_life qg_done qg_undone qg_selves qg_when qg_jury qg_years qg_states qg_kept a1 g_size g_at g_begin g_token g_told g_dones g_undos g_seens g_trace g_text g_read g_life g_done g_undone g_selves g_when g_jury g_years g_states g_kept r1 hr1) ml_RX7_132 im_yX7_isState se_yX7_isState in_RX7 cd_yX7_isState rfl rfl hd_yX7_isState ⟨by decide, by decide⟩ ⟨Nat.zero_le _, Nat.zero_le _⟩ [0, 1, 2, 3, 4, 5, 6, 7, 8, 9, 10, 11] [some 0, some 1, some 2, some 3, some 4, some 5, some 6, some 7, some 8, some 9, some 10, some 11] rfl (by decide +kernel) rfl (by decide +kernel) rfl rfl (q0 := 0) rfl rfl rfl hl.1 rfl rfl (Nat.le_of_ble_eq_true rfl) rfl dX7_state_2 (fun H locs hP hD hS => ?_)
  refine lv_if_eq (tgt := 41) hx hb dX7_state_5 (by decide) (fun c2 => ?_) (fun c2 => ?_)
  · replace hf := ite_t c2 hf
    refine lv_ldc hx hb hown (hts _ ck_RX7_141) dX7_state_41 ?_
    replace hf := Option.some.inj hf
    subst hf
    exact hret H locs _ ls dX7_state_43 hP hD hS
  · replace hf := ite_f c2 hf
    refine lv_iload_n hx hb dX7_state_8 rfl (lv_at hl 2 rfl) ?_
    refine lv_i2l (v := a2.toInt64) hx hb dX7_state_9 rfl ?_
    refine lv_lconst (v := 0) hx hb dX7_state_10 (by decide) ?_
    refine lv_ldc2 hx hb hown (hts _ cl_RX7_135) dX7_state_11 ?_
    obtain ⟨r3, hr3, hf⟩ := bnd hf
    refine k_callS X hP hD hS [(qg, .inr (7, [.ref qg_text, .int g_size, .int g_at, .int g_begin, .int g_token, .int g_told, .ref qg_read, .ref qg_life, .int g_dones, .ref qg_done, .int g_undos, .ref qg_undone, .ref qg_selves, .ref qg_when, .ref qg_jury, .int g_seens, .ref qg_years, .ref qg_states, .long g_trace, .ref qg_kept])), rI cI qg_text 200 g_text, rI cI qg_read 55 g_read, rI cI qg_life 55 g_life, rI cI qg_done 16 g_done, rI cI qg_undone 130 g_undone, rI cI qg_selves 16 g_selves, rI cI qg_when 27 g_when, rI cI qg_jury 16 g_jury, rI cI qg_years 6 g_years, rI cI qg_states 6 g_states, rI cI qg_kept 290 g_kept] (ctX7_in l D cI cZ cD cH a2.toInt64 0 4 r3 hr3) ml_RX7_51 sm_yX7_in in_RX7 cd_yX7_in rfl rfl hd_yX7_in ⟨by decide, by decide⟩ ⟨Nat.zero_le _, Nat.zero_le _⟩ [] [none, none, none, none, none, none, none, none, none, none, none, none] rfl (by decide +kernel) rfl (by decide +kernel) rfl rfl hl.1 rfl rfl (Nat.le_of_ble_eq_true rfl) rfl dX7_state_14 (fun H locs hP hD hS => ?_)
    refine lv_if_eq (tgt := 41) hx hb dX7_state_17 (by decide) (fun c4 => ?_) (fun c4 => ?_)
    · replace hf := ite_t c4 hf
      refine lv_ldc hx hb hown (hts _ ck_RX7_141) dX7_state_41 ?_
      replace hf := Option.some.inj hf
      subst hf
      exact hret H locs _ ls dX7_state_43 hP hD hS
    · replace hf := ite_f c4 hf
      refine lv_iload_n hx hb dX7_state_20 rfl (lv_at hl 2 rfl) ?_
      refine lv_if_ne (tgt := 32) hx hb dX7_state_21 (by decide) (fun c5 => ?_) (fun c5 => ?_)
      · replace hf := ite_f c5 hf
        refine lv_aload_n hx hb dX7_state_32 rfl (lv_at hl 0 rfl) ?_
        refine lv_iload_n hx hb dX7_state_33 rfl (lv_at hl 1 rfl) ?_
        refine lv_iload_n hx hb dX7_state_34 rfl (lv_at hl 2 rfl) ?_
        obtain ⟨r6, hr6, hf⟩ := bnd hf
        refine k_callV X hP hD hS [(qg, .inr (7, [.ref qg_text, .int g_size, .int g_at, .int g_begin, .int g_token, .int g_told, .ref qg_read, .ref qg_life, .int g_dones, .ref qg_done, .int g_undos, .ref qg_undone, .ref qg_selves, .ref qg_when, .ref qg_jury, .int g_seens, .ref qg_years, .ref qg_states, .long g_trace, .ref qg_kept])), rI cI qg_text 200 g_text, rI cI qg_read 55 g_read, rI cI qg_life 55 g_life, rI cI qg_done 16 g_done, rI cI qg_undone 130 g_undone, rI cI qg_selves 16 g_selves, rI cI qg_when 27 g_when, rI cI qg_jury 16 g_jury, rI cI qg_years 6 g_years, rI cI qg_states 6 g_states, rI cI qg_kept 290 g_kept] (ctX7_of l D cI cZ cD cH qg qg_text qg_read qg_life qg_done qg_undone qg_selves qg_when qg_jury qg_years qg_states qg_kept a1 a2 g_size g_at g_begin g_token g_told g_dones g_undos g_seens g_trace g_text g_read g_life g_done g_undone g_selves g_when g_jury g_years g_states g_kept r6 hr6) ml_RX7_128 im_yX7_of se_yX7_of in_RX7 cd_yX7_of rfl rfl hd_yX7_of ⟨by decide, by decide⟩ ⟨Nat.zero_le _, Nat.zero_le _⟩ [0, 1, 2, 3, 4, 5, 6, 7, 8, 9, 10, 11] [some 0, some 1, some 2, some 3, some 4, some 5, some 6, some 7, some 8, some 9, some 10, some 11] rfl (by decide +kernel) rfl (by decide +kernel) rfl rfl (q0 := 0) rfl rfl rfl hl.1 rfl rfl (Nat.le_of_ble_eq_true rfl) rfl dX7_state_35 (fun H locs hP hD hS => ?_)
        refine lv_goto (tgt := 43) hx hb dX7_state_38 (by decide) ?_
        replace hf := Option.some.inj hf
        subst hf
        exact hret H locs _ ls dX7_state_43 hP hD hS
      · replace hf := ite_t c5 hf
        refine lv_aload_n hx hb dX7_state_24 rfl (lv_at hl 0 rfl) ?_
        refine lv_iload_n hx hb dX7_state_25 rfl (lv_at hl 1 rfl) ?_
        obtain ⟨r7, hr7, hf⟩ := bnd hf
        refine k_callV X hP hD hS [(qg, .inr (7, [.ref qg_text, .int g_size, .int g_at, .int g_begin, .int g_token, .int g_told, .ref qg_read, .ref qg_life, .int g_dones, .ref qg_done, .int g_undos, .ref qg_undone, .ref qg_selves, .ref qg_when, .ref qg_jury, .int g_seens, .ref qg_years, .ref qg_states, .long g_trace, .ref qg_kept])), rI cI qg_text 200 g_text, rI cI qg_read 55 g_read, rI cI qg_life 55 g_life, rI cI qg_done 16 g_done, rI cI qg_undone 130 g_undone, rI cI qg_selves 16 g_selves, rI cI qg_when 27 g_when, rI cI qg_jury 16 g_jury, rI cI qg_years 6 g_years, rI cI qg_states 6 g_states, rI cI qg_kept 290 g_kept] (ctX7_lean l D cI cZ cD cH qg qg_text qg_read qg_life qg_done qg_undone qg_selves qg_when qg_jury qg_years qg_states qg_kept a1 g_size g_at g_begin g_token g_told g_dones g_undos g_seens g_trace g_text g_read g_life g_done g_undone g_selves g_when g_jury g_years g_states g_kept r7 hr7) ml_RX7_137 im_yX7_lean se_yX7_lean in_RX7 cd_yX7_lean rfl rfl hd_yX7_lean ⟨by decide, by decide⟩ ⟨Nat.zero_le _, Nat.zero_le _⟩ [0, 1, 2, 3, 4, 5, 6, 7, 8, 9, 10, 11] [some 0, some 1, some 2, some 3, some 4, some 5, some 6, some 7, some 8, some 9, some 10, some 11] rfl (by decide +kernel) rfl (by decide +kernel) rfl rfl (q0 := 0) rfl rfl rfl hl.1 rfl rfl (Nat.le_of_ble_eq_true rfl) rfl dX7_state_26 (fun H locs hP hD hS => ?_)
        refine lv_goto (tgt := 43) hx hb dX7_state_29 (by decide) ?_
        replace hf := Option.some.inj hf
        subst hf
        exact hret H locs _ ls dX7_state_43 hP hD hS

def fX7_trial (a1 : Int32) (a2 : Int32) (g_life : Nat → Int32) : Option (Int32) :=
  (fX7_isTrial a1 g_life).bind (fun r1 => if (bI r1) = 0 then some (-1) else (fX7_in a2.toInt64 0 2).bind (fun r3 => if (bI r3) = 0 then some (-1) else if inb ((38 + (3 * a1)) + a2) 55 = true then some (g_life ((38 + (3 * a1)) + a2).toNatClampNeg) else none))
set_option maxHeartbeats 4000000 in
set_option maxRecDepth 100000 in
theorem ctX7_trial (l : Launch) (D : va_G) (cI cZ cD cH : ClassId) (qg : Nat) (qg_text : Nat) (qg_read : Nat) (qg_life : Nat) (qg_done : Nat) (qg_undone : Nat) (qg_selves : Nat) (qg_when : Nat) (qg_jury : Nat) (qg_years : Nat) (qg_states : Nat) (qg_kept : Nat) (a1 : Int32) (a2 : Int32) (g_size : Int32) (g_at : Int32) (g_begin : Int32) (g_token : Int32) (g_told : Int32) (g_dones : Int32) (g_undos : Int32) (g_seens : Int32) (g_trace : Int64) (g_text : Nat → Int32) (g_read : Nat → Int32) (g_life : Nat → Int32) (g_done : Nat → Int32) (g_undone : Nat → Int32) (g_selves : Nat → Int32) (g_when : Nat → Int32) (g_jury : Nat → Int32) (g_years : Nat → Int32) (g_states : Nat → Int32) (g_kept : Nat → Int32) (o : Int32) (hf : fX7_trial a1 a2 g_life = some o) : Ct l yX7_trial cX7_trial 3 (some .int) { frames := 2, cells := 0, slots := 0, locals := 46 } D (Tys cI cZ cD cH) [.ref qg, .int a1, .int a2] [(qg, .inr (7, [.ref qg_text, .int g_size, .int g_at, .int g_begin, .int g_token, .int g_told, .ref qg_read, .ref qg_life, .int g_dones, .ref qg_done, .int g_undos, .ref qg_undone, .ref qg_selves, .ref qg_when, .ref qg_jury, .int g_seens, .ref qg_years, .ref qg_states, .long g_trace, .ref qg_kept])), rI cI qg_text 200 g_text, rI cI qg_read 55 g_read, rI cI qg_life 55 g_life, rI cI qg_done 16 g_done, rI cI qg_undone 130 g_undone, rI cI qg_selves 16 g_selves, rI cI qg_when 27 g_when, rI cI qg_jury 16 g_jury, rI cI qg_years 6 g_years, rI cI qg_states 6 g_states, rI cI qg_kept 290 g_kept] [(qg, .inr (7, [.ref qg_text, .int g_size, .int g_at, .int g_begin, .int g_token, .int g_told, .ref qg_read, .ref qg_life, .int g_dones, .ref qg_done, .int g_undos, .ref qg_undone, .ref qg_selves, .ref qg_when, .ref qg_jury, .int g_seens, .ref qg_years, .ref qg_states, .long g_trace, .ref qg_kept])), rI cI qg_text 200 g_text, rI cI qg_read 55 g_read, rI cI qg_life 55 g_life, rI cI qg_done 16 g_done, rI cI qg_undone 130 g_undone, rI cI qg_selves 16 g_selves, rI cI qg_when 27 g_when, rI cI qg_jury 16 g_jury, rI cI qg_years 6 g_years, rI cI qg_states 6 g_states, rI cI qg_kept 290 g_kept] (some (.int o)) 0 0 := by
  refine mkI (by decide) (Nat.le_of_ble_eq_true rfl) ?_
  intro p e s m args below meth c A Q X hret ls hl H locs hP hD hS
  replace X : Cx p s m args c D (Tys cI cZ cD cH) A cX7_trial RX7 3 := X
  obtain ⟨hx, hb, hml, hown, hts, hK, hZ, hA⟩ := id X
  have hl : lv_has ls 3 [(0, .ref qg), (1, .int a1), (2, .int a2)] := hl
  unfold fX7_trial at hf
  refine lv_aload_n hx hb dX7_trial_0 rfl (lv_at hl 0 rfl) ?_
  refine lv_iload_n hx hb dX7_trial_1 rfl (lv_at hl 1 rfl) ?_
  obtain ⟨r1, hr1, hf⟩ := bnd hf
  refine k_callV X hP hD hS [(qg, .inr (7, [.ref qg_text, .int g_size, .int g_at, .int g_begin, .int g_token, .int g_told, .ref qg_read, .ref qg_life, .int g_dones, .ref qg_done, .int g_undos, .ref qg_undone, .ref qg_selves, .ref qg_when, .ref qg_jury, .int g_seens, .ref qg_years, .ref qg_states, .long g_trace, .ref qg_kept])), rI cI qg_text 200 g_text, rI cI qg_read 55 g_read, rI cI qg_life 55 g_life, rI cI qg_done 16 g_done, rI cI qg_undone 130 g_undone, rI cI qg_selves 16 g_selves, rI cI qg_when 27 g_when, rI cI qg_jury 16 g_jury, rI cI qg_years 6 g_years, rI cI qg_states 6 g_states, rI cI qg_kept 290 g_kept] (ctX7_isTrial l D cI cZ cD cH qg qg_text qg_read qg_life qg_done qg_undone qg_selves qg_when qg_jury qg_years qg_states qg_kept a1 g_size g_at g_begin g_token g_told g_dones g_undos g_seens g_trace g_text g_read g_life g_done g_undone g_selves g_when g_jury g_years g_states g_kept r1 hr1) ml_RX7_142 im_yX7_isTrial se_yX7_isTrial in_RX7 cd_yX7_isTrial rfl rfl hd_yX7_isTrial ⟨by decide, by decide⟩ ⟨Nat.zero_le _, Nat.zero_le _⟩ [0, 1, 2, 3, 4, 5, 6, 7, 8, 9, 10, 11] [some 0, some 1, some 2, some 3, some 4, some 5, some 6, some 7, some 8, some 9, some 10, some 11] rfl (by decide +kernel) rfl (by decide +kernel) rfl rfl (q0 := 0) rfl rfl rfl hl.1 rfl rfl (Nat.le_of_ble_eq_true rfl) rfl dX7_trial_2 (fun H locs hP hD hS => ?_)
  refine lv_if_eq (tgt := 36) hx hb dX7_trial_5 (by decide) (fun c2 => ?_) (fun c2 => ?_)
  · replace hf := ite_t c2 hf
    refine lv_iconst (v := (-1)) hx hb dX7_trial_36 (by decide) ?_
    replace hf := Option.some.inj hf
    subst hf
    exact hret H locs _ ls dX7_trial_37 hP hD hS
  · replace hf := ite_f c2 hf
    refine lv_iload_n hx hb dX7_trial_8 rfl (lv_at hl 2 rfl) ?_
    refine lv_i2l (v := a2.toInt64) hx hb dX7_trial_9 rfl ?_
    refine lv_lconst (v := 0) hx hb dX7_trial_10 (by decide) ?_
    refine lv_ldc2 hx hb hown (hts _ cl_RX7_145) dX7_trial_11 ?_
    obtain ⟨r3, hr3, hf⟩ := bnd hf
    refine k_callS X hP hD hS [(qg, .inr (7, [.ref qg_text, .int g_size, .int g_at, .int g_begin, .int g_token, .int g_told, .ref qg_read, .ref qg_life, .int g_dones, .ref qg_done, .int g_undos, .ref qg_undone, .ref qg_selves, .ref qg_when, .ref qg_jury, .int g_seens, .ref qg_years, .ref qg_states, .long g_trace, .ref qg_kept])), rI cI qg_text 200 g_text, rI cI qg_read 55 g_read, rI cI qg_life 55 g_life, rI cI qg_done 16 g_done, rI cI qg_undone 130 g_undone, rI cI qg_selves 16 g_selves, rI cI qg_when 27 g_when, rI cI qg_jury 16 g_jury, rI cI qg_years 6 g_years, rI cI qg_states 6 g_states, rI cI qg_kept 290 g_kept] (ctX7_in l D cI cZ cD cH a2.toInt64 0 2 r3 hr3) ml_RX7_51 sm_yX7_in in_RX7 cd_yX7_in rfl rfl hd_yX7_in ⟨by decide, by decide⟩ ⟨Nat.zero_le _, Nat.zero_le _⟩ [] [none, none, none, none, none, none, none, none, none, none, none, none] rfl (by decide +kernel) rfl (by decide +kernel) rfl rfl hl.1 rfl rfl (Nat.le_of_ble_eq_true rfl) rfl dX7_trial_14 (fun H locs hP hD hS => ?_)
    refine lv_if_eq (tgt := 36) hx hb dX7_trial_17 (by decide) (fun c4 => ?_) (fun c4 => ?_)
    · replace hf := ite_t c4 hf
      refine lv_iconst (v := (-1)) hx hb dX7_trial_36 (by decide) ?_
      replace hf := Option.some.inj hf
      subst hf
      exact hret H locs _ ls dX7_trial_37 hP hD hS
    · replace hf := ite_f c4 hf
      refine lv_aload_n hx hb dX7_trial_20 rfl (lv_at hl 0 rfl) ?_
      refine k_get X hP 0 rfl rfl inX7 7 (by decide) fl_RX7_16 rfl rfl dX7_trial_21 ?_
      refine lv_bipush (v := 38) hx hb dX7_trial_24 (by decide) ?_
      refine lv_iconst (v := 3) hx hb dX7_trial_26 (by decide) ?_
      refine lv_iload_n hx hb dX7_trial_27 rfl (lv_at hl 1 rfl) ?_
      refine lv_imul hx hb dX7_trial_28 ?_
      refine lv_iadd hx hb dX7_trial_29 ?_
      refine lv_iload_n hx hb dX7_trial_30 rfl (lv_at hl 2 rfl) ?_
      refine lv_iadd hx hb dX7_trial_31 ?_
      obtain ⟨h5, hf⟩ := ck_t hf
      refine k_iald X hP 3 0 rfl rfl h5 dX7_trial_32 ?_
      refine lv_goto (tgt := 37) hx hb dX7_trial_33 (by decide) ?_
      replace hf := Option.some.inj hf
      subst hf
      exact hret H locs _ ls dX7_trial_37 hP hD hS

def fX7_deed (a1 : Int32) (a2 : Int32) (g_life : Nat → Int32) : Option (Int32) :=
  if inb 5 55 = true then (fX7_in a1.toInt64 0 (((g_life (5 : Int32).toNatClampNeg) - 1).toInt64)).bind (fun r2 => if (bI r2) = 0 then some (-1) else (fX7_in a2.toInt64 0 1).bind (fun r4 => if (bI r4) = 0 then some (-1) else if inb ((47 + (2 * a1)) + a2) 55 = true then some (g_life ((47 + (2 * a1)) + a2).toNatClampNeg) else none)) else none
set_option maxHeartbeats 4000000 in
set_option maxRecDepth 100000 in
theorem ctX7_deed (l : Launch) (D : va_G) (cI cZ cD cH : ClassId) (qg : Nat) (qg_text : Nat) (qg_read : Nat) (qg_life : Nat) (qg_done : Nat) (qg_undone : Nat) (qg_selves : Nat) (qg_when : Nat) (qg_jury : Nat) (qg_years : Nat) (qg_states : Nat) (qg_kept : Nat) (a1 : Int32) (a2 : Int32) (g_size : Int32) (g_at : Int32) (g_begin : Int32) (g_token : Int32) (g_told : Int32) (g_dones : Int32) (g_undos : Int32) (g_seens : Int32) (g_trace : Int64) (g_text : Nat → Int32) (g_read : Nat → Int32) (g_life : Nat → Int32) (g_done : Nat → Int32) (g_undone : Nat → Int32) (g_selves : Nat → Int32) (g_when : Nat → Int32) (g_jury : Nat → Int32) (g_years : Nat → Int32) (g_states : Nat → Int32) (g_kept : Nat → Int32) (o : Int32) (hf : fX7_deed a1 a2 g_life = some o) : Ct l yX7_deed cX7_deed 3 (some .int) { frames := 1, cells := 0, slots := 0, locals := 25 } D (Tys cI cZ cD cH) [.ref qg, .int a1, .int a2] [(qg, .inr (7, [.ref qg_text, .int g_size, .int g_at, .int g_begin, .int g_token, .int g_told, .ref qg_read, .ref qg_life, .int g_dones, .ref qg_done, .int g_undos, .ref qg_undone, .ref qg_selves, .ref qg_when, .ref qg_jury, .int g_seens, .ref qg_years, .ref qg_states, .long g_trace, .ref qg_kept])), rI cI qg_text 200 g_text, rI cI qg_read 55 g_read, rI cI qg_life 55 g_life, rI cI qg_done 16 g_done, rI cI qg_undone 130 g_undone, rI cI qg_selves 16 g_selves, rI cI qg_when 27 g_when, rI cI qg_jury 16 g_jury, rI cI qg_years 6 g_years, rI cI qg_states 6 g_states, rI cI qg_kept 290 g_kept] [(qg, .inr (7, [.ref qg_text, .int g_size, .int g_at, .int g_begin, .int g_token, .int g_told, .ref qg_read, .ref qg_life, .int g_dones, .ref qg_done, .int g_undos, .ref qg_undone, .ref qg_selves, .ref qg_when, .ref qg_jury, .int g_seens, .ref qg_years, .ref qg_states, .long g_trace, .ref qg_kept])), rI cI qg_text 200 g_text, rI cI qg_read 55 g_read, rI cI qg_life 55 g_life, rI cI qg_done 16 g_done, rI cI qg_undone 130 g_undone, rI cI qg_selves 16 g_selves, rI cI qg_when 27 g_when, rI cI qg_jury 16 g_jury, rI cI qg_years 6 g_years, rI cI qg_states 6 g_states, rI cI qg_kept 290 g_kept] (some (.int o)) 0 0 := by
  refine mkI (by decide) (Nat.le_of_ble_eq_true rfl) ?_
  intro p e s m args below meth c A Q X hret ls hl H locs hP hD hS
  replace X : Cx p s m args c D (Tys cI cZ cD cH) A cX7_deed RX7 3 := X
  obtain ⟨hx, hb, hml, hown, hts, hK, hZ, hA⟩ := id X
  have hl : lv_has ls 3 [(0, .ref qg), (1, .int a1), (2, .int a2)] := hl
  unfold fX7_deed at hf
  refine lv_iload_n hx hb dX7_deed_0 rfl (lv_at hl 1 rfl) ?_
  refine lv_i2l (v := a1.toInt64) hx hb dX7_deed_1 rfl ?_
  refine lv_lconst (v := 0) hx hb dX7_deed_2 (by decide) ?_
  refine lv_aload_n hx hb dX7_deed_3 rfl (lv_at hl 0 rfl) ?_
  refine k_get X hP 0 rfl rfl inX7 7 (by decide) fl_RX7_16 rfl rfl dX7_deed_4 ?_
  refine lv_iconst (v := 5) hx hb dX7_deed_7 (by decide) ?_
  obtain ⟨h1, hf⟩ := ck_t hf
  refine k_iald X hP 3 0 rfl rfl h1 dX7_deed_8 ?_
  refine lv_iconst (v := 1) hx hb dX7_deed_9 (by decide) ?_
  refine lv_isub hx hb dX7_deed_10 ?_
  refine lv_i2l (v := ((g_life (5 : Int32).toNatClampNeg) - 1).toInt64) hx hb dX7_deed_11 rfl ?_
  obtain ⟨r2, hr2, hf⟩ := bnd hf
  refine k_callS X hP hD hS [(qg, .inr (7, [.ref qg_text, .int g_size, .int g_at, .int g_begin, .int g_token, .int g_told, .ref qg_read, .ref qg_life, .int g_dones, .ref qg_done, .int g_undos, .ref qg_undone, .ref qg_selves, .ref qg_when, .ref qg_jury, .int g_seens, .ref qg_years, .ref qg_states, .long g_trace, .ref qg_kept])), rI cI qg_text 200 g_text, rI cI qg_read 55 g_read, rI cI qg_life 55 g_life, rI cI qg_done 16 g_done, rI cI qg_undone 130 g_undone, rI cI qg_selves 16 g_selves, rI cI qg_when 27 g_when, rI cI qg_jury 16 g_jury, rI cI qg_years 6 g_years, rI cI qg_states 6 g_states, rI cI qg_kept 290 g_kept] (ctX7_in l D cI cZ cD cH a1.toInt64 0 (((g_life (5 : Int32).toNatClampNeg) - 1).toInt64) r2 hr2) ml_RX7_51 sm_yX7_in in_RX7 cd_yX7_in rfl rfl hd_yX7_in ⟨by decide, by decide⟩ ⟨Nat.zero_le _, Nat.zero_le _⟩ [] [none, none, none, none, none, none, none, none, none, none, none, none] rfl (by decide +kernel) rfl (by decide +kernel) rfl rfl hl.1 rfl rfl (Nat.le_of_ble_eq_true rfl) rfl dX7_deed_12 (fun H locs hP hD hS => ?_)
  refine lv_if_eq (tgt := 44) hx hb dX7_deed_15 (by decide) (fun c3 => ?_) (fun c3 => ?_)
  · replace hf := ite_t c3 hf
    refine lv_iconst (v := (-1)) hx hb dX7_deed_44 (by decide) ?_
    replace hf := Option.some.inj hf
    subst hf
    exact hret H locs _ ls dX7_deed_45 hP hD hS
  · replace hf := ite_f c3 hf
    refine lv_iload_n hx hb dX7_deed_18 rfl (lv_at hl 2 rfl) ?_
    refine lv_i2l (v := a2.toInt64) hx hb dX7_deed_19 rfl ?_
    refine lv_lconst (v := 0) hx hb dX7_deed_20 (by decide) ?_
    refine lv_lconst (v := 1) hx hb dX7_deed_21 (by decide) ?_
    obtain ⟨r4, hr4, hf⟩ := bnd hf
    refine k_callS X hP hD hS [(qg, .inr (7, [.ref qg_text, .int g_size, .int g_at, .int g_begin, .int g_token, .int g_told, .ref qg_read, .ref qg_life, .int g_dones, .ref qg_done, .int g_undos, .ref qg_undone, .ref qg_selves, .ref qg_when, .ref qg_jury, .int g_seens, .ref qg_years, .ref qg_states, .long g_trace, .ref qg_kept])), rI cI qg_text 200 g_text, rI cI qg_read 55 g_read, rI cI qg_life 55 g_life, rI cI qg_done 16 g_done, rI cI qg_undone 130 g_undone, rI cI qg_selves 16 g_selves, rI cI qg_when 27 g_when, rI cI qg_jury 16 g_jury, rI cI qg_years 6 g_years, rI cI qg_states 6 g_states, rI cI qg_kept 290 g_kept] (ctX7_in l D cI cZ cD cH a2.toInt64 0 1 r4 hr4) ml_RX7_51 sm_yX7_in in_RX7 cd_yX7_in rfl rfl hd_yX7_in ⟨by decide, by decide⟩ ⟨Nat.zero_le _, Nat.zero_le _⟩ [] [none, none, none, none, none, none, none, none, none, none, none, none] rfl (by decide +kernel) rfl (by decide +kernel) rfl rfl hl.1 rfl rfl (Nat.le_of_ble_eq_true rfl) rfl dX7_deed_22 (fun H locs hP hD hS => ?_)
    refine lv_if_eq (tgt := 44) hx hb dX7_deed_25 (by decide) (fun c5 => ?_) (fun c5 => ?_)
    · replace hf := ite_t c5 hf
      refine lv_iconst (v := (-1)) hx hb dX7_deed_44 (by decide) ?_
      replace hf := Option.some.inj hf
      subst hf
      exact hret H locs _ ls dX7_deed_45 hP hD hS
    · replace hf := ite_f c5 hf
      refine lv_aload_n hx hb dX7_deed_28 rfl (lv_at hl 0 rfl) ?_
      refine k_get X hP 0 rfl rfl inX7 7 (by decide) fl_RX7_16 rfl rfl dX7_deed_29 ?_
      refine lv_bipush (v := 47) hx hb dX7_deed_32 (by decide) ?_
      refine lv_iconst (v := 2) hx hb dX7_deed_34 (by decide) ?_
      refine lv_iload_n hx hb dX7_deed_35 rfl (lv_at hl 1 rfl) ?_
      refine lv_imul hx hb dX7_deed_36 ?_
      refine lv_iadd hx hb dX7_deed_37 ?_
      refine lv_iload_n hx hb dX7_deed_38 rfl (lv_at hl 2 rfl) ?_
      refine lv_iadd hx hb dX7_deed_39 ?_
      obtain ⟨h6, hf⟩ := ck_t hf
      refine k_iald X hP 3 0 rfl rfl h6 dX7_deed_40 ?_
      refine lv_goto (tgt := 45) hx hb dX7_deed_41 (by decide) ?_
      replace hf := Option.some.inj hf
      subst hf
      exact hret H locs _ ls dX7_deed_45 hP hD hS

def sX7_notes_12 (v1 : Int32) (g_undone : Nat → Int32) : Option ((Int32 × (Nat → Int32)) ⊕ (((Nat → Int32)))) :=
  if 130 ≤ v1 then some (.inr g_undone) else if inb v1 130 = true then if inb (v1 - 13) 130 = true then some (.inl (v1 + 1, upd g_undone (v1 - 13).toNatClampNeg (g_undone v1.toNatClampNeg))) else none else none
def sX7_notes_64 (g_undos : Int32) (g_done : Nat → Int32) (v1 : Int32) (g_undone : Nat → Int32) : Option ((Int32 × (Nat → Int32)) ⊕ (((Nat → Int32)))) :=
  if 12 ≤ v1 then some (.inr g_undone) else if inb v1 16 = true then if inb (((13 * g_undos) + 1) + v1) 130 = true then some (.inl (v1 + 1, upd g_undone (((13 * g_undos) + 1) + v1).toNatClampNeg (g_done v1.toNatClampNeg))) else none else none
def fX7_notes (g_dones : Int32) (g_undos : Int32) (g_done : Nat → Int32) (g_undone : Nat → Int32) : Option (Int32 × (Nat → Int32)) :=
  jn (fun (x1 : Int32 × (Nat → Int32)) => if inb (13 * x1.1) 130 = true then (lpd (fun s3 => sX7_notes_64 x1.1 g_done s3.1 s3.2) FU (0, upd x1.2 (13 * x1.1).toNatClampNeg g_dones)).bind (fun (y3_0 : (Nat → Int32)) => some (x1.1 + 1, y3_0)) else none) (fun K1 => if g_undos = 10 then (lpd (fun s8 => sX7_notes_12 s8.1 s8.2) FU (13, g_undone)).bind (fun (y8_0 : (Nat → Int32)) => K1 (9, y8_0)) else K1 (g_undos, g_undone))
set_option maxHeartbeats 4000000 in
set_option maxRecDepth 100000 in
theorem ctX7_notes (l : Launch) (D : va_G) (cI cZ cD cH : ClassId) (qg : Nat) (qg_text : Nat) (qg_read : Nat) (qg_life : Nat) (qg_done : Nat) (qg_undone : Nat) (qg_selves : Nat) (qg_when : Nat) (qg_jury : Nat) (qg_years : Nat) (qg_states : Nat) (qg_kept : Nat) (g_size : Int32) (g_at : Int32) (g_begin : Int32) (g_token : Int32) (g_told : Int32) (g_dones : Int32) (g_undos : Int32) (g_seens : Int32) (g_trace : Int64) (g_text : Nat → Int32) (g_read : Nat → Int32) (g_life : Nat → Int32) (g_done : Nat → Int32) (g_undone : Nat → Int32) (g_selves : Nat → Int32) (g_when : Nat → Int32) (g_jury : Nat → Int32) (g_years : Nat → Int32) (g_states : Nat → Int32) (g_kept : Nat → Int32) (o : Int32 × (Nat → Int32)) (hf : fX7_notes g_dones g_undos g_done g_undone = some o) : Ct l yX7_notes cX7_notes 2 none { frames := 0, cells := 0, slots := 0, locals := 0 } D (Tys cI cZ cD cH) [.ref qg] [(qg, .inr (7, [.ref qg_text, .int g_size, .int g_at, .int g_begin, .int g_token, .int g_told, .ref qg_read, .ref qg_life, .int g_dones, .ref qg_done, .int g_undos, .ref qg_undone, .ref qg_selves, .ref qg_when, .ref qg_jury, .int g_seens, .ref qg_years, .ref qg_states, .long g_trace, .ref qg_kept])), rI cI qg_text 200 g_text, rI cI qg_read 55 g_read, rI cI qg_life 55 g_life, rI cI qg_done 16 g_done, rI cI qg_undone 130 g_undone, rI cI qg_selves 16 g_selves, rI cI qg_when 27 g_when, rI cI qg_jury 16 g_jury, rI cI qg_years 6 g_years, rI cI qg_states 6 g_states, rI cI qg_kept 290 g_kept] [(qg, .inr (7, [.ref qg_text, .int g_size, .int g_at, .int g_begin, .int g_token, .int g_told, .ref qg_read, .ref qg_life, .int g_dones, .ref qg_done, .int o.1, .ref qg_undone, .ref qg_selves, .ref qg_when, .ref qg_jury, .int g_seens, .ref qg_years, .ref qg_states, .long g_trace, .ref qg_kept])), rI cI qg_text 200 g_text, rI cI qg_read 55 g_read, rI cI qg_life 55 g_life, rI cI qg_done 16 g_done, rI cI qg_undone 130 o.2, rI cI qg_selves 16 g_selves, rI cI qg_when 27 g_when, rI cI qg_jury 16 g_jury, rI cI qg_years 6 g_years, rI cI qg_states 6 g_states, rI cI qg_kept 290 g_kept] none 0 0 := by
  refine mkV (by decide) (Nat.le_of_ble_eq_true rfl) ?_
  intro p e s m args below meth c A Q X hnm hret ls hl H locs hP hD hS
  replace X : Cx p s m args c D (Tys cI cZ cD cH) A cX7_notes RX7 2 := X
  obtain ⟨hx, hb, hml, hown, hts, hK, hZ, hA⟩ := id X
  have hl : lv_has ls 2 [(0, .ref qg)] := hl
  unfold fX7_notes at hf
  refine lv_aload_n hx hb dX7_notes_0 rfl (lv_at hl 0 rfl) ?_
  refine k_get X hP 0 rfl rfl inX7 10 (by decide) fl_RX7_122 rfl rfl dX7_notes_1 ?_
  refine lv_bipush (v := 10) hx hb dX7_notes_4 (by decide) ?_
  refine jn_e hf (fun K1 hf hk1 => ?_)
  have hj1 : ∀ (x1 : Int32 × (Nat → Int32)) (H : Heap) (locs : List Loc) (ls : Array Slot), K1 x1 = some o → va_P D vwCl [(qg, .inr (7, [.ref qg_text, .int g_size, .int g_at, .int g_begin, .int g_token, .int g_told, .ref qg_read, .ref qg_life, .int g_dones, .ref qg_done, .int x1.1, .ref qg_undone, .ref qg_selves, .ref qg_when, .ref qg_jury, .int g_seens, .ref qg_years, .ref qg_states, .long g_trace, .ref qg_kept])), rI cI qg_text 200 g_text, rI cI qg_read 55 g_read, rI cI qg_life 55 g_life, rI cI qg_done 16 g_done, rI cI qg_undone 130 x1.2, rI cI qg_selves 16 g_selves, rI cI qg_when 27 g_when, rI cI qg_jury 16 g_jury, rI cI qg_years 6 g_years, rI cI qg_states 6 g_states, rI cI qg_kept 290 g_kept] H → va_D A [(qg, .inr (7, [.ref qg_text, .int g_size, .int g_at, .int g_begin, .int g_token, .int g_told, .ref qg_read, .ref qg_life, .int g_dones, .ref qg_done, .int x1.1, .ref qg_undone, .ref qg_selves, .ref qg_when, .ref qg_jury, .int g_seens, .ref qg_years, .ref qg_states, .long g_trace, .ref qg_kept])), rI cI qg_text 200 g_text, rI cI qg_read 55 g_read, rI cI qg_life 55 g_life, rI cI qg_done 16 g_done, rI cI qg_undone 130 x1.2, rI cI qg_selves 16 g_selves, rI cI qg_when 27 g_when, rI cI qg_jury 16 g_jury, rI cI qg_years 6 g_years, rI cI qg_states 6 g_states, rI cI qg_kept 290 g_kept] → va_S A s.heap H locs → lv_has ls 2 [(0, .ref qg)] → W p l e ({ frames := 0, cells := 0, slots := 0, locals := 0 } : Room) s m args below meth c H locs 0 0 Q (F0 m 46 ls []) := by
    intro x1 H locs ls hf hP hD hS hl
    replace hf := hk1 x1 hf
    refine lv_aload_n hx hb dX7_notes_46 rfl (lv_at hl 0 rfl) ?_
    refine k_get X hP 0 rfl rfl inX7 11 (by decide) fl_RX7_22 rfl rfl dX7_notes_47 ?_
    refine lv_bipush (v := 13) hx hb dX7_notes_50 (by decide) ?_
    refine lv_aload_n hx hb dX7_notes_52 rfl (lv_at hl 0 rfl) ?_
    refine k_get X hP 0 rfl rfl inX7 10 (by decide) fl_RX7_122 rfl rfl dX7_notes_53 ?_
    refine lv_imul hx hb dX7_notes_56 ?_
    refine lv_aload_n hx hb dX7_notes_57 rfl (lv_at hl 0 rfl) ?_
    refine k_get X hP 0 rfl rfl inX7 8 (by decide) fl_RX7_119 rfl rfl dX7_notes_58 ?_
    obtain ⟨h2, hf⟩ := ck_t hf
    refine k_iast X hP hD hS [(qg, .inr (7, [.ref qg_text, .int g_size, .int g_at, .int g_begin, .int g_token, .int g_told, .ref qg_read, .ref qg_life, .int g_dones, .ref qg_done, .int x1.1, .ref qg_undone, .ref qg_selves, .ref qg_when, .ref qg_jury, .int g_seens, .ref qg_years, .ref qg_states, .long g_trace, .ref qg_kept])), rI cI qg_text 200 g_text, rI cI qg_read 55 g_read, rI cI qg_life 55 g_life, rI cI qg_done 16 g_done, rI cI qg_undone 130 (upd x1.2 (13 * x1.1).toNatClampNeg g_dones), rI cI qg_selves 16 g_selves, rI cI qg_when 27 g_when, rI cI qg_jury 16 g_jury, rI cI qg_years 6 g_years, rI cI qg_states 6 g_states, rI cI qg_kept 290 g_kept] 5 0 rfl rfl h2 rfl dX7_notes_61 (fun H locs hP hD hS => ?_)
    refine lv_iconst (v := 0) hx hb dX7_notes_62 (by decide) ?_
    refine lv_istore_n (lv' := [(1, .int 0), (0, .ref qg)]) hx hb dX7_notes_63 rfl hl (by decide) rfl (fun ls hl => ?_)
    obtain ⟨e3, he3, hf⟩ := bnd hf
    have hx3_0 : ∀ (y3_0 : (Nat → Int32)), y3_0 = e3 → ∀ (H : Heap) (locs : List Loc) (ls : Array Slot), va_P D vwCl [(qg, .inr (7, [.ref qg_text, .int g_size, .int g_at, .int g_begin, .int g_token, .int g_told, .ref qg_read, .ref qg_life, .int g_dones, .ref qg_done, .int x1.1, .ref qg_undone, .ref qg_selves, .ref qg_when, .ref qg_jury, .int g_seens, .ref qg_years, .ref qg_states, .long g_trace, .ref qg_kept])), rI cI qg_text 200 g_text, rI cI qg_read 55 g_read, rI cI qg_life 55 g_life, rI cI qg_done 16 g_done, rI cI qg_undone 130 y3_0, rI cI qg_selves 16 g_selves, rI cI qg_when 27 g_when, rI cI qg_jury 16 g_jury, rI cI qg_years 6 g_years, rI cI qg_states 6 g_states, rI cI qg_kept 290 g_kept] H → va_D A [(qg, .inr (7, [.ref qg_text, .int g_size, .int g_at, .int g_begin, .int g_token, .int g_told, .ref qg_read, .ref qg_life, .int g_dones, .ref qg_done, .int x1.1, .ref qg_undone, .ref qg_selves, .ref qg_when, .ref qg_jury, .int g_seens, .ref qg_years, .ref qg_states, .long g_trace, .ref qg_kept])), rI cI qg_text 200 g_text, rI cI qg_read 55 g_read, rI cI qg_life 55 g_life, rI cI qg_done 16 g_done, rI cI qg_undone 130 y3_0, rI cI qg_selves 16 g_selves, rI cI qg_when 27 g_when, rI cI qg_jury 16 g_jury, rI cI qg_years 6 g_years, rI cI qg_states 6 g_states, rI cI qg_kept 290 g_kept] → va_S A s.heap H locs → lv_has ls 2 [(0, .ref qg)] → W p l e ({ frames := 0, cells := 0, slots := 0, locals := 0 } : Room) s m args below meth c H locs 0 0 Q (F0 m 98 ls []) := by
      intro y3_0 heq H locs ls hP hD hS hl
      subst heq
      refine lv_aload_n hx hb dX7_notes_98 rfl (lv_at hl 0 rfl) ?_
      refine lv_dup hx hb dX7_notes_99 rfl ?_
      refine k_get X hP 0 rfl rfl inX7 10 (by decide) fl_RX7_122 rfl rfl dX7_notes_100 ?_
      refine lv_iconst (v := 1) hx hb dX7_notes_103 (by decide) ?_
      refine lv_iadd hx hb dX7_notes_104 ?_
      refine k_put X hP hD hS [(qg, .inr (7, [.ref qg_text, .int g_size, .int g_at, .int g_begin, .int g_token, .int g_told, .ref qg_read, .ref qg_life, .int g_dones, .ref qg_done, .int (x1.1 + 1), .ref qg_undone, .ref qg_selves, .ref qg_when, .ref qg_jury, .int g_seens, .ref qg_years, .ref qg_states, .long g_trace, .ref qg_kept])), rI cI qg_text 200 g_text, rI cI qg_read 55 g_read, rI cI qg_life 55 g_life, rI cI qg_done 16 g_done, rI cI qg_undone 130 y3_0, rI cI qg_selves 16 g_selves, rI cI qg_when 27 g_when, rI cI qg_jury 16 g_jury, rI cI qg_years 6 g_years, rI cI qg_states 6 g_states, rI cI qg_kept 290 g_kept] 0 rfl rfl inX7 tyX7_ok nmX7 10 (by decide) fl_RX7_122 rfl rfl rfl rfl (Nat.le_of_ble_eq_true rfl) rfl dX7_notes_105 (fun H locs hP hD hS => ?_)
      replace hf := Option.some.inj hf
      subst hf
      exact hret H locs _ ls dX7_notes_108 hP hD hS
    refine lpd_ind (P := fun s3 => ∀ (H : Heap) (locs : List Loc) (ls : Array Slot), va_P D vwCl [(qg, .inr (7, [.ref qg_text, .int g_size, .int g_at, .int g_begin, .int g_token, .int g_told, .ref qg_read, .ref qg_life, .int g_dones, .ref qg_done, .int x1.1, .ref qg_undone, .ref qg_selves, .ref qg_when, .ref qg_jury, .int g_seens, .ref qg_years, .ref qg_states, .long g_trace, .ref qg_kept])), rI cI qg_text 200 g_text, rI cI qg_read 55 g_read, rI cI qg_life 55 g_life, rI cI qg_done 16 g_done, rI cI qg_undone 130 s3.2, rI cI qg_selves 16 g_selves, rI cI qg_when 27 g_when, rI cI qg_jury 16 g_jury, rI cI qg_years 6 g_years, rI cI qg_states 6 g_states, rI cI qg_kept 290 g_kept] H → va_D A [(qg, .inr (7, [.ref qg_text, .int g_size, .int g_at, .int g_begin, .int g_token, .int g_told, .ref qg_read, .ref qg_life, .int g_dones, .ref qg_done, .int x1.1, .ref qg_undone, .ref qg_selves, .ref qg_when, .ref qg_jury, .int g_seens, .ref qg_years, .ref qg_states, .long g_trace, .ref qg_kept])), rI cI qg_text 200 g_text, rI cI qg_read 55 g_read, rI cI qg_life 55 g_life, rI cI qg_done 16 g_done, rI cI qg_undone 130 s3.2, rI cI qg_selves 16 g_selves, rI cI qg_when 27 g_when, rI cI qg_jury 16 g_jury, rI cI qg_years 6 g_years, rI cI qg_states 6 g_states, rI cI qg_kept 290 g_kept] → va_S A s.heap H locs → lv_has ls 2 [(0, .ref qg), (1, .int s3.1)] → W p l e ({ frames := 0, cells := 0, slots := 0, locals := 0 } : Room) s m args below meth c H locs 0 0 Q (F0 m 64 ls [])) e3 ?_ _ _ he3 H locs ls hP hD hS (lv_sub hl [1, 0] rfl)
    intro s3 r3 hf ih3 hq3 H locs ls hP hD hS hl
    unfold sX7_notes_64 at hf
    refine lv_iload_n hx hb dX7_notes_64 rfl (lv_at hl 1 rfl) ?_
    refine lv_bipush (v := 12) hx hb dX7_notes_65 (by decide) ?_
    refine lv_icmp_ge (tgt := 98) hx hb dX7_notes_67 (by decide) (fun c4 => ?_) (fun c4 => ?_)
    · replace hf := ite_t c4 hf
      exact hx3_0 _ (hq3 _ (Option.some.inj hf).symm) H locs ls hP hD hS (lv_sub hl [0] rfl)
    · replace hf := ite_f c4 hf
      refine lv_aload_n hx hb dX7_notes_70 rfl (lv_at hl 0 rfl) ?_
      refine k_get X hP 0 rfl rfl inX7 11 (by decide) fl_RX7_22 rfl rfl dX7_notes_71 ?_
      refine lv_bipush (v := 13) hx hb dX7_notes_74 (by decide) ?_
      refine lv_aload_n hx hb dX7_notes_76 rfl (lv_at hl 0 rfl) ?_
      refine k_get X hP 0 rfl rfl inX7 10 (by decide) fl_RX7_122 rfl rfl dX7_notes_77 ?_
      refine lv_imul hx hb dX7_notes_80 ?_
      refine lv_iconst (v := 1) hx hb dX7_notes_81 (by decide) ?_
      refine lv_iadd hx hb dX7_notes_82 ?_
      refine lv_iload_n hx hb dX7_notes_83 rfl (lv_at hl 1 rfl) ?_
      refine lv_iadd hx hb dX7_notes_84 ?_
      refine lv_aload_n hx hb dX7_notes_85 rfl (lv_at hl 0 rfl) ?_
      refine k_get X hP 0 rfl rfl inX7 9 (by decide) fl_RX7_19 rfl rfl dX7_notes_86 ?_
      refine lv_iload_n hx hb dX7_notes_89 rfl (lv_at hl 1 rfl) ?_
      obtain ⟨h5, hf⟩ := ck_t hf
      refine k_iald X hP 4 0 rfl rfl h5 dX7_notes_90 ?_
      obtain ⟨h6, hf⟩ := ck_t hf
      refine k_iast X hP hD hS [(qg, .inr (7, [.ref qg_text, .int g_size, .int g_at, .int g_begin, .int g_token, .int g_told, .ref qg_read, .ref qg_life, .int g_dones, .ref qg_done, .int x1.1, .ref qg_undone, .ref qg_selves, .ref qg_when, .ref qg_jury, .int g_seens, .ref qg_years, .ref qg_states, .long g_trace, .ref qg_kept])), rI cI qg_text 200 g_text, rI cI qg_read 55 g_read, rI cI qg_life 55 g_life, rI cI qg_done 16 g_done, rI cI qg_undone 130 (upd s3.2 (((13 * x1.1) + 1) + s3.1).toNatClampNeg (g_done s3.1.toNatClampNeg)), rI cI qg_selves 16 g_selves, rI cI qg_when 27 g_when, rI cI qg_jury 16 g_jury, rI cI qg_years 6 g_years, rI cI qg_states 6 g_states, rI cI qg_kept 290 g_kept] 5 0 rfl rfl h6 rfl dX7_notes_91 (fun H locs hP hD hS => ?_)
      refine lv_iinc (v := s3.1 + 1) (lv' := [(1, .int (s3.1 + 1)), (0, .ref qg)]) hx hb dX7_notes_92 hl (k := 1) rfl rfl (by decide) rfl (fun ls hl => ?_)
      refine lv_goto (tgt := 64) hx hb dX7_notes_95 (by decide) ?_
      exact ih3 _ (Option.some.inj hf).symm H locs ls hP hD hS (lv_sub hl [1, 0] rfl)
  refine lv_icmp_ne (tgt := 46) hx hb dX7_notes_6 (by decide) (fun c7 => ?_) (fun c7 => ?_)
  · replace hf := ite_f c7 hf
    exact hj1 _ H locs ls hf hP hD hS hl
  · replace hf := ite_t c7 hf
    refine lv_bipush (v := 13) hx hb dX7_notes_9 (by decide) ?_
    refine lv_istore_n (lv' := [(1, .int 13), (0, .ref qg)]) hx hb dX7_notes_11 rfl hl (by decide) rfl (fun ls hl => ?_)
    obtain ⟨e8, he8, hf⟩ := bnd hf
    have hx8_0 : ∀ (y8_0 : (Nat → Int32)), y8_0 = e8 → ∀ (H : Heap) (locs : List Loc) (ls : Array Slot), va_P D vwCl [(qg, .inr (7, [.ref qg_text, .int g_size, .int g_at, .int g_begin, .int g_token, .int g_told, .ref qg_read, .ref qg_life, .int g_dones, .ref qg_done, .int g_undos, .ref qg_undone, .ref qg_selves, .ref qg_when, .ref qg_jury, .int g_seens, .ref qg_years, .ref qg_states, .long g_trace, .ref qg_kept])), rI cI qg_text 200 g_text, rI cI qg_read 55 g_read, rI cI qg_life 55 g_life, rI cI qg_done 16 g_done, rI cI qg_undone 130 y8_0, rI cI qg_selves 16 g_selves, rI cI qg_when 27 g_when, rI cI qg_jury 16 g_jury, rI cI qg_years 6 g_years, rI cI qg_states 6 g_states, rI cI qg_kept 290 g_kept] H → va_D A [(qg, .inr (7, [.ref qg_text, .int g_size, .int g_at, .int g_begin, .int g_token, .int g_told, .ref qg_read, .ref qg_life, .int g_dones, .ref qg_done, .int g_undos, .ref qg_undone, .ref qg_selves, .ref qg_when, .ref qg_jury, .int g_seens, .ref qg_years, .ref qg_states, .long g_trace, .ref qg_kept])), rI cI qg_text 200 g_text, rI cI qg_read 55 g_read, rI cI qg_life 55 g_life, rI cI qg_done 16 g_done, rI cI qg_undone 130 y8_0, rI cI qg_selves 16 g_selves, rI cI qg_when 27 g_when, rI cI qg_jury 16 g_jury, rI cI qg_years 6 g_years, rI cI qg_states 6 g_states, rI cI qg_kept 290 g_kept] → va_S A s.heap H locs → lv_has ls 2 [(0, .ref qg)] → W p l e ({ frames := 0, cells := 0, slots := 0, locals := 0 } : Room) s m args below meth c H locs 0 0 Q (F0 m 40 ls []) := by
      intro y8_0 heq H locs ls hP hD hS hl
      subst heq
      refine lv_aload_n hx hb dX7_notes_40 rfl (lv_at hl 0 rfl) ?_
      refine lv_bipush (v := 9) hx hb dX7_notes_41 (by decide) ?_
      refine k_put X hP hD hS [(qg, .inr (7, [.ref qg_text, .int g_size, .int g_at, .int g_begin, .int g_token, .int g_told, .ref qg_read, .ref qg_life, .int g_dones, .ref qg_done, .int 9, .ref qg_undone, .ref qg_selves, .ref qg_when, .ref qg_jury, .int g_seens, .ref qg_years, .ref qg_states, .long g_trace, .ref qg_kept])), rI cI qg_text 200 g_text, rI cI qg_read 55 g_read, rI cI qg_life 55 g_life, rI cI qg_done 16 g_done, rI cI qg_undone 130 y8_0, rI cI qg_selves 16 g_selves, rI cI qg_when 27 g_when, rI cI qg_jury 16 g_jury, rI cI qg_years 6 g_years, rI cI qg_states 6 g_states, rI cI qg_kept 290 g_kept] 0 rfl rfl inX7 tyX7_ok nmX7 10 (by decide) fl_RX7_122 rfl rfl rfl rfl (Nat.le_of_ble_eq_true rfl) rfl dX7_notes_43 (fun H locs hP hD hS => ?_)
      exact hj1 _ H locs ls hf hP hD hS hl
    refine lpd_ind (P := fun s8 => ∀ (H : Heap) (locs : List Loc) (ls : Array Slot), va_P D vwCl [(qg, .inr (7, [.ref qg_text, .int g_size, .int g_at, .int g_begin, .int g_token, .int g_told, .ref qg_read, .ref qg_life, .int g_dones, .ref qg_done, .int g_undos, .ref qg_undone, .ref qg_selves, .ref qg_when, .ref qg_jury, .int g_seens, .ref qg_years, .ref qg_states, .long g_trace, .ref qg_kept])), rI cI qg_text 200 g_text, rI cI qg_read 55 g_read, rI cI qg_life 55 g_life, rI cI qg_done 16 g_done, rI cI qg_undone 130 s8.2, rI cI qg_selves 16 g_selves, rI cI qg_when 27 g_when, rI cI qg_jury 16 g_jury, rI cI qg_years 6 g_years, rI cI qg_states 6 g_states, rI cI qg_kept 290 g_kept] H → va_D A [(qg, .inr (7, [.ref qg_text, .int g_size, .int g_at, .int g_begin, .int g_token, .int g_told, .ref qg_read, .ref qg_life, .int g_dones, .ref qg_done, .int g_undos, .ref qg_undone, .ref qg_selves, .ref qg_when, .ref qg_jury, .int g_seens, .ref qg_years, .ref qg_states, .long g_trace, .ref qg_kept])), rI cI qg_text 200 g_text, rI cI qg_read 55 g_read, rI cI qg_life 55 g_life, rI cI qg_done 16 g_done, rI cI qg_undone 130 s8.2, rI cI qg_selves 16 g_selves, rI cI qg_when 27 g_when, rI cI qg_jury 16 g_jury, rI cI qg_years 6 g_years, rI cI qg_states 6 g_states, rI cI qg_kept 290 g_kept] → va_S A s.heap H locs → lv_has ls 2 [(0, .ref qg), (1, .int s8.1)] → W p l e ({ frames := 0, cells := 0, slots := 0, locals := 0 } : Room) s m args below meth c H locs 0 0 Q (F0 m 12 ls [])) e8 ?_ _ _ he8 H locs ls hP hD hS (lv_sub hl [1, 0] rfl)
    intro s8 r8 hf ih8 hq8 H locs ls hP hD hS hl
    unfold sX7_notes_12 at hf
    refine lv_iload_n hx hb dX7_notes_12 rfl (lv_at hl 1 rfl) ?_
    refine lv_sipush (v := 130) hx hb dX7_notes_13 (by decide) ?_
    refine lv_icmp_ge (tgt := 40) hx hb dX7_notes_16 (by decide) (fun c9 => ?_) (fun c9 => ?_)
    · replace hf := ite_t c9 hf
      exact hx8_0 _ (hq8 _ (Option.some.inj hf).symm) H locs ls hP hD hS (lv_sub hl [0] rfl)
    · replace hf := ite_f c9 hf
      refine lv_aload_n hx hb dX7_notes_19 rfl (lv_at hl 0 rfl) ?_
      refine k_get X hP 0 rfl rfl inX7 11 (by decide) fl_RX7_22 rfl rfl dX7_notes_20 ?_
      refine lv_iload_n hx hb dX7_notes_23 rfl (lv_at hl 1 rfl) ?_
      refine lv_bipush (v := 13) hx hb dX7_notes_24 (by decide) ?_
      refine lv_isub hx hb dX7_notes_26 ?_
      refine lv_aload_n hx hb dX7_notes_27 rfl (lv_at hl 0 rfl) ?_
      refine k_get X hP 0 rfl rfl inX7 11 (by decide) fl_RX7_22 rfl rfl dX7_notes_28 ?_
      refine lv_iload_n hx hb dX7_notes_31 rfl (lv_at hl 1 rfl) ?_
      obtain ⟨h10, hf⟩ := ck_t hf
      refine k_iald X hP 5 0 rfl rfl h10 dX7_notes_32 ?_
      obtain ⟨h11, hf⟩ := ck_t hf
      refine k_iast X hP hD hS [(qg, .inr (7, [.ref qg_text, .int g_size, .int g_at, .int g_begin, .int g_token, .int g_told, .ref qg_read, .ref qg_life, .int g_dones, .ref qg_done, .int g_undos, .ref qg_undone, .ref qg_selves, .ref qg_when, .ref qg_jury, .int g_seens, .ref qg_years, .ref qg_states, .long g_trace, .ref qg_kept])), rI cI qg_text 200 g_text, rI cI qg_read 55 g_read, rI cI qg_life 55 g_life, rI cI qg_done 16 g_done, rI cI qg_undone 130 (upd s8.2 (s8.1 - 13).toNatClampNeg (s8.2 s8.1.toNatClampNeg)), rI cI qg_selves 16 g_selves, rI cI qg_when 27 g_when, rI cI qg_jury 16 g_jury, rI cI qg_years 6 g_years, rI cI qg_states 6 g_states, rI cI qg_kept 290 g_kept] 5 0 rfl rfl h11 rfl dX7_notes_33 (fun H locs hP hD hS => ?_)
      refine lv_iinc (v := s8.1 + 1) (lv' := [(1, .int (s8.1 + 1)), (0, .ref qg)]) hx hb dX7_notes_34 hl (k := 1) rfl rfl (by decide) rfl (fun ls hl => ?_)
      refine lv_goto (tgt := 12) hx hb dX7_notes_37 (by decide) ?_
      exact ih8 _ (Option.some.inj hf).symm H locs ls hP hD hS (lv_sub hl [1, 0] rfl)

def fX7_adds (a1 : Int32) (a2 : Int32) (g_dones : Int32) (g_done : Nat → Int32) : Option (Int32 × (Nat → Int32)) :=
  if inb (2 * g_dones) 16 = true then if inb ((2 * g_dones) + 1) 16 = true then some (g_dones + 1, upd (upd g_done (2 * g_dones).toNatClampNeg a1) ((2 * g_dones) + 1).toNatClampNeg a2) else none else none
set_option maxHeartbeats 4000000 in
set_option maxRecDepth 100000 in
theorem ctX7_adds (l : Launch) (D : va_G) (cI cZ cD cH : ClassId) (qg : Nat) (qg_text : Nat) (qg_read : Nat) (qg_life : Nat) (qg_done : Nat) (qg_undone : Nat) (qg_selves : Nat) (qg_when : Nat) (qg_jury : Nat) (qg_years : Nat) (qg_states : Nat) (qg_kept : Nat) (a1 : Int32) (a2 : Int32) (g_size : Int32) (g_at : Int32) (g_begin : Int32) (g_token : Int32) (g_told : Int32) (g_dones : Int32) (g_undos : Int32) (g_seens : Int32) (g_trace : Int64) (g_text : Nat → Int32) (g_read : Nat → Int32) (g_life : Nat → Int32) (g_done : Nat → Int32) (g_undone : Nat → Int32) (g_selves : Nat → Int32) (g_when : Nat → Int32) (g_jury : Nat → Int32) (g_years : Nat → Int32) (g_states : Nat → Int32) (g_kept : Nat → Int32) (o : Int32 × (Nat → Int32)) (hf : fX7_adds a1 a2 g_dones g_done = some o) : Ct l yX7_adds cX7_adds 3 none { frames := 0, cells := 0, slots := 0, locals := 0 } D (Tys cI cZ cD cH) [.ref qg, .int a1, .int a2] [(qg, .inr (7, [.ref qg_text, .int g_size, .int g_at, .int g_begin, .int g_token, .int g_told, .ref qg_read, .ref qg_life, .int g_dones, .ref qg_done, .int g_undos, .ref qg_undone, .ref qg_selves, .ref qg_when, .ref qg_jury, .int g_seens, .ref qg_years, .ref qg_states, .long g_trace, .ref qg_kept])), rI cI qg_text 200 g_text, rI cI qg_read 55 g_read, rI cI qg_life 55 g_life, rI cI qg_done 16 g_done, rI cI qg_undone 130 g_undone, rI cI qg_selves 16 g_selves, rI cI qg_when 27 g_when, rI cI qg_jury 16 g_jury, rI cI qg_years 6 g_years, rI cI qg_states 6 g_states, rI cI qg_kept 290 g_kept] [(qg, .inr (7, [.ref qg_text, .int g_size, .int g_at, .int g_begin, .int g_token, .int g_told, .ref qg_read, .ref qg_life, .int o.1, .ref qg_done, .int g_undos, .ref qg_undone, .ref qg_selves, .ref qg_when, .ref qg_jury, .int g_seens, .ref qg_years, .ref qg_states, .long g_trace, .ref qg_kept])), rI cI qg_text 200 g_text, rI cI qg_read 55 g_read, rI cI qg_life 55 g_life, rI cI qg_done 16 o.2, rI cI qg_undone 130 g_undone, rI cI qg_selves 16 g_selves, rI cI qg_when 27 g_when, rI cI qg_jury 16 g_jury, rI cI qg_years 6 g_years, rI cI qg_states 6 g_states, rI cI qg_kept 290 g_kept] none 0 0 := by
  refine mkV (by decide) (Nat.le_of_ble_eq_true rfl) ?_
  intro p e s m args below meth c A Q X hnm hret ls hl H locs hP hD hS
  replace X : Cx p s m args c D (Tys cI cZ cD cH) A cX7_adds RX7 3 := X
  obtain ⟨hx, hb, hml, hown, hts, hK, hZ, hA⟩ := id X
  have hl : lv_has ls 3 [(0, .ref qg), (1, .int a1), (2, .int a2)] := hl
  unfold fX7_adds at hf
  refine lv_aload_n hx hb dX7_adds_0 rfl (lv_at hl 0 rfl) ?_
  refine k_get X hP 0 rfl rfl inX7 9 (by decide) fl_RX7_19 rfl rfl dX7_adds_1 ?_
  refine lv_iconst (v := 2) hx hb dX7_adds_4 (by decide) ?_
  refine lv_aload_n hx hb dX7_adds_5 rfl (lv_at hl 0 rfl) ?_
  refine k_get X hP 0 rfl rfl inX7 8 (by decide) fl_RX7_119 rfl rfl dX7_adds_6 ?_
  refine lv_imul hx hb dX7_adds_9 ?_
  refine lv_iload_n hx hb dX7_adds_10 rfl (lv_at hl 1 rfl) ?_
  obtain ⟨h1, hf⟩ := ck_t hf
  refine k_iast X hP hD hS [(qg, .inr (7, [.ref qg_text, .int g_size, .int g_at, .int g_begin, .int g_token, .int g_told, .ref qg_read, .ref qg_life, .int g_dones, .ref qg_done, .int g_undos, .ref qg_undone, .ref qg_selves, .ref qg_when, .ref qg_jury, .int g_seens, .ref qg_years, .ref qg_states, .long g_trace, .ref qg_kept])), rI cI qg_text 200 g_text, rI cI qg_read 55 g_read, rI cI qg_life 55 g_life, rI cI qg_done 16 (upd g_done (2 * g_dones).toNatClampNeg a1), rI cI qg_undone 130 g_undone, rI cI qg_selves 16 g_selves, rI cI qg_when 27 g_when, rI cI qg_jury 16 g_jury, rI cI qg_years 6 g_years, rI cI qg_states 6 g_states, rI cI qg_kept 290 g_kept] 4 0 rfl rfl h1 rfl dX7_adds_11 (fun H locs hP hD hS => ?_)
  refine lv_aload_n hx hb dX7_adds_12 rfl (lv_at hl 0 rfl) ?_
  refine k_get X hP 0 rfl rfl inX7 9 (by decide) fl_RX7_19 rfl rfl dX7_adds_13 ?_
  refine lv_iconst (v := 2) hx hb dX7_adds_16 (by decide) ?_
  refine lv_aload_n hx hb dX7_adds_17 rfl (lv_at hl 0 rfl) ?_
  refine k_get X hP 0 rfl rfl inX7 8 (by decide) fl_RX7_119 rfl rfl dX7_adds_18 ?_
  refine lv_imul hx hb dX7_adds_21 ?_
  refine lv_iconst (v := 1) hx hb dX7_adds_22 (by decide) ?_
  refine lv_iadd hx hb dX7_adds_23 ?_
  refine lv_iload_n hx hb dX7_adds_24 rfl (lv_at hl 2 rfl) ?_
  obtain ⟨h2, hf⟩ := ck_t hf
  refine k_iast X hP hD hS [(qg, .inr (7, [.ref qg_text, .int g_size, .int g_at, .int g_begin, .int g_token, .int g_told, .ref qg_read, .ref qg_life, .int g_dones, .ref qg_done, .int g_undos, .ref qg_undone, .ref qg_selves, .ref qg_when, .ref qg_jury, .int g_seens, .ref qg_years, .ref qg_states, .long g_trace, .ref qg_kept])), rI cI qg_text 200 g_text, rI cI qg_read 55 g_read, rI cI qg_life 55 g_life, rI cI qg_done 16 (upd (upd g_done (2 * g_dones).toNatClampNeg a1) ((2 * g_dones) + 1).toNatClampNeg a2), rI cI qg_undone 130 g_undone, rI cI qg_selves 16 g_selves, rI cI qg_when 27 g_when, rI cI qg_jury 16 g_jury, rI cI qg_years 6 g_years, rI cI qg_states 6 g_states, rI cI qg_kept 290 g_kept] 4 0 rfl rfl h2 rfl dX7_adds_25 (fun H locs hP hD hS => ?_)
  refine lv_aload_n hx hb dX7_adds_26 rfl (lv_at hl 0 rfl) ?_
  refine lv_dup hx hb dX7_adds_27 rfl ?_
  refine k_get X hP 0 rfl rfl inX7 8 (by decide) fl_RX7_119 rfl rfl dX7_adds_28 ?_
  refine lv_iconst (v := 1) hx hb dX7_adds_31 (by decide) ?_
  refine lv_iadd hx hb dX7_adds_32 ?_
  refine k_put X hP hD hS [(qg, .inr (7, [.ref qg_text, .int g_size, .int g_at, .int g_begin, .int g_token, .int g_told, .ref qg_read, .ref qg_life, .int (g_dones + 1), .ref qg_done, .int g_undos, .ref qg_undone, .ref qg_selves, .ref qg_when, .ref qg_jury, .int g_seens, .ref qg_years, .ref qg_states, .long g_trace, .ref qg_kept])), rI cI qg_text 200 g_text, rI cI qg_read 55 g_read, rI cI qg_life 55 g_life, rI cI qg_done 16 (upd (upd g_done (2 * g_dones).toNatClampNeg a1) ((2 * g_dones) + 1).toNatClampNeg a2), rI cI qg_undone 130 g_undone, rI cI qg_selves 16 g_selves, rI cI qg_when 27 g_when, rI cI qg_jury 16 g_jury, rI cI qg_years 6 g_years, rI cI qg_states 6 g_states, rI cI qg_kept 290 g_kept] 0 rfl rfl inX7 tyX7_ok nmX7 8 (by decide) fl_RX7_119 rfl rfl rfl rfl (Nat.le_of_ble_eq_true rfl) rfl dX7_adds_33 (fun H locs hP hD hS => ?_)
  replace hf := Option.some.inj hf
  subst hf
  exact hret H locs _ ls dX7_adds_36 hP hD hS

def fX7_does (a1 : Int32) (a2 : Int32) (g_dones : Int32) (g_undos : Int32) (g_life : Nat → Int32) (g_done : Nat → Int32) (g_undone : Nat → Int32) : Option (Int32 × Int32 × Int32 × (Nat → Int32) × (Nat → Int32)) :=
  (fX7_isYear a1 g_life).bind (fun r1 => if (bI r1) = 0 then some ((-1), g_dones, g_undos, g_done, g_undone) else if inb 5 55 = true then (fX7_in a2.toInt64 0 (((g_life (5 : Int32).toNatClampNeg) - 1).toInt64)).bind (fun r4 => if (bI r4) = 0 then some ((-1), g_dones, g_undos, g_done, g_undone) else if g_dones = 6 then some ((-3), g_dones, g_undos, g_done, g_undone) else (fX7_notes g_dones g_undos g_done g_undone).bind (fun r7 => (fX7_adds a1 a2 g_dones g_done).bind (fun r8 => some (r8.1, r8.1, r7.1, r8.2, r7.2)))) else none)
set_option maxHeartbeats 4000000 in
set_option maxRecDepth 100000 in
theorem ctX7_does (l : Launch) (D : va_G) (cI cZ cD cH : ClassId) (qg : Nat) (qg_text : Nat) (qg_read : Nat) (qg_life : Nat) (qg_done : Nat) (qg_undone : Nat) (qg_selves : Nat) (qg_when : Nat) (qg_jury : Nat) (qg_years : Nat) (qg_states : Nat) (qg_kept : Nat) (a1 : Int32) (a2 : Int32) (g_size : Int32) (g_at : Int32) (g_begin : Int32) (g_token : Int32) (g_told : Int32) (g_dones : Int32) (g_undos : Int32) (g_seens : Int32) (g_trace : Int64) (g_text : Nat → Int32) (g_read : Nat → Int32) (g_life : Nat → Int32) (g_done : Nat → Int32) (g_undone : Nat → Int32) (g_selves : Nat → Int32) (g_when : Nat → Int32) (g_jury : Nat → Int32) (g_years : Nat → Int32) (g_states : Nat → Int32) (g_kept : Nat → Int32) (o : Int32 × Int32 × Int32 × (Nat → Int32) × (Nat → Int32)) (hf : fX7_does a1 a2 g_dones g_undos g_life g_done g_undone = some o) : Ct l yX7_does cX7_does 3 (some .int) { frames := 2, cells := 0, slots := 0, locals := 46 } D (Tys cI cZ cD cH) [.ref qg, .int a1, .int a2] [(qg, .inr (7, [.ref qg_text, .int g_size, .int g_at, .int g_begin, .int g_token, .int g_told, .ref qg_read, .ref qg_life, .int g_dones, .ref qg_done, .int g_undos, .ref qg_undone, .ref qg_selves, .ref qg_when, .ref qg_jury, .int g_seens, .ref qg_years, .ref qg_states, .long g_trace, .ref qg_kept])), rI cI qg_text 200 g_text, rI cI qg_read 55 g_read, rI cI qg_life 55 g_life, rI cI qg_done 16 g_done, rI cI qg_undone 130 g_undone, rI cI qg_selves 16 g_selves, rI cI qg_when 27 g_when, rI cI qg_jury 16 g_jury, rI cI qg_years 6 g_years, rI cI qg_states 6 g_states, rI cI qg_kept 290 g_kept] [(qg, .inr (7, [.ref qg_text, .int g_size, .int g_at, .int g_begin, .int g_token, .int g_told, .ref qg_read, .ref qg_life, .int o.2.1, .ref qg_done, .int o.2.2.1, .ref qg_undone, .ref qg_selves, .ref qg_when, .ref qg_jury, .int g_seens, .ref qg_years, .ref qg_states, .long g_trace, .ref qg_kept])), rI cI qg_text 200 g_text, rI cI qg_read 55 g_read, rI cI qg_life 55 g_life, rI cI qg_done 16 o.2.2.2.1, rI cI qg_undone 130 o.2.2.2.2, rI cI qg_selves 16 g_selves, rI cI qg_when 27 g_when, rI cI qg_jury 16 g_jury, rI cI qg_years 6 g_years, rI cI qg_states 6 g_states, rI cI qg_kept 290 g_kept] (some (.int o.1)) 0 0 := by
  refine mkI (by decide) (Nat.le_of_ble_eq_true rfl) ?_
  intro p e s m args below meth c A Q X hret ls hl H locs hP hD hS
  replace X : Cx p s m args c D (Tys cI cZ cD cH) A cX7_does RX7 3 := X
  obtain ⟨hx, hb, hml, hown, hts, hK, hZ, hA⟩ := id X
  have hl : lv_has ls 3 [(0, .ref qg), (1, .int a1), (2, .int a2)] := hl
  unfold fX7_does at hf
  refine lv_aload_n hx hb dX7_does_0 rfl (lv_at hl 0 rfl) ?_
  refine lv_iload_n hx hb dX7_does_1 rfl (lv_at hl 1 rfl) ?_
  obtain ⟨r1, hr1, hf⟩ := bnd hf
  refine k_callV X hP hD hS [(qg, .inr (7, [.ref qg_text, .int g_size, .int g_at, .int g_begin, .int g_token, .int g_told, .ref qg_read, .ref qg_life, .int g_dones, .ref qg_done, .int g_undos, .ref qg_undone, .ref qg_selves, .ref qg_when, .ref qg_jury, .int g_seens, .ref qg_years, .ref qg_states, .long g_trace, .ref qg_kept])), rI cI qg_text 200 g_text, rI cI qg_read 55 g_read, rI cI qg_life 55 g_life, rI cI qg_done 16 g_done, rI cI qg_undone 130 g_undone, rI cI qg_selves 16 g_selves, rI cI qg_when 27 g_when, rI cI qg_jury 16 g_jury, rI cI qg_years 6 g_years, rI cI qg_states 6 g_states, rI cI qg_kept 290 g_kept] (ctX7_isYear l D cI cZ cD cH qg qg_text qg_read qg_life qg_done qg_undone qg_selves qg_when qg_jury qg_years qg_states qg_kept a1 g_size g_at g_begin g_token g_told g_dones g_undos g_seens g_trace g_text g_read g_life g_done g_undone g_selves g_when g_jury g_years g_states g_kept r1 hr1) ml_RX7_147 im_yX7_isYear se_yX7_isYear in_RX7 cd_yX7_isYear rfl rfl hd_yX7_isYear ⟨by decide, by decide⟩ ⟨Nat.zero_le _, Nat.zero_le _⟩ [0, 1, 2, 3, 4, 5, 6, 7, 8, 9, 10, 11] [some 0, some 1, some 2, some 3, some 4, some 5, some 6, some 7, some 8, some 9, some 10, some 11] rfl (by decide +kernel) rfl (by decide +kernel) rfl rfl (q0 := 0) rfl rfl rfl hl.1 rfl rfl (Nat.le_of_ble_eq_true rfl) rfl dX7_does_2 (fun H locs hP hD hS => ?_)
  refine lv_if_eq (tgt := 26) hx hb dX7_does_5 (by decide) (fun c2 => ?_) (fun c2 => ?_)
  · replace hf := ite_t c2 hf
    refine lv_iconst (v := (-1)) hx hb dX7_does_26 (by decide) ?_
    replace hf := Option.some.inj hf
    subst hf
    exact hret H locs _ ls dX7_does_27 hP hD hS
  · replace hf := ite_f c2 hf
    refine lv_iload_n hx hb dX7_does_8 rfl (lv_at hl 2 rfl) ?_
    refine lv_i2l (v := a2.toInt64) hx hb dX7_does_9 rfl ?_
    refine lv_lconst (v := 0) hx hb dX7_does_10 (by decide) ?_
    refine lv_aload_n hx hb dX7_does_11 rfl (lv_at hl 0 rfl) ?_
    refine k_get X hP 0 rfl rfl inX7 7 (by decide) fl_RX7_16 rfl rfl dX7_does_12 ?_
    refine lv_iconst (v := 5) hx hb dX7_does_15 (by decide) ?_
    obtain ⟨h3, hf⟩ := ck_t hf
    refine k_iald X hP 3 0 rfl rfl h3 dX7_does_16 ?_
    refine lv_iconst (v := 1) hx hb dX7_does_17 (by decide) ?_
    refine lv_isub hx hb dX7_does_18 ?_
    refine lv_i2l (v := ((g_life (5 : Int32).toNatClampNeg) - 1).toInt64) hx hb dX7_does_19 rfl ?_
    obtain ⟨r4, hr4, hf⟩ := bnd hf
    refine k_callS X hP hD hS [(qg, .inr (7, [.ref qg_text, .int g_size, .int g_at, .int g_begin, .int g_token, .int g_told, .ref qg_read, .ref qg_life, .int g_dones, .ref qg_done, .int g_undos, .ref qg_undone, .ref qg_selves, .ref qg_when, .ref qg_jury, .int g_seens, .ref qg_years, .ref qg_states, .long g_trace, .ref qg_kept])), rI cI qg_text 200 g_text, rI cI qg_read 55 g_read, rI cI qg_life 55 g_life, rI cI qg_done 16 g_done, rI cI qg_undone 130 g_undone, rI cI qg_selves 16 g_selves, rI cI qg_when 27 g_when, rI cI qg_jury 16 g_jury, rI cI qg_years 6 g_years, rI cI qg_states 6 g_states, rI cI qg_kept 290 g_kept] (ctX7_in l D cI cZ cD cH a2.toInt64 0 (((g_life (5 : Int32).toNatClampNeg) - 1).toInt64) r4 hr4) ml_RX7_51 sm_yX7_in in_RX7 cd_yX7_in rfl rfl hd_yX7_in ⟨by decide, by decide⟩ ⟨Nat.zero_le _, Nat.zero_le _⟩ [] [none, none, none, none, none, none, none, none, none, none, none, none] rfl (by decide +kernel) rfl (by decide +kernel) rfl rfl hl.1 rfl rfl (Nat.le_of_ble_eq_true rfl) rfl dX7_does_20 (fun H locs hP hD hS => ?_)
    refine lv_if_ne (tgt := 28) hx hb dX7_does_23 (by decide) (fun c5 => ?_) (fun c5 => ?_)
    · replace hf := ite_f c5 hf
      refine lv_aload_n hx hb dX7_does_28 rfl (lv_at hl 0 rfl) ?_
      refine k_get X hP 0 rfl rfl inX7 8 (by decide) fl_RX7_119 rfl rfl dX7_does_29 ?_
      refine lv_bipush (v := 6) hx hb dX7_does_32 (by decide) ?_
      refine lv_icmp_ne (tgt := 40) hx hb dX7_does_34 (by decide) (fun c6 => ?_) (fun c6 => ?_)
      · replace hf := ite_f c6 hf
        refine lv_aload_n hx hb dX7_does_40 rfl (lv_at hl 0 rfl) ?_
        obtain ⟨r7, hr7, hf⟩ := bnd hf
        refine k_callV X hP hD hS [(qg, .inr (7, [.ref qg_text, .int g_size, .int g_at, .int g_begin, .int g_token, .int g_told, .ref qg_read, .ref qg_life, .int g_dones, .ref qg_done, .int r7.1, .ref qg_undone, .ref qg_selves, .ref qg_when, .ref qg_jury, .int g_seens, .ref qg_years, .ref qg_states, .long g_trace, .ref qg_kept])), rI cI qg_text 200 g_text, rI cI qg_read 55 g_read, rI cI qg_life 55 g_life, rI cI qg_done 16 g_done, rI cI qg_undone 130 r7.2, rI cI qg_selves 16 g_selves, rI cI qg_when 27 g_when, rI cI qg_jury 16 g_jury, rI cI qg_years 6 g_years, rI cI qg_states 6 g_states, rI cI qg_kept 290 g_kept] (ctX7_notes l D cI cZ cD cH qg qg_text qg_read qg_life qg_done qg_undone qg_selves qg_when qg_jury qg_years qg_states qg_kept g_size g_at g_begin g_token g_told g_dones g_undos g_seens g_trace g_text g_read g_life g_done g_undone g_selves g_when g_jury g_years g_states g_kept r7 hr7) ml_RX7_150 im_yX7_notes se_yX7_notes in_RX7 cd_yX7_notes rfl rfl hd_yX7_notes ⟨by decide, by decide⟩ ⟨Nat.zero_le _, Nat.zero_le _⟩ [0, 1, 2, 3, 4, 5, 6, 7, 8, 9, 10, 11] [some 0, some 1, some 2, some 3, some 4, some 5, some 6, some 7, some 8, some 9, some 10, some 11] rfl (by decide +kernel) rfl (by decide +kernel) rfl rfl (q0 := 0) rfl rfl rfl hl.1 rfl rfl (Nat.le_of_ble_eq_true rfl) rfl dX7_does_41 (fun H locs hP hD hS => ?_)
        refine lv_aload_n hx hb dX7_does_44 rfl (lv_at hl 0 rfl) ?_
        refine lv_iload_n hx hb dX7_does_45 rfl (lv_at hl 1 rfl) ?_
        refine lv_iload_n hx hb dX7_does_46 rfl (lv_at hl 2 rfl) ?_
        obtain ⟨r8, hr8, hf⟩ := bnd hf
        refine k_callV X hP hD hS [(qg, .inr (7, [.ref qg_text, .int g_size, .int g_at, .int g_begin, .int g_token, .int g_told, .ref qg_read, .ref qg_life, .int r8.1, .ref qg_done, .int r7.1, .ref qg_undone, .ref qg_selves, .ref qg_when, .ref qg_jury, .int g_seens, .ref qg_years, .ref qg_states, .long g_trace, .ref qg_kept])), rI cI qg_text 200 g_text, rI cI qg_read 55 g_read, rI cI qg_life 55 g_life, rI cI qg_done 16 r8.2, rI cI qg_undone 130 r7.2, rI cI qg_selves 16 g_selves, rI cI qg_when 27 g_when, rI cI qg_jury 16 g_jury, rI cI qg_years 6 g_years, rI cI qg_states 6 g_states, rI cI qg_kept 290 g_kept] (ctX7_adds l D cI cZ cD cH qg qg_text qg_read qg_life qg_done qg_undone qg_selves qg_when qg_jury qg_years qg_states qg_kept a1 a2 g_size g_at g_begin g_token g_told g_dones r7.1 g_seens g_trace g_text g_read g_life g_done r7.2 g_selves g_when g_jury g_years g_states g_kept r8 hr8) ml_RX7_153 im_yX7_adds se_yX7_adds in_RX7 cd_yX7_adds rfl rfl hd_yX7_adds ⟨by decide, by decide⟩ ⟨Nat.zero_le _, Nat.zero_le _⟩ [0, 1, 2, 3, 4, 5, 6, 7, 8, 9, 10, 11] [some 0, some 1, some 2, some 3, some 4, some 5, some 6, some 7, some 8, some 9, some 10, some 11] rfl (by decide +kernel) rfl (by decide +kernel) rfl rfl (q0 := 0) rfl rfl rfl hl.1 rfl rfl (Nat.le_of_ble_eq_true rfl) rfl dX7_does_47 (fun H locs hP hD hS => ?_)
        refine lv_aload_n hx hb dX7_does_50 rfl (lv_at hl 0 rfl) ?_
        refine k_get X hP 0 rfl rfl inX7 8 (by decide) fl_RX7_119 rfl rfl dX7_does_51 ?_
        replace hf := Option.some.inj hf
        subst hf
        exact hret H locs _ ls dX7_does_54 hP hD hS
      · replace hf := ite_t c6 hf
        refine lv_bipush (v := (-3)) hx hb dX7_does_37 (by decide) ?_
        replace hf := Option.some.inj hf
        subst hf
        exact hret H locs _ ls dX7_does_39 hP hD hS
    · replace hf := ite_t c5 hf
      refine lv_iconst (v := (-1)) hx hb dX7_does_26 (by decide) ?_
      replace hf := Option.some.inj hf
      subst hf
      exact hret H locs _ ls dX7_does_27 hP hD hS

def sX7_takes_28 (g_dones : Int32) (v2 : Int32) (g_done : Nat → Int32) : Option ((Int32 × (Nat → Int32)) ⊕ (((Nat → Int32)))) :=
  if (2 * g_dones) ≤ v2 then some (.inr g_done) else if inb v2 16 = true then if inb (v2 - 2) 16 = true then some (.inl (v2 + 1, upd g_done (v2 - 2).toNatClampNeg (g_done v2.toNatClampNeg))) else none else none
def fX7_takes (a1 : Int32) (g_dones : Int32) (g_undos : Int32) (g_done : Nat → Int32) (g_undone : Nat → Int32) : Option (Int32 × Int32 × Int32 × (Nat → Int32) × (Nat → Int32)) :=
  (fX7_in a1.toInt64 0 ((g_dones - 1).toInt64)).bind (fun r1 => if (bI r1) = 0 then some ((-1), g_dones, g_undos, g_done, g_undone) else (fX7_notes g_dones g_undos g_done g_undone).bind (fun r3 => (lpd (fun s4 => sX7_takes_28 g_dones s4.1 s4.2) FU ((2 * a1) + 2, g_done)).bind (fun (y4_0 : (Nat → Int32)) => some (g_dones - 1, g_dones - 1, r3.1, y4_0, r3.2))))
set_option maxHeartbeats 4000000 in
set_option maxRecDepth 100000 in
theorem ctX7_takes (l : Launch) (D : va_G) (cI cZ cD cH : ClassId) (qg : Nat) (qg_text : Nat) (qg_read : Nat) (qg_life : Nat) (qg_done : Nat) (qg_undone : Nat) (qg_selves : Nat) (qg_when : Nat) (qg_jury : Nat) (qg_years : Nat) (qg_states : Nat) (qg_kept : Nat) (a1 : Int32) (g_size : Int32) (g_at : Int32) (g_begin : Int32) (g_token : Int32) (g_told : Int32) (g_dones : Int32) (g_undos : Int32) (g_seens : Int32) (g_trace : Int64) (g_text : Nat → Int32) (g_read : Nat → Int32) (g_life : Nat → Int32) (g_done : Nat → Int32) (g_undone : Nat → Int32) (g_selves : Nat → Int32) (g_when : Nat → Int32) (g_jury : Nat → Int32) (g_years : Nat → Int32) (g_states : Nat → Int32) (g_kept : Nat → Int32) (o : Int32 × Int32 × Int32 × (Nat → Int32) × (Nat → Int32)) (hf : fX7_takes a1 g_dones g_undos g_done g_undone = some o) : Ct l yX7_takes cX7_takes 3 (some .int) { frames := 1, cells := 0, slots := 0, locals := 25 } D (Tys cI cZ cD cH) [.ref qg, .int a1] [(qg, .inr (7, [.ref qg_text, .int g_size, .int g_at, .int g_begin, .int g_token, .int g_told, .ref qg_read, .ref qg_life, .int g_dones, .ref qg_done, .int g_undos, .ref qg_undone, .ref qg_selves, .ref qg_when, .ref qg_jury, .int g_seens, .ref qg_years, .ref qg_states, .long g_trace, .ref qg_kept])), rI cI qg_text 200 g_text, rI cI qg_read 55 g_read, rI cI qg_life 55 g_life, rI cI qg_done 16 g_done, rI cI qg_undone 130 g_undone, rI cI qg_selves 16 g_selves, rI cI qg_when 27 g_when, rI cI qg_jury 16 g_jury, rI cI qg_years 6 g_years, rI cI qg_states 6 g_states, rI cI qg_kept 290 g_kept] [(qg, .inr (7, [.ref qg_text, .int g_size, .int g_at, .int g_begin, .int g_token, .int g_told, .ref qg_read, .ref qg_life, .int o.2.1, .ref qg_done, .int o.2.2.1, .ref qg_undone, .ref qg_selves, .ref qg_when, .ref qg_jury, .int g_seens, .ref qg_years, .ref qg_states, .long g_trace, .ref qg_kept])), rI cI qg_text 200 g_text, rI cI qg_read 55 g_read, rI cI qg_life 55 g_life, rI cI qg_done 16 o.2.2.2.1, rI cI qg_undone 130 o.2.2.2.2, rI cI qg_selves 16 g_selves, rI cI qg_when 27 g_when, rI cI qg_jury 16 g_jury, rI cI qg_years 6 g_years, rI cI qg_states 6 g_states, rI cI qg_kept 290 g_kept] (some (.int o.1)) 0 0 := by
  refine mkI (by decide) (Nat.le_of_ble_eq_true rfl) ?_
  intro p e s m args below meth c A Q X hret ls hl H locs hP hD hS
  replace X : Cx p s m args c D (Tys cI cZ cD cH) A cX7_takes RX7 3 := X
  obtain ⟨hx, hb, hml, hown, hts, hK, hZ, hA⟩ := id X
  have hl : lv_has ls 3 [(0, .ref qg), (1, .int a1)] := hl
  unfold fX7_takes at hf
  refine lv_iload_n hx hb dX7_takes_0 rfl (lv_at hl 1 rfl) ?_
  refine lv_i2l (v := a1.toInt64) hx hb dX7_takes_1 rfl ?_
  refine lv_lconst (v := 0) hx hb dX7_takes_2 (by decide) ?_
  refine lv_aload_n hx hb dX7_takes_3 rfl (lv_at hl 0 rfl) ?_
  refine k_get X hP 0 rfl rfl inX7 8 (by decide) fl_RX7_119 rfl rfl dX7_takes_4 ?_
  refine lv_iconst (v := 1) hx hb dX7_takes_7 (by decide) ?_
  refine lv_isub hx hb dX7_takes_8 ?_
  refine lv_i2l (v := (g_dones - 1).toInt64) hx hb dX7_takes_9 rfl ?_
  obtain ⟨r1, hr1, hf⟩ := bnd hf
  refine k_callS X hP hD hS [(qg, .inr (7, [.ref qg_text, .int g_size, .int g_at, .int g_begin, .int g_token, .int g_told, .ref qg_read, .ref qg_life, .int g_dones, .ref qg_done, .int g_undos, .ref qg_undone, .ref qg_selves, .ref qg_when, .ref qg_jury, .int g_seens, .ref qg_years, .ref qg_states, .long g_trace, .ref qg_kept])), rI cI qg_text 200 g_text, rI cI qg_read 55 g_read, rI cI qg_life 55 g_life, rI cI qg_done 16 g_done, rI cI qg_undone 130 g_undone, rI cI qg_selves 16 g_selves, rI cI qg_when 27 g_when, rI cI qg_jury 16 g_jury, rI cI qg_years 6 g_years, rI cI qg_states 6 g_states, rI cI qg_kept 290 g_kept] (ctX7_in l D cI cZ cD cH a1.toInt64 0 ((g_dones - 1).toInt64) r1 hr1) ml_RX7_51 sm_yX7_in in_RX7 cd_yX7_in rfl rfl hd_yX7_in ⟨by decide, by decide⟩ ⟨Nat.zero_le _, Nat.zero_le _⟩ [] [none, none, none, none, none, none, none, none, none, none, none, none] rfl (by decide +kernel) rfl (by decide +kernel) rfl rfl hl.1 rfl rfl (Nat.le_of_ble_eq_true rfl) rfl dX7_takes_10 (fun H locs hP hD hS => ?_)
  refine lv_if_ne (tgt := 18) hx hb dX7_takes_13 (by decide) (fun c2 => ?_) (fun c2 => ?_)
  · replace hf := ite_f c2 hf
    refine lv_aload_n hx hb dX7_takes_18 rfl (lv_at hl 0 rfl) ?_
    obtain ⟨r3, hr3, hf⟩ := bnd hf
    refine k_callV X hP hD hS [(qg, .inr (7, [.ref qg_text, .int g_size, .int g_at, .int g_begin, .int g_token, .int g_told, .ref qg_read, .ref qg_life, .int g_dones, .ref qg_done, .int r3.1, .ref qg_undone, .ref qg_selves, .ref qg_when, .ref qg_jury, .int g_seens, .ref qg_years, .ref qg_states, .long g_trace, .ref qg_kept])), rI cI qg_text 200 g_text, rI cI qg_read 55 g_read, rI cI qg_life 55 g_life, rI cI qg_done 16 g_done, rI cI qg_undone 130 r3.2, rI cI qg_selves 16 g_selves, rI cI qg_when 27 g_when, rI cI qg_jury 16 g_jury, rI cI qg_years 6 g_years, rI cI qg_states 6 g_states, rI cI qg_kept 290 g_kept] (ctX7_notes l D cI cZ cD cH qg qg_text qg_read qg_life qg_done qg_undone qg_selves qg_when qg_jury qg_years qg_states qg_kept g_size g_at g_begin g_token g_told g_dones g_undos g_seens g_trace g_text g_read g_life g_done g_undone g_selves g_when g_jury g_years g_states g_kept r3 hr3) ml_RX7_150 im_yX7_notes se_yX7_notes in_RX7 cd_yX7_notes rfl rfl hd_yX7_notes ⟨by decide, by decide⟩ ⟨Nat.zero_le _, Nat.zero_le _⟩ [0, 1, 2, 3, 4, 5, 6, 7, 8, 9, 10, 11] [some 0, some 1, some 2, some 3, some 4, some 5, some 6, some 7, some 8, some 9, some 10, some 11] rfl (by decide +kernel) rfl (by decide +kernel) rfl rfl (q0 := 0) rfl rfl rfl hl.1 rfl rfl (Nat.le_of_ble_eq_true rfl) rfl dX7_takes_19 (fun H locs hP hD hS => ?_)
    refine lv_iconst (v := 2) hx hb dX7_takes_22 (by decide) ?_
    refine lv_iload_n hx hb dX7_takes_23 rfl (lv_at hl 1 rfl) ?_
    refine lv_imul hx hb dX7_takes_24 ?_
    refine lv_iconst (v := 2) hx hb dX7_takes_25 (by decide) ?_
    refine lv_iadd hx hb dX7_takes_26 ?_
    refine lv_istore_n (lv' := [(2, .int ((2 * a1) + 2)), (0, .ref qg), (1, .int a1)]) hx hb dX7_takes_27 rfl hl (by decide) rfl (fun ls hl => ?_)
    obtain ⟨e4, he4, hf⟩ := bnd hf
    have hx4_0 : ∀ (y4_0 : (Nat → Int32)), y4_0 = e4 → ∀ (H : Heap) (locs : List Loc) (ls : Array Slot), va_P D vwCl [(qg, .inr (7, [.ref qg_text, .int g_size, .int g_at, .int g_begin, .int g_token, .int g_told, .ref qg_read, .ref qg_life, .int g_dones, .ref qg_done, .int r3.1, .ref qg_undone, .ref qg_selves, .ref qg_when, .ref qg_jury, .int g_seens, .ref qg_years, .ref qg_states, .long g_trace, .ref qg_kept])), rI cI qg_text 200 g_text, rI cI qg_read 55 g_read, rI cI qg_life 55 g_life, rI cI qg_done 16 y4_0, rI cI qg_undone 130 r3.2, rI cI qg_selves 16 g_selves, rI cI qg_when 27 g_when, rI cI qg_jury 16 g_jury, rI cI qg_years 6 g_years, rI cI qg_states 6 g_states, rI cI qg_kept 290 g_kept] H → va_D A [(qg, .inr (7, [.ref qg_text, .int g_size, .int g_at, .int g_begin, .int g_token, .int g_told, .ref qg_read, .ref qg_life, .int g_dones, .ref qg_done, .int r3.1, .ref qg_undone, .ref qg_selves, .ref qg_when, .ref qg_jury, .int g_seens, .ref qg_years, .ref qg_states, .long g_trace, .ref qg_kept])), rI cI qg_text 200 g_text, rI cI qg_read 55 g_read, rI cI qg_life 55 g_life, rI cI qg_done 16 y4_0, rI cI qg_undone 130 r3.2, rI cI qg_selves 16 g_selves, rI cI qg_when 27 g_when, rI cI qg_jury 16 g_jury, rI cI qg_years 6 g_years, rI cI qg_states 6 g_states, rI cI qg_kept 290 g_kept] → va_S A s.heap H locs → lv_has ls 3 [(0, .ref qg)] → W p l e ({ frames := 1, cells := 0, slots := 0, locals := 25 } : Room) s m args below meth c H locs 0 0 Q (F0 m 58 ls []) := by
      intro y4_0 heq H locs ls hP hD hS hl
      subst heq
      refine lv_aload_n hx hb dX7_takes_58 rfl (lv_at hl 0 rfl) ?_
      refine lv_dup hx hb dX7_takes_59 rfl ?_
      refine k_get X hP 0 rfl rfl inX7 8 (by decide) fl_RX7_119 rfl rfl dX7_takes_60 ?_
      refine lv_iconst (v := 1) hx hb dX7_takes_63 (by decide) ?_
      refine lv_isub hx hb dX7_takes_64 ?_
      refine k_put X hP hD hS [(qg, .inr (7, [.ref qg_text, .int g_size, .int g_at, .int g_begin, .int g_token, .int g_told, .ref qg_read, .ref qg_life, .int (g_dones - 1), .ref qg_done, .int r3.1, .ref qg_undone, .ref qg_selves, .ref qg_when, .ref qg_jury, .int g_seens, .ref qg_years, .ref qg_states, .long g_trace, .ref qg_kept])), rI cI qg_text 200 g_text, rI cI qg_read 55 g_read, rI cI qg_life 55 g_life, rI cI qg_done 16 y4_0, rI cI qg_undone 130 r3.2, rI cI qg_selves 16 g_selves, rI cI qg_when 27 g_when, rI cI qg_jury 16 g_jury, rI cI qg_years 6 g_years, rI cI qg_states 6 g_states, rI cI qg_kept 290 g_kept] 0 rfl rfl inX7 tyX7_ok nmX7 8 (by decide) fl_RX7_119 rfl rfl rfl rfl (Nat.le_of_ble_eq_true rfl) rfl dX7_takes_65 (fun H locs hP hD hS => ?_)
      refine lv_aload_n hx hb dX7_takes_68 rfl (lv_at hl 0 rfl) ?_
      refine k_get X hP 0 rfl rfl inX7 8 (by decide) fl_RX7_119 rfl rfl dX7_takes_69 ?_
      replace hf := Option.some.inj hf
      subst hf
      exact hret H locs _ ls dX7_takes_72 hP hD hS
    refine lpd_ind (P := fun s4 => ∀ (H : Heap) (locs : List Loc) (ls : Array Slot), va_P D vwCl [(qg, .inr (7, [.ref qg_text, .int g_size, .int g_at, .int g_begin, .int g_token, .int g_told, .ref qg_read, .ref qg_life, .int g_dones, .ref qg_done, .int r3.1, .ref qg_undone, .ref qg_selves, .ref qg_when, .ref qg_jury, .int g_seens, .ref qg_years, .ref qg_states, .long g_trace, .ref qg_kept])), rI cI qg_text 200 g_text, rI cI qg_read 55 g_read, rI cI qg_life 55 g_life, rI cI qg_done 16 s4.2, rI cI qg_undone 130 r3.2, rI cI qg_selves 16 g_selves, rI cI qg_when 27 g_when, rI cI qg_jury 16 g_jury, rI cI qg_years 6 g_years, rI cI qg_states 6 g_states, rI cI qg_kept 290 g_kept] H → va_D A [(qg, .inr (7, [.ref qg_text, .int g_size, .int g_at, .int g_begin, .int g_token, .int g_told, .ref qg_read, .ref qg_life, .int g_dones, .ref qg_done, .int r3.1, .ref qg_undone, .ref qg_selves, .ref qg_when, .ref qg_jury, .int g_seens, .ref qg_years, .ref qg_states, .long g_trace, .ref qg_kept])), rI cI qg_text 200 g_text, rI cI qg_read 55 g_read, rI cI qg_life 55 g_life, rI cI qg_done 16 s4.2, rI cI qg_undone 130 r3.2, rI cI qg_selves 16 g_selves, rI cI qg_when 27 g_when, rI cI qg_jury 16 g_jury, rI cI qg_years 6 g_years, rI cI qg_states 6 g_states, rI cI qg_kept 290 g_kept] → va_S A s.heap H locs → lv_has ls 3 [(0, .ref qg), (2, .int s4.1)] → W p l e ({ frames := 1, cells := 0, slots := 0, locals := 25 } : Room) s m args below meth c H locs 0 0 Q (F0 m 28 ls [])) e4 ?_ _ _ he4 H locs ls hP hD hS (lv_sub hl [1, 0] rfl)
    intro s4 r4 hf ih4 hq4 H locs ls hP hD hS hl
    unfold sX7_takes_28 at hf
    refine lv_iload_n hx hb dX7_takes_28 rfl (lv_at hl 1 rfl) ?_
    refine lv_iconst (v := 2) hx hb dX7_takes_29 (by decide) ?_
    refine lv_aload_n hx hb dX7_takes_30 rfl (lv_at hl 0 rfl) ?_
    refine k_get X hP 0 rfl rfl inX7 8 (by decide) fl_RX7_119 rfl rfl dX7_takes_31 ?_
    refine lv_imul hx hb dX7_takes_34 ?_
    refine lv_icmp_ge (tgt := 58) hx hb dX7_takes_35 (by decide) (fun c5 => ?_) (fun c5 => ?_)
    · replace hf := ite_t c5 hf
      exact hx4_0 _ (hq4 _ (Option.some.inj hf).symm) H locs ls hP hD hS (lv_sub hl [0] rfl)
    · replace hf := ite_f c5 hf
      refine lv_aload_n hx hb dX7_takes_38 rfl (lv_at hl 0 rfl) ?_
      refine k_get X hP 0 rfl rfl inX7 9 (by decide) fl_RX7_19 rfl rfl dX7_takes_39 ?_
      refine lv_iload_n hx hb dX7_takes_42 rfl (lv_at hl 1 rfl) ?_
      refine lv_iconst (v := 2) hx hb dX7_takes_43 (by decide) ?_
      refine lv_isub hx hb dX7_takes_44 ?_
      refine lv_aload_n hx hb dX7_takes_45 rfl (lv_at hl 0 rfl) ?_
      refine k_get X hP 0 rfl rfl inX7 9 (by decide) fl_RX7_19 rfl rfl dX7_takes_46 ?_
      refine lv_iload_n hx hb dX7_takes_49 rfl (lv_at hl 1 rfl) ?_
      obtain ⟨h6, hf⟩ := ck_t hf
      refine k_iald X hP 4 0 rfl rfl h6 dX7_takes_50 ?_
      obtain ⟨h7, hf⟩ := ck_t hf
      refine k_iast X hP hD hS [(qg, .inr (7, [.ref qg_text, .int g_size, .int g_at, .int g_begin, .int g_token, .int g_told, .ref qg_read, .ref qg_life, .int g_dones, .ref qg_done, .int r3.1, .ref qg_undone, .ref qg_selves, .ref qg_when, .ref qg_jury, .int g_seens, .ref qg_years, .ref qg_states, .long g_trace, .ref qg_kept])), rI cI qg_text 200 g_text, rI cI qg_read 55 g_read, rI cI qg_life 55 g_life, rI cI qg_done 16 (upd s4.2 (s4.1 - 2).toNatClampNeg (s4.2 s4.1.toNatClampNeg)), rI cI qg_undone 130 r3.2, rI cI qg_selves 16 g_selves, rI cI qg_when 27 g_when, rI cI qg_jury 16 g_jury, rI cI qg_years 6 g_years, rI cI qg_states 6 g_states, rI cI qg_kept 290 g_kept] 4 0 rfl rfl h7 rfl dX7_takes_51 (fun H locs hP hD hS => ?_)
      refine lv_iinc (v := s4.1 + 1) (lv' := [(2, .int (s4.1 + 1)), (0, .ref qg)]) hx hb dX7_takes_52 hl (k := 1) rfl rfl (by decide) rfl (fun ls hl => ?_)
      refine lv_goto (tgt := 28) hx hb dX7_takes_55 (by decide) ?_
      exact ih4 _ (Option.some.inj hf).symm H locs ls hP hD hS (lv_sub hl [1, 0] rfl)
  · replace hf := ite_t c2 hf
    refine lv_iconst (v := (-1)) hx hb dX7_takes_16 (by decide) ?_
    replace hf := Option.some.inj hf
    subst hf
    exact hret H locs _ ls dX7_takes_17 hP hD hS

def fX7_done (a1 : Int32) (a2 : Int32) (g_dones : Int32) (g_done : Nat → Int32) : Option (Int32) :=
  (fX7_in a1.toInt64 0 ((g_dones - 1).toInt64)).bind (fun r1 => if (bI r1) = 0 then some (-1) else (fX7_in a2.toInt64 0 1).bind (fun r3 => if (bI r3) = 0 then some (-1) else if inb ((2 * a1) + a2) 16 = true then some (g_done ((2 * a1) + a2).toNatClampNeg) else none))
set_option maxHeartbeats 4000000 in
set_option maxRecDepth 100000 in
theorem ctX7_done (l : Launch) (D : va_G) (cI cZ cD cH : ClassId) (qg : Nat) (qg_text : Nat) (qg_read : Nat) (qg_life : Nat) (qg_done : Nat) (qg_undone : Nat) (qg_selves : Nat) (qg_when : Nat) (qg_jury : Nat) (qg_years : Nat) (qg_states : Nat) (qg_kept : Nat) (a1 : Int32) (a2 : Int32) (g_size : Int32) (g_at : Int32) (g_begin : Int32) (g_token : Int32) (g_told : Int32) (g_dones : Int32) (g_undos : Int32) (g_seens : Int32) (g_trace : Int64) (g_text : Nat → Int32) (g_read : Nat → Int32) (g_life : Nat → Int32) (g_done : Nat → Int32) (g_undone : Nat → Int32) (g_selves : Nat → Int32) (g_when : Nat → Int32) (g_jury : Nat → Int32) (g_years : Nat → Int32) (g_states : Nat → Int32) (g_kept : Nat → Int32) (o : Int32) (hf : fX7_done a1 a2 g_dones g_done = some o) : Ct l yX7_done cX7_done 3 (some .int) { frames := 1, cells := 0, slots := 0, locals := 25 } D (Tys cI cZ cD cH) [.ref qg, .int a1, .int a2] [(qg, .inr (7, [.ref qg_text, .int g_size, .int g_at, .int g_begin, .int g_token, .int g_told, .ref qg_read, .ref qg_life, .int g_dones, .ref qg_done, .int g_undos, .ref qg_undone, .ref qg_selves, .ref qg_when, .ref qg_jury, .int g_seens, .ref qg_years, .ref qg_states, .long g_trace, .ref qg_kept])), rI cI qg_text 200 g_text, rI cI qg_read 55 g_read, rI cI qg_life 55 g_life, rI cI qg_done 16 g_done, rI cI qg_undone 130 g_undone, rI cI qg_selves 16 g_selves, rI cI qg_when 27 g_when, rI cI qg_jury 16 g_jury, rI cI qg_years 6 g_years, rI cI qg_states 6 g_states, rI cI qg_kept 290 g_kept] [(qg, .inr (7, [.ref qg_text, .int g_size, .int g_at, .int g_begin, .int g_token, .int g_told, .ref qg_read, .ref qg_life, .int g_dones, .ref qg_done, .int g_undos, .ref qg_undone, .ref qg_selves, .ref qg_when, .ref qg_jury, .int g_seens, .ref qg_years, .ref qg_states, .long g_trace, .ref qg_kept])), rI cI qg_text 200 g_text, rI cI qg_read 55 g_read, rI cI qg_life 55 g_life, rI cI qg_done 16 g_done, rI cI qg_undone 130 g_undone, rI cI qg_selves 16 g_selves, rI cI qg_when 27 g_when, rI cI qg_jury 16 g_jury, rI cI qg_years 6 g_years, rI cI qg_states 6 g_states, rI cI qg_kept 290 g_kept] (some (.int o)) 0 0 := by
  refine mkI (by decide) (Nat.le_of_ble_eq_true rfl) ?_
  intro p e s m args below meth c A Q X hret ls hl H locs hP hD hS
  replace X : Cx p s m args c D (Tys cI cZ cD cH) A cX7_done RX7 3 := X
  obtain ⟨hx, hb, hml, hown, hts, hK, hZ, hA⟩ := id X
  have hl : lv_has ls 3 [(0, .ref qg), (1, .int a1), (2, .int a2)] := hl
  unfold fX7_done at hf
  refine lv_iload_n hx hb dX7_done_0 rfl (lv_at hl 1 rfl) ?_
  refine lv_i2l (v := a1.toInt64) hx hb dX7_done_1 rfl ?_
  refine lv_lconst (v := 0) hx hb dX7_done_2 (by decide) ?_
  refine lv_aload_n hx hb dX7_done_3 rfl (lv_at hl 0 rfl) ?_
  refine k_get X hP 0 rfl rfl inX7 8 (by decide) fl_RX7_119 rfl rfl dX7_done_4 ?_
  refine lv_iconst (v := 1) hx hb dX7_done_7 (by decide) ?_
  refine lv_isub hx hb dX7_done_8 ?_
  refine lv_i2l (v := (g_dones - 1).toInt64) hx hb dX7_done_9 rfl ?_
  obtain ⟨r1, hr1, hf⟩ := bnd hf
  refine k_callS X hP hD hS [(qg, .inr (7, [.ref qg_text, .int g_size, .int g_at, .int g_begin, .int g_token, .int g_told, .ref qg_read, .ref qg_life, .int g_dones, .ref qg_done, .int g_undos, .ref qg_undone, .ref qg_selves, .ref qg_when, .ref qg_jury, .int g_seens, .ref qg_years, .ref qg_states, .long g_trace, .ref qg_kept])), rI cI qg_text 200 g_text, rI cI qg_read 55 g_read, rI cI qg_life 55 g_life, rI cI qg_done 16 g_done, rI cI qg_undone 130 g_undone, rI cI qg_selves 16 g_selves, rI cI qg_when 27 g_when, rI cI qg_jury 16 g_jury, rI cI qg_years 6 g_years, rI cI qg_states 6 g_states, rI cI qg_kept 290 g_kept] (ctX7_in l D cI cZ cD cH a1.toInt64 0 ((g_dones - 1).toInt64) r1 hr1) ml_RX7_51 sm_yX7_in in_RX7 cd_yX7_in rfl rfl hd_yX7_in ⟨by decide, by decide⟩ ⟨Nat.zero_le _, Nat.zero_le _⟩ [] [none, none, none, none, none, none, none, none, none, none, none, none] rfl (by decide +kernel) rfl (by decide +kernel) rfl rfl hl.1 rfl rfl (Nat.le_of_ble_eq_true rfl) rfl dX7_done_10 (fun H locs hP hD hS => ?_)
  refine lv_if_eq (tgt := 39) hx hb dX7_done_13 (by decide) (fun c2 => ?_) (fun c2 => ?_)
  · replace hf := ite_t c2 hf
    refine lv_iconst (v := (-1)) hx hb dX7_done_39 (by decide) ?_
    replace hf := Option.some.inj hf
    subst hf
    exact hret H locs _ ls dX7_done_40 hP hD hS
  · replace hf := ite_f c2 hf
    refine lv_iload_n hx hb dX7_done_16 rfl (lv_at hl 2 rfl) ?_
    refine lv_i2l (v := a2.toInt64) hx hb dX7_done_17 rfl ?_
    refine lv_lconst (v := 0) hx hb dX7_done_18 (by decide) ?_
    refine lv_lconst (v := 1) hx hb dX7_done_19 (by decide) ?_
    obtain ⟨r3, hr3, hf⟩ := bnd hf
    refine k_callS X hP hD hS [(qg, .inr (7, [.ref qg_text, .int g_size, .int g_at, .int g_begin, .int g_token, .int g_told, .ref qg_read, .ref qg_life, .int g_dones, .ref qg_done, .int g_undos, .ref qg_undone, .ref qg_selves, .ref qg_when, .ref qg_jury, .int g_seens, .ref qg_years, .ref qg_states, .long g_trace, .ref qg_kept])), rI cI qg_text 200 g_text, rI cI qg_read 55 g_read, rI cI qg_life 55 g_life, rI cI qg_done 16 g_done, rI cI qg_undone 130 g_undone, rI cI qg_selves 16 g_selves, rI cI qg_when 27 g_when, rI cI qg_jury 16 g_jury, rI cI qg_years 6 g_years, rI cI qg_states 6 g_states, rI cI qg_kept 290 g_kept] (ctX7_in l D cI cZ cD cH a2.toInt64 0 1 r3 hr3) ml_RX7_51 sm_yX7_in in_RX7 cd_yX7_in rfl rfl hd_yX7_in ⟨by decide, by decide⟩ ⟨Nat.zero_le _, Nat.zero_le _⟩ [] [none, none, none, none, none, none, none, none, none, none, none, none] rfl (by decide +kernel) rfl (by decide +kernel) rfl rfl hl.1 rfl rfl (Nat.le_of_ble_eq_true rfl) rfl dX7_done_20 (fun H locs hP hD hS => ?_)
    refine lv_if_eq (tgt := 39) hx hb dX7_done_23 (by decide) (fun c4 => ?_) (fun c4 => ?_)
    · replace hf := ite_t c4 hf
      refine lv_iconst (v := (-1)) hx hb dX7_done_39 (by decide) ?_
      replace hf := Option.some.inj hf
      subst hf
      exact hret H locs _ ls dX7_done_40 hP hD hS
    · replace hf := ite_f c4 hf
      refine lv_aload_n hx hb dX7_done_26 rfl (lv_at hl 0 rfl) ?_
      refine k_get X hP 0 rfl rfl inX7 9 (by decide) fl_RX7_19 rfl rfl dX7_done_27 ?_
      refine lv_iconst (v := 2) hx hb dX7_done_30 (by decide) ?_
      refine lv_iload_n hx hb dX7_done_31 rfl (lv_at hl 1 rfl) ?_
      refine lv_imul hx hb dX7_done_32 ?_
      refine lv_iload_n hx hb dX7_done_33 rfl (lv_at hl 2 rfl) ?_
      refine lv_iadd hx hb dX7_done_34 ?_
      obtain ⟨h5, hf⟩ := ck_t hf
      refine k_iald X hP 4 0 rfl rfl h5 dX7_done_35 ?_
      refine lv_goto (tgt := 40) hx hb dX7_done_36 (by decide) ?_
      replace hf := Option.some.inj hf
      subst hf
      exact hret H locs _ ls dX7_done_40 hP hD hS

def sX7_undo_38 (g_undos : Int32) (g_undone : Nat → Int32) (v1 : Int32) (g_done : Nat → Int32) : Option ((Int32 × (Nat → Int32)) ⊕ (((Nat → Int32)))) :=
  if 12 ≤ v1 then some (.inr g_done) else if inb (((13 * g_undos) + 1) + v1) 130 = true then if inb v1 16 = true then some (.inl (v1 + 1, upd g_done v1.toNatClampNeg (g_undone (((13 * g_undos) + 1) + v1).toNatClampNeg))) else none else none
def fX7_undo (g_dones : Int32) (g_undos : Int32) (g_done : Nat → Int32) (g_undone : Nat → Int32) : Option (Int32 × Int32 × Int32 × (Nat → Int32)) :=
  if g_undos = 0 then some ((-2), g_dones, g_undos, g_done) else if inb (13 * (g_undos - 1)) 130 = true then (lpd (fun s3 => sX7_undo_38 (g_undos - 1) g_undone s3.1 s3.2) FU (0, g_done)).bind (fun (y3_0 : (Nat → Int32)) => some (g_undos - 1, g_undone (13 * (g_undos - 1)).toNatClampNeg, g_undos - 1, y3_0)) else none
set_option maxHeartbeats 4000000 in
set_option maxRecDepth 100000 in
theorem ctX7_undo (l : Launch) (D : va_G) (cI cZ cD cH : ClassId) (qg : Nat) (qg_text : Nat) (qg_read : Nat) (qg_life : Nat) (qg_done : Nat) (qg_undone : Nat) (qg_selves : Nat) (qg_when : Nat) (qg_jury : Nat) (qg_years : Nat) (qg_states : Nat) (qg_kept : Nat) (g_size : Int32) (g_at : Int32) (g_begin : Int32) (g_token : Int32) (g_told : Int32) (g_dones : Int32) (g_undos : Int32) (g_seens : Int32) (g_trace : Int64) (g_text : Nat → Int32) (g_read : Nat → Int32) (g_life : Nat → Int32) (g_done : Nat → Int32) (g_undone : Nat → Int32) (g_selves : Nat → Int32) (g_when : Nat → Int32) (g_jury : Nat → Int32) (g_years : Nat → Int32) (g_states : Nat → Int32) (g_kept : Nat → Int32) (o : Int32 × Int32 × Int32 × (Nat → Int32)) (hf : fX7_undo g_dones g_undos g_done g_undone = some o) : Ct l yX7_undo cX7_undo 2 (some .int) { frames := 0, cells := 0, slots := 0, locals := 0 } D (Tys cI cZ cD cH) [.ref qg] [(qg, .inr (7, [.ref qg_text, .int g_size, .int g_at, .int g_begin, .int g_token, .int g_told, .ref qg_read, .ref qg_life, .int g_dones, .ref qg_done, .int g_undos, .ref qg_undone, .ref qg_selves, .ref qg_when, .ref qg_jury, .int g_seens, .ref qg_years, .ref qg_states, .long g_trace, .ref qg_kept])), rI cI qg_text 200 g_text, rI cI qg_read 55 g_read, rI cI qg_life 55 g_life, rI cI qg_done 16 g_done, rI cI qg_undone 130 g_undone, rI cI qg_selves 16 g_selves, rI cI qg_when 27 g_when, rI cI qg_jury 16 g_jury, rI cI qg_years 6 g_years, rI cI qg_states 6 g_states, rI cI qg_kept 290 g_kept] [(qg, .inr (7, [.ref qg_text, .int g_size, .int g_at, .int g_begin, .int g_token, .int g_told, .ref qg_read, .ref qg_life, .int o.2.1, .ref qg_done, .int o.2.2.1, .ref qg_undone, .ref qg_selves, .ref qg_when, .ref qg_jury, .int g_seens, .ref qg_years, .ref qg_states, .long g_trace, .ref qg_kept])), rI cI qg_text 200 g_text, rI cI qg_read 55 g_read, rI cI qg_life 55 g_life, rI cI qg_done 16 o.2.2.2, rI cI qg_undone 130 g_undone, rI cI qg_selves 16 g_selves, rI cI qg_when 27 g_when, rI cI qg_jury 16 g_jury, rI cI qg_years 6 g_years, rI cI qg_states 6 g_states, rI cI qg_kept 290 g_kept] (some (.int o.1)) 0 0 := by
  refine mkI (by decide) (Nat.le_of_ble_eq_true rfl) ?_
  intro p e s m args below meth c A Q X hret ls hl H locs hP hD hS
  replace X : Cx p s m args c D (Tys cI cZ cD cH) A cX7_undo RX7 2 := X
  obtain ⟨hx, hb, hml, hown, hts, hK, hZ, hA⟩ := id X
  have hl : lv_has ls 2 [(0, .ref qg)] := hl
  unfold fX7_undo at hf
  refine lv_aload_n hx hb dX7_undo_0 rfl (lv_at hl 0 rfl) ?_
  refine k_get X hP 0 rfl rfl inX7 10 (by decide) fl_RX7_122 rfl rfl dX7_undo_1 ?_
  refine lv_if_ne (tgt := 10) hx hb dX7_undo_4 (by decide) (fun c1 => ?_) (fun c1 => ?_)
  · replace hf := ite_f c1 hf
    refine lv_aload_n hx hb dX7_undo_10 rfl (lv_at hl 0 rfl) ?_
    refine lv_dup hx hb dX7_undo_11 rfl ?_
    refine k_get X hP 0 rfl rfl inX7 10 (by decide) fl_RX7_122 rfl rfl dX7_undo_12 ?_
    refine lv_iconst (v := 1) hx hb dX7_undo_15 (by decide) ?_
    refine lv_isub hx hb dX7_undo_16 ?_
    refine k_put X hP hD hS [(qg, .inr (7, [.ref qg_text, .int g_size, .int g_at, .int g_begin, .int g_token, .int g_told, .ref qg_read, .ref qg_life, .int g_dones, .ref qg_done, .int (g_undos - 1), .ref qg_undone, .ref qg_selves, .ref qg_when, .ref qg_jury, .int g_seens, .ref qg_years, .ref qg_states, .long g_trace, .ref qg_kept])), rI cI qg_text 200 g_text, rI cI qg_read 55 g_read, rI cI qg_life 55 g_life, rI cI qg_done 16 g_done, rI cI qg_undone 130 g_undone, rI cI qg_selves 16 g_selves, rI cI qg_when 27 g_when, rI cI qg_jury 16 g_jury, rI cI qg_years 6 g_years, rI cI qg_states 6 g_states, rI cI qg_kept 290 g_kept] 0 rfl rfl inX7 tyX7_ok nmX7 10 (by decide) fl_RX7_122 rfl rfl rfl rfl (Nat.le_of_ble_eq_true rfl) rfl dX7_undo_17 (fun H locs hP hD hS => ?_)
    refine lv_aload_n hx hb dX7_undo_20 rfl (lv_at hl 0 rfl) ?_
    refine lv_aload_n hx hb dX7_undo_21 rfl (lv_at hl 0 rfl) ?_
    refine k_get X hP 0 rfl rfl inX7 11 (by decide) fl_RX7_22 rfl rfl dX7_undo_22 ?_
    refine lv_bipush (v := 13) hx hb dX7_undo_25 (by decide) ?_
    refine lv_aload_n hx hb dX7_undo_27 rfl (lv_at hl 0 rfl) ?_
    refine k_get X hP 0 rfl rfl inX7 10 (by decide) fl_RX7_122 rfl rfl dX7_undo_28 ?_
    refine lv_imul hx hb dX7_undo_31 ?_
    obtain ⟨h2, hf⟩ := ck_t hf
    refine k_iald X hP 5 0 rfl rfl h2 dX7_undo_32 ?_
    refine k_put X hP hD hS [(qg, .inr (7, [.ref qg_text, .int g_size, .int g_at, .int g_begin, .int g_token, .int g_told, .ref qg_read, .ref qg_life, .int (g_undone (13 * (g_undos - 1)).toNatClampNeg), .ref qg_done, .int (g_undos - 1), .ref qg_undone, .ref qg_selves, .ref qg_when, .ref qg_jury, .int g_seens, .ref qg_years, .ref qg_states, .long g_trace, .ref qg_kept])), rI cI qg_text 200 g_text, rI cI qg_read 55 g_read, rI cI qg_life 55 g_life, rI cI qg_done 16 g_done, rI cI qg_undone 130 g_undone, rI cI qg_selves 16 g_selves, rI cI qg_when 27 g_when, rI cI qg_jury 16 g_jury, rI cI qg_years 6 g_years, rI cI qg_states 6 g_states, rI cI qg_kept 290 g_kept] 0 rfl rfl inX7 tyX7_ok nmX7 8 (by decide) fl_RX7_119 rfl rfl rfl rfl (Nat.le_of_ble_eq_true rfl) rfl dX7_undo_33 (fun H locs hP hD hS => ?_)
    refine lv_iconst (v := 0) hx hb dX7_undo_36 (by decide) ?_
    refine lv_istore_n (lv' := [(1, .int 0), (0, .ref qg)]) hx hb dX7_undo_37 rfl hl (by decide) rfl (fun ls hl => ?_)
    obtain ⟨e3, he3, hf⟩ := bnd hf
    have hx3_0 : ∀ (y3_0 : (Nat → Int32)), y3_0 = e3 → ∀ (H : Heap) (locs : List Loc) (ls : Array Slot), va_P D vwCl [(qg, .inr (7, [.ref qg_text, .int g_size, .int g_at, .int g_begin, .int g_token, .int g_told, .ref qg_read, .ref qg_life, .int (g_undone (13 * (g_undos - 1)).toNatClampNeg), .ref qg_done, .int (g_undos - 1), .ref qg_undone, .ref qg_selves, .ref qg_when, .ref qg_jury, .int g_seens, .ref qg_years, .ref qg_states, .long g_trace, .ref qg_kept])), rI cI qg_text 200 g_text, rI cI qg_read 55 g_read, rI cI qg_life 55 g_life, rI cI qg_done 16 y3_0, rI cI qg_undone 130 g_undone, rI cI qg_selves 16 g_selves, rI cI qg_when 27 g_when, rI cI qg_jury 16 g_jury, rI cI qg_years 6 g_years, rI cI qg_states 6 g_states, rI cI qg_kept 290 g_kept] H → va_D A [(qg, .inr (7, [.ref qg_text, .int g_size, .int g_at, .int g_begin, .int g_token, .int g_told, .ref qg_read, .ref qg_life, .int (g_undone (13 * (g_undos - 1)).toNatClampNeg), .ref qg_done, .int (g_undos - 1), .ref qg_undone, .ref qg_selves, .ref qg_when, .ref qg_jury, .int g_seens, .ref qg_years, .ref qg_states, .long g_trace, .ref qg_kept])), rI cI qg_text 200 g_text, rI cI qg_read 55 g_read, rI cI qg_life 55 g_life, rI cI qg_done 16 y3_0, rI cI qg_undone 130 g_undone, rI cI qg_selves 16 g_selves, rI cI qg_when 27 g_when, rI cI qg_jury 16 g_jury, rI cI qg_years 6 g_years, rI cI qg_states 6 g_states, rI cI qg_kept 290 g_kept] → va_S A s.heap H locs → lv_has ls 2 [(0, .ref qg)] → W p l e ({ frames := 0, cells := 0, slots := 0, locals := 0 } : Room) s m args below meth c H locs 0 0 Q (F0 m 72 ls []) := by
      intro y3_0 heq H locs ls hP hD hS hl
      subst heq
      refine lv_aload_n hx hb dX7_undo_72 rfl (lv_at hl 0 rfl) ?_
      refine k_get X hP 0 rfl rfl inX7 10 (by decide) fl_RX7_122 rfl rfl dX7_undo_73 ?_
      replace hf := Option.some.inj hf
      subst hf
      exact hret H locs _ ls dX7_undo_76 hP hD hS
    refine lpd_ind (P := fun s3 => ∀ (H : Heap) (locs : List Loc) (ls : Array Slot), va_P D vwCl [(qg, .inr (7, [.ref qg_text, .int g_size, .int g_at, .int g_begin, .int g_token, .int g_told, .ref qg_read, .ref qg_life, .int (g_undone (13 * (g_undos - 1)).toNatClampNeg), .ref qg_done, .int (g_undos - 1), .ref qg_undone, .ref qg_selves, .ref qg_when, .ref qg_jury, .int g_seens, .ref qg_years, .ref qg_states, .long g_trace, .ref qg_kept])), rI cI qg_text 200 g_text, rI cI qg_read 55 g_read, rI cI qg_life 55 g_life, rI cI qg_done 16 s3.2, rI cI qg_undone 130 g_undone, rI cI qg_selves 16 g_selves, rI cI qg_when 27 g_when, rI cI qg_jury 16 g_jury, rI cI qg_years 6 g_years, rI cI qg_states 6 g_states, rI cI qg_kept 290 g_kept] H → va_D A [(qg, .inr (7, [.ref qg_text, .int g_size, .int g_at, .int g_begin, .int g_token, .int g_told, .ref qg_read, .ref qg_life, .int (g_undone (13 * (g_undos - 1)).toNatClampNeg), .ref qg_done, .int (g_undos - 1), .ref qg_undone, .ref qg_selves, .ref qg_when, .ref qg_jury, .int g_seens, .ref qg_years, .ref qg_states, .long g_trace, .ref qg_kept])), rI cI qg_text 200 g_text, rI cI qg_read 55 g_read, rI cI qg_life 55 g_life, rI cI qg_done 16 s3.2, rI cI qg_undone 130 g_undone, rI cI qg_selves 16 g_selves, rI cI qg_when 27 g_when, rI cI qg_jury 16 g_jury, rI cI qg_years 6 g_years, rI cI qg_states 6 g_states, rI cI qg_kept 290 g_kept] → va_S A s.heap H locs → lv_has ls 2 [(0, .ref qg), (1, .int s3.1)] → W p l e ({ frames := 0, cells := 0, slots := 0, locals := 0 } : Room) s m args below meth c H locs 0 0 Q (F0 m 38 ls [])) e3 ?_ _ _ he3 H locs ls hP hD hS (lv_sub hl [1, 0] rfl)
    intro s3 r3 hf ih3 hq3 H locs ls hP hD hS hl
    unfold sX7_undo_38 at hf
    refine lv_iload_n hx hb dX7_undo_38 rfl (lv_at hl 1 rfl) ?_
    refine lv_bipush (v := 12) hx hb dX7_undo_39 (by decide) ?_
    refine lv_icmp_ge (tgt := 72) hx hb dX7_undo_41 (by decide) (fun c4 => ?_) (fun c4 => ?_)
    · replace hf := ite_t c4 hf
      exact hx3_0 _ (hq3 _ (Option.some.inj hf).symm) H locs ls hP hD hS (lv_sub hl [0] rfl)
    · replace hf := ite_f c4 hf
      refine lv_aload_n hx hb dX7_undo_44 rfl (lv_at hl 0 rfl) ?_
      refine k_get X hP 0 rfl rfl inX7 9 (by decide) fl_RX7_19 rfl rfl dX7_undo_45 ?_
      refine lv_iload_n hx hb dX7_undo_48 rfl (lv_at hl 1 rfl) ?_
      refine lv_aload_n hx hb dX7_undo_49 rfl (lv_at hl 0 rfl) ?_
      refine k_get X hP 0 rfl rfl inX7 11 (by decide) fl_RX7_22 rfl rfl dX7_undo_50 ?_
      refine lv_bipush (v := 13) hx hb dX7_undo_53 (by decide) ?_
      refine lv_aload_n hx hb dX7_undo_55 rfl (lv_at hl 0 rfl) ?_
      refine k_get X hP 0 rfl rfl inX7 10 (by decide) fl_RX7_122 rfl rfl dX7_undo_56 ?_
      refine lv_imul hx hb dX7_undo_59 ?_
      refine lv_iconst (v := 1) hx hb dX7_undo_60 (by decide) ?_
      refine lv_iadd hx hb dX7_undo_61 ?_
      refine lv_iload_n hx hb dX7_undo_62 rfl (lv_at hl 1 rfl) ?_
      refine lv_iadd hx hb dX7_undo_63 ?_
      obtain ⟨h5, hf⟩ := ck_t hf
      refine k_iald X hP 5 0 rfl rfl h5 dX7_undo_64 ?_
      obtain ⟨h6, hf⟩ := ck_t hf
      refine k_iast X hP hD hS [(qg, .inr (7, [.ref qg_text, .int g_size, .int g_at, .int g_begin, .int g_token, .int g_told, .ref qg_read, .ref qg_life, .int (g_undone (13 * (g_undos - 1)).toNatClampNeg), .ref qg_done, .int (g_undos - 1), .ref qg_undone, .ref qg_selves, .ref qg_when, .ref qg_jury, .int g_seens, .ref qg_years, .ref qg_states, .long g_trace, .ref qg_kept])), rI cI qg_text 200 g_text, rI cI qg_read 55 g_read, rI cI qg_life 55 g_life, rI cI qg_done 16 (upd s3.2 s3.1.toNatClampNeg (g_undone (((13 * (g_undos - 1)) + 1) + s3.1).toNatClampNeg)), rI cI qg_undone 130 g_undone, rI cI qg_selves 16 g_selves, rI cI qg_when 27 g_when, rI cI qg_jury 16 g_jury, rI cI qg_years 6 g_years, rI cI qg_states 6 g_states, rI cI qg_kept 290 g_kept] 4 0 rfl rfl h6 rfl dX7_undo_65 (fun H locs hP hD hS => ?_)
      refine lv_iinc (v := s3.1 + 1) (lv' := [(1, .int (s3.1 + 1)), (0, .ref qg)]) hx hb dX7_undo_66 hl (k := 1) rfl rfl (by decide) rfl (fun ls hl => ?_)
      refine lv_goto (tgt := 38) hx hb dX7_undo_69 (by decide) ?_
      exact ih3 _ (Option.some.inj hf).symm H locs ls hP hD hS (lv_sub hl [1, 0] rfl)
  · replace hf := ite_t c1 hf
    refine lv_bipush (v := (-2)) hx hb dX7_undo_7 (by decide) ?_
    replace hf := Option.some.inj hf
    subst hf
    exact hret H locs _ ls dX7_undo_9 hP hD hS

def fX7_beginning (g_life : Nat → Int32) : Option (Int32) :=
  if inb 2 55 = true then (fX7_isState (g_life (2 : Int32).toNatClampNeg) g_life).bind (fun r2 => if (bI r2) = 0 then some 0 else if inb 2 55 = true then some (g_life (2 : Int32).toNatClampNeg) else none) else none
set_option maxHeartbeats 4000000 in
set_option maxRecDepth 100000 in
theorem ctX7_beginning (l : Launch) (D : va_G) (cI cZ cD cH : ClassId) (qg : Nat) (qg_text : Nat) (qg_read : Nat) (qg_life : Nat) (qg_done : Nat) (qg_undone : Nat) (qg_selves : Nat) (qg_when : Nat) (qg_jury : Nat) (qg_years : Nat) (qg_states : Nat) (qg_kept : Nat) (g_size : Int32) (g_at : Int32) (g_begin : Int32) (g_token : Int32) (g_told : Int32) (g_dones : Int32) (g_undos : Int32) (g_seens : Int32) (g_trace : Int64) (g_text : Nat → Int32) (g_read : Nat → Int32) (g_life : Nat → Int32) (g_done : Nat → Int32) (g_undone : Nat → Int32) (g_selves : Nat → Int32) (g_when : Nat → Int32) (g_jury : Nat → Int32) (g_years : Nat → Int32) (g_states : Nat → Int32) (g_kept : Nat → Int32) (o : Int32) (hf : fX7_beginning g_life = some o) : Ct l yX7_beginning cX7_beginning 1 (some .int) { frames := 2, cells := 0, slots := 0, locals := 46 } D (Tys cI cZ cD cH) [.ref qg] [(qg, .inr (7, [.ref qg_text, .int g_size, .int g_at, .int g_begin, .int g_token, .int g_told, .ref qg_read, .ref qg_life, .int g_dones, .ref qg_done, .int g_undos, .ref qg_undone, .ref qg_selves, .ref qg_when, .ref qg_jury, .int g_seens, .ref qg_years, .ref qg_states, .long g_trace, .ref qg_kept])), rI cI qg_text 200 g_text, rI cI qg_read 55 g_read, rI cI qg_life 55 g_life, rI cI qg_done 16 g_done, rI cI qg_undone 130 g_undone, rI cI qg_selves 16 g_selves, rI cI qg_when 27 g_when, rI cI qg_jury 16 g_jury, rI cI qg_years 6 g_years, rI cI qg_states 6 g_states, rI cI qg_kept 290 g_kept] [(qg, .inr (7, [.ref qg_text, .int g_size, .int g_at, .int g_begin, .int g_token, .int g_told, .ref qg_read, .ref qg_life, .int g_dones, .ref qg_done, .int g_undos, .ref qg_undone, .ref qg_selves, .ref qg_when, .ref qg_jury, .int g_seens, .ref qg_years, .ref qg_states, .long g_trace, .ref qg_kept])), rI cI qg_text 200 g_text, rI cI qg_read 55 g_read, rI cI qg_life 55 g_life, rI cI qg_done 16 g_done, rI cI qg_undone 130 g_undone, rI cI qg_selves 16 g_selves, rI cI qg_when 27 g_when, rI cI qg_jury 16 g_jury, rI cI qg_years 6 g_years, rI cI qg_states 6 g_states, rI cI qg_kept 290 g_kept] (some (.int o)) 0 0 := by
  refine mkI (by decide) (Nat.le_of_ble_eq_true rfl) ?_
  intro p e s m args below meth c A Q X hret ls hl H locs hP hD hS
  replace X : Cx p s m args c D (Tys cI cZ cD cH) A cX7_beginning RX7 1 := X
  obtain ⟨hx, hb, hml, hown, hts, hK, hZ, hA⟩ := id X
  have hl : lv_has ls 1 [(0, .ref qg)] := hl
  unfold fX7_beginning at hf
  refine lv_aload_n hx hb dX7_beginning_0 rfl (lv_at hl 0 rfl) ?_
  refine lv_aload_n hx hb dX7_beginning_1 rfl (lv_at hl 0 rfl) ?_
  refine k_get X hP 0 rfl rfl inX7 7 (by decide) fl_RX7_16 rfl rfl dX7_beginning_2 ?_
  refine lv_iconst (v := 2) hx hb dX7_beginning_5 (by decide) ?_
  obtain ⟨h1, hf⟩ := ck_t hf
  refine k_iald X hP 3 0 rfl rfl h1 dX7_beginning_6 ?_
  obtain ⟨r2, hr2, hf⟩ := bnd hf
  refine k_callV X hP hD hS [(qg, .inr (7, [.ref qg_text, .int g_size, .int g_at, .int g_begin, .int g_token, .int g_told, .ref qg_read, .ref qg_life, .int g_dones, .ref qg_done, .int g_undos, .ref qg_undone, .ref qg_selves, .ref qg_when, .ref qg_jury, .int g_seens, .ref qg_years, .ref qg_states, .long g_trace, .ref qg_kept])), rI cI qg_text 200 g_text, rI cI qg_read 55 g_read, rI cI qg_life 55 g_life, rI cI qg_done 16 g_done, rI cI qg_undone 130 g_undone, rI cI qg_selves 16 g_selves, rI cI qg_when 27 g_when, rI cI qg_jury 16 g_jury, rI cI qg_years 6 g_years, rI cI qg_states 6 g_states, rI cI qg_kept 290 g_kept] (ctX7_isState l D cI cZ cD cH qg qg_text qg_read qg_life qg_done qg_undone qg_selves qg_when qg_jury qg_years qg_states qg_kept (g_life (2 : Int32).toNatClampNeg) g_size g_at g_begin g_token g_told g_dones g_undos g_seens g_trace g_text g_read g_life g_done g_undone g_selves g_when g_jury g_years g_states g_kept r2 hr2) ml_RX7_132 im_yX7_isState se_yX7_isState in_RX7 cd_yX7_isState rfl rfl hd_yX7_isState ⟨by decide, by decide⟩ ⟨Nat.zero_le _, Nat.zero_le _⟩ [0, 1, 2, 3, 4, 5, 6, 7, 8, 9, 10, 11] [some 0, some 1, some 2, some 3, some 4, some 5, some 6, some 7, some 8, some 9, some 10, some 11] rfl (by decide +kernel) rfl (by decide +kernel) rfl rfl (q0 := 0) rfl rfl rfl hl.1 rfl rfl (Nat.le_of_ble_eq_true rfl) rfl dX7_beginning_7 (fun H locs hP hD hS => ?_)
  refine lv_if_eq (tgt := 22) hx hb dX7_beginning_10 (by decide) (fun c3 => ?_) (fun c3 => ?_)
  · replace hf := ite_t c3 hf
    refine lv_iconst (v := 0) hx hb dX7_beginning_22 (by decide) ?_
    replace hf := Option.some.inj hf
    subst hf
    exact hret H locs _ ls dX7_beginning_23 hP hD hS
  · replace hf := ite_f c3 hf
    refine lv_aload_n hx hb dX7_beginning_13 rfl (lv_at hl 0 rfl) ?_
    refine k_get X hP 0 rfl rfl inX7 7 (by decide) fl_RX7_16 rfl rfl dX7_beginning_14 ?_
    refine lv_iconst (v := 2) hx hb dX7_beginning_17 (by decide) ?_
    obtain ⟨h4, hf⟩ := ck_t hf
    refine k_iald X hP 3 0 rfl rfl h4 dX7_beginning_18 ?_
    refine lv_goto (tgt := 23) hx hb dX7_beginning_19 (by decide) ?_
    replace hf := Option.some.inj hf
    subst hf
    exact hret H locs _ ls dX7_beginning_23 hP hD hS
